/-! the face, where something may be thrown: the roads that throw -/
theorem qt_end {X : String} {A : Nat → Prop} {s t : State} {H : Heap} {locs : List Loc} {ce : Cell} {D : va_G} {cl : List vw_C} {w : va_W} {args : Array Value} (hP : va_P D cl w H) (hS : va_S A s.heap H locs) (e1 : t.heap = H.push ce) (e2 : s.vm.findClass X = some ce.cls) (e3 : ce.vm = .none) (e4 : s.WarmedH t.vm) : QT_ X (fun H => va_P D cl w H) A args s (.threw H.size) t := by
  have hk : ∀ q : Nat, q < H.size → (H.push ce)[q]? = H[q]? := fun q hq => by rw [Array.getElem?_push_lt hq, Array.getElem?_eq_getElem hq]
  refine ⟨⟨_, ce, rfl, by rw [e1]; simp, e3, by rw [e4.alike.findClass]; exact e2⟩, ?_, ?_, ?_⟩
  · rw [e1]
    exact fun k x hx => (hP k x hx).kept (hk _ (hP k x hx).lt)
  · rw [e1, Array.size_push]; exact Nat.le_succ_of_le hS.1
  · intro q h1 h2
    rw [e1, hk q (Nat.lt_of_lt_of_le h1 hS.1)]
    exact hS.2.1 q h1 h2
theorem d_S_node_15 : decode prog_1_method_2_code 15 = .ok (.new 56, 3) := by decide +kernel
theorem d_S_node_18 : decode prog_1_method_2_code 18 = .ok (.dup, 1) := by decide +kernel
theorem d_S_node_19 : decode prog_1_method_2_code 19 = .ok (.ldc 58, 2) := by decide +kernel
theorem d_S_node_21 : decode prog_1_method_2_code 21 = .ok (.invokespecial 60, 3) := by decide +kernel
theorem d_S_node_24 : decode prog_1_method_2_code 24 = .ok (.athrow, 1) := by decide +kernel
def f_S_node_t1 (σ : MZ_) (a1 : Int32) (a2 : Int32) (a3 : Int32) (a4 : Int32) : Option (MZ_) :=
  (f_G_allows σ a1 a2 a3 a4).bind fun r1 => if r1 = 0 then some σ
  else (f_G_isFull σ).bind fun r2 => if r2 = 0 then (f_G_add σ a1 a2 a3 a4).bind fun u3 => none
  else none
set_option maxHeartbeats 4000000 in
set_option maxRecDepth 100000 in
theorem c_S_node_t1 (l : Launch) (hfl : l.flags = pinnedFlags ++ [noTraceFlag]) (dC : Nat → ClassId) (dI : Nat → Nat → Nat) (q : Nat → Nat) (cA : Nat → ClassId) (pt : Nat) (σ : MZ_) (a1 : Int32) (a2 : Int32) (a3 : Int32) (a4 : Int32) (u : MZ_) (h : f_S_node_t1 σ a1 a2 a3 a4 = some u) : MT_ l y_S_node w_S_node rm_S_node_t (va_Pc [.ref (q 0), .int a1, .int a2, .int a3, .int a4] (fun U => PX_ dC dI q cA pt σ U ∧ EX_ (AX q) U)) (QT_ "java/lang/IllegalArgumentException" (fun H => va_P (dC, dI) cls_ (wX q cA u) H) (AX q)) 1 6 (AX q) := by
  refine MT_ofW (cc := prog_1_method_2_code) (maxL := 5) (ret := (some .int)) (by decide) rfl ?_
  intro p e s m args below meth c s₁ B hml hem hv
  obtain ⟨rfl, ⟨hP, hK, hD, hN, hZ⟩, hE⟩ := hv
  have hx := B.exec
  have hb := B.bytes
  have hr := B.returns
  have hts : ∀ w ∈ AW_, w.before _ s = true := fun w h => atoms_spec (ws := w_S_node) B.pre w (List.mem_cons_of_mem _ h)
  have hown : s.vm.findClass "StagedParsers" = some m.cls := findClass_of_methodNamed B.named
  have hlocks := B.notSynchronized
  have hS : va_S (AX q) s.heap s.heap [] := va_S.rf
  have hl := lv_entry ([.ref (q 0), .int a1, .int a2, .int a3, .int a4]) (n := 5) (Nat.le_of_ble_eq_true rfl)
  rw [lg_entry_eq]
  generalize (lg_sl ([.ref (q 0), .int a1, .int a2, .int a3, .int a4]) ++ List.replicate (5 - (lg_sl ([.ref (q 0), .int a1, .int a2, .int a3, .int a4])).length) Slot.unset).toArray = ls at hl ⊢
  have hl : lv_has ls 5 [(0, .ref (q 0)), (1, .int a1), (2, .int a2), (3, .int a3), (4, .int a4)] := hl
  rw [f_S_node_t1] at h
  refine lv_aload_n hx hb d_S_node_0 rfl (lv_at hl 0 rfl) ?_
  refine gf_S_12 hx hb hts hown hK hP d_S_node_1 ?_
  refine lv_iload_n hx hb d_S_node_4 rfl (lv_at hl 1 rfl) ?_
  refine lv_iload_n hx hb d_S_node_5 rfl (lv_at hl 2 rfl) ?_
  refine lv_iload_n hx hb d_S_node_6 rfl (lv_at hl 3 rfl) ?_
  refine lv_iload hx hb d_S_node_7 (lv_at hl 4 rfl) ?_
  obtain ⟨r1, hcl, h⟩ := bd_some h
  refine cx_read (va_runV (As := [.int a1, .int a2, .int a3, .int a4]) (rest := []) ⟨hx, hb, hml, hown, hts⟩ (c_G_allows l dC dI q cA pt σ a1 a2 a3 a4 _ hcl) (cw_S_52 hts ⟨Nat.le_of_ble_eq_true rfl, Nat.le_of_ble_eq_true rfl⟩) ⟨pxX_B, va_recv hK hP (ci := 1) (q0 := 1) rfl rfl, pxX_U hP hK hD hN hZ hS⟩ rfl rfl hl.1 rfl (lv_room (Nat.le_of_ble_eq_true rfl)) d_S_node_9 ⟨Nat.zero_le _, Nat.zero_le _⟩) ?_
  refine lv_if_ne (tgt := 25) hx hb d_S_node_12 rfl (fun hc => ?_) (fun hc => ?_)
  · have h := if_f hc h
    refine lv_aload_n hx hb d_S_node_25 rfl (lv_at hl 0 rfl) ?_
    refine gf_S_12 hx hb hts hown hK hP d_S_node_26 ?_
    obtain ⟨r2, hcl, h⟩ := bd_some h
    refine cx_read (va_runV (As := []) (rest := []) ⟨hx, hb, hml, hown, hts⟩ (c_G_isFull l dC dI q cA pt σ _ hcl) (cw_S_63 hts ⟨Nat.le_of_ble_eq_true rfl, Nat.le_of_ble_eq_true rfl⟩) ⟨pxX_B, va_recv hK hP (ci := 1) (q0 := 1) rfl rfl, pxX_U hP hK hD hN hZ hS⟩ rfl rfl hl.1 rfl (lv_room (Nat.le_of_ble_eq_true rfl)) d_S_node_29 ⟨Nat.zero_le _, Nat.zero_le _⟩) ?_
    refine lv_if_eq (tgt := 45) hx hb d_S_node_32 rfl (fun hc => ?_) (fun hc => ?_)
    · have h := if_t hc h
      refine lv_aload_n hx hb d_S_node_45 rfl (lv_at hl 0 rfl) ?_
      refine gf_S_12 hx hb hts hown hK hP d_S_node_46 ?_
      refine lv_iload_n hx hb d_S_node_49 rfl (lv_at hl 1 rfl) ?_
      refine lv_iload_n hx hb d_S_node_50 rfl (lv_at hl 2 rfl) ?_
      refine lv_iload_n hx hb d_S_node_51 rfl (lv_at hl 3 rfl) ?_
      refine lv_iload hx hb d_S_node_52 (lv_at hl 4 rfl) ?_
      obtain ⟨u3, hcl, h⟩ := bd_some h
      refine cx_wri (va_runV (As := [.int a1, .int a2, .int a3, .int a4]) (rest := []) ⟨hx, hb, hml, hown, hts⟩ (c_G_add l dC dI q cA pt σ a1 a2 a3 a4 _ hcl) (cw_S_72 hts ⟨Nat.le_of_ble_eq_true rfl, Nat.le_of_ble_eq_true rfl⟩) ⟨pxX_B, va_recv hK hP (ci := 1) (q0 := 1) rfl rfl, pxX_U hP hK hD hN hZ hS⟩ rfl rfl hl.1 rfl (lv_room (Nat.le_of_ble_eq_true rfl)) d_S_node_54 ⟨Nat.zero_le _, Nat.zero_le _⟩) hS (fun _ h => h) (fun H locs hP hS => ?_)
      have hD : va_D (AX q) (wX q cA u3.2) := dd_re (wX_f _ _ _ _) hD
      cases h
    · have h := if_f hc h
      cases h
  · have h := if_t hc h
    obtain rfl := Option.some.inj h
    obtain ⟨ast, hst⟩ := hE.2.1 (58, "no such node can be made") (List.mem_of_getElem? (i := 0) rfl)
    exact tw_new hfl hx hb hem hown (by decide) bx_IA_0 bx_IA_1 bx_IA_2 bx_IA_5 (fun w hw => tn_all hts hE w (tn_IA w hw)) (hts _ kw_443) (hts _ kw_13) hst hE.1 hS (hl.1.trans hml.symm) d_S_node_15 d_S_node_18 d_S_node_19 d_S_node_21 d_S_node_24 (Nat.le_of_ble_eq_true rfl) (Nat.le_of_ble_eq_true rfl) (Nat.le_of_ble_eq_true rfl) (Nat.le_of_ble_eq_true rfl) (fun t ce e1 e2 e3 e4 => qt_end hP hS e1 e2 e3 e4) hS.2.2 hlocks
theorem d_S_node_35 : decode prog_1_method_2_code 35 = .ok (.new 67, 3) := by decide +kernel
theorem d_S_node_38 : decode prog_1_method_2_code 38 = .ok (.dup, 1) := by decide +kernel
theorem d_S_node_39 : decode prog_1_method_2_code 39 = .ok (.ldc 69, 2) := by decide +kernel
theorem d_S_node_41 : decode prog_1_method_2_code 41 = .ok (.invokespecial 71, 3) := by decide +kernel
theorem d_S_node_44 : decode prog_1_method_2_code 44 = .ok (.athrow, 1) := by decide +kernel
def f_S_node_t2 (σ : MZ_) (a1 : Int32) (a2 : Int32) (a3 : Int32) (a4 : Int32) : Option (MZ_) :=
  (f_G_allows σ a1 a2 a3 a4).bind fun r1 => if r1 = 0 then none
  else (f_G_isFull σ).bind fun r2 => if r2 = 0 then (f_G_add σ a1 a2 a3 a4).bind fun u3 => none
  else some σ
set_option maxHeartbeats 4000000 in
set_option maxRecDepth 100000 in
theorem c_S_node_t2 (l : Launch) (hfl : l.flags = pinnedFlags ++ [noTraceFlag]) (dC : Nat → ClassId) (dI : Nat → Nat → Nat) (q : Nat → Nat) (cA : Nat → ClassId) (pt : Nat) (σ : MZ_) (a1 : Int32) (a2 : Int32) (a3 : Int32) (a4 : Int32) (u : MZ_) (h : f_S_node_t2 σ a1 a2 a3 a4 = some u) : MT_ l y_S_node w_S_node rm_S_node_t (va_Pc [.ref (q 0), .int a1, .int a2, .int a3, .int a4] (fun U => PX_ dC dI q cA pt σ U ∧ EX_ (AX q) U)) (QT_ "java/lang/IllegalStateException" (fun H => va_P (dC, dI) cls_ (wX q cA u) H) (AX q)) 1 6 (AX q) := by
  refine MT_ofW (cc := prog_1_method_2_code) (maxL := 5) (ret := (some .int)) (by decide) rfl ?_
  intro p e s m args below meth c s₁ B hml hem hv
  obtain ⟨rfl, ⟨hP, hK, hD, hN, hZ⟩, hE⟩ := hv
  have hx := B.exec
  have hb := B.bytes
  have hr := B.returns
  have hts : ∀ w ∈ AW_, w.before _ s = true := fun w h => atoms_spec (ws := w_S_node) B.pre w (List.mem_cons_of_mem _ h)
  have hown : s.vm.findClass "StagedParsers" = some m.cls := findClass_of_methodNamed B.named
  have hlocks := B.notSynchronized
  have hS : va_S (AX q) s.heap s.heap [] := va_S.rf
  have hl := lv_entry ([.ref (q 0), .int a1, .int a2, .int a3, .int a4]) (n := 5) (Nat.le_of_ble_eq_true rfl)
  rw [lg_entry_eq]
  generalize (lg_sl ([.ref (q 0), .int a1, .int a2, .int a3, .int a4]) ++ List.replicate (5 - (lg_sl ([.ref (q 0), .int a1, .int a2, .int a3, .int a4])).length) Slot.unset).toArray = ls at hl ⊢
  have hl : lv_has ls 5 [(0, .ref (q 0)), (1, .int a1), (2, .int a2), (3, .int a3), (4, .int a4)] := hl
  rw [f_S_node_t2] at h
  refine lv_aload_n hx hb d_S_node_0 rfl (lv_at hl 0 rfl) ?_
  refine gf_S_12 hx hb hts hown hK hP d_S_node_1 ?_
  refine lv_iload_n hx hb d_S_node_4 rfl (lv_at hl 1 rfl) ?_
  refine lv_iload_n hx hb d_S_node_5 rfl (lv_at hl 2 rfl) ?_
  refine lv_iload_n hx hb d_S_node_6 rfl (lv_at hl 3 rfl) ?_
  refine lv_iload hx hb d_S_node_7 (lv_at hl 4 rfl) ?_
  obtain ⟨r1, hcl, h⟩ := bd_some h
  refine cx_read (va_runV (As := [.int a1, .int a2, .int a3, .int a4]) (rest := []) ⟨hx, hb, hml, hown, hts⟩ (c_G_allows l dC dI q cA pt σ a1 a2 a3 a4 _ hcl) (cw_S_52 hts ⟨Nat.le_of_ble_eq_true rfl, Nat.le_of_ble_eq_true rfl⟩) ⟨pxX_B, va_recv hK hP (ci := 1) (q0 := 1) rfl rfl, pxX_U hP hK hD hN hZ hS⟩ rfl rfl hl.1 rfl (lv_room (Nat.le_of_ble_eq_true rfl)) d_S_node_9 ⟨Nat.zero_le _, Nat.zero_le _⟩) ?_
  refine lv_if_ne (tgt := 25) hx hb d_S_node_12 rfl (fun hc => ?_) (fun hc => ?_)
  · have h := if_f hc h
    refine lv_aload_n hx hb d_S_node_25 rfl (lv_at hl 0 rfl) ?_
    refine gf_S_12 hx hb hts hown hK hP d_S_node_26 ?_
    obtain ⟨r2, hcl, h⟩ := bd_some h
    refine cx_read (va_runV (As := []) (rest := []) ⟨hx, hb, hml, hown, hts⟩ (c_G_isFull l dC dI q cA pt σ _ hcl) (cw_S_63 hts ⟨Nat.le_of_ble_eq_true rfl, Nat.le_of_ble_eq_true rfl⟩) ⟨pxX_B, va_recv hK hP (ci := 1) (q0 := 1) rfl rfl, pxX_U hP hK hD hN hZ hS⟩ rfl rfl hl.1 rfl (lv_room (Nat.le_of_ble_eq_true rfl)) d_S_node_29 ⟨Nat.zero_le _, Nat.zero_le _⟩) ?_
    refine lv_if_eq (tgt := 45) hx hb d_S_node_32 rfl (fun hc => ?_) (fun hc => ?_)
    · have h := if_t hc h
      refine lv_aload_n hx hb d_S_node_45 rfl (lv_at hl 0 rfl) ?_
      refine gf_S_12 hx hb hts hown hK hP d_S_node_46 ?_
      refine lv_iload_n hx hb d_S_node_49 rfl (lv_at hl 1 rfl) ?_
      refine lv_iload_n hx hb d_S_node_50 rfl (lv_at hl 2 rfl) ?_
      refine lv_iload_n hx hb d_S_node_51 rfl (lv_at hl 3 rfl) ?_
      refine lv_iload hx hb d_S_node_52 (lv_at hl 4 rfl) ?_
      obtain ⟨u3, hcl, h⟩ := bd_some h
      refine cx_wri (va_runV (As := [.int a1, .int a2, .int a3, .int a4]) (rest := []) ⟨hx, hb, hml, hown, hts⟩ (c_G_add l dC dI q cA pt σ a1 a2 a3 a4 _ hcl) (cw_S_72 hts ⟨Nat.le_of_ble_eq_true rfl, Nat.le_of_ble_eq_true rfl⟩) ⟨pxX_B, va_recv hK hP (ci := 1) (q0 := 1) rfl rfl, pxX_U hP hK hD hN hZ hS⟩ rfl rfl hl.1 rfl (lv_room (Nat.le_of_ble_eq_true rfl)) d_S_node_54 ⟨Nat.zero_le _, Nat.zero_le _⟩) hS (fun _ h => h) (fun H locs hP hS => ?_)
      have hD : va_D (AX q) (wX q cA u3.2) := dd_re (wX_f _ _ _ _) hD
      cases h
    · have h := if_f hc h
      obtain rfl := Option.some.inj h
      obtain ⟨ast, hst⟩ := hE.2.1 (69, "there are 80 nodes") (List.mem_of_getElem? (i := 1) rfl)
      exact tw_new hfl hx hb hem hown (by decide) bx_IS_0 bx_IS_1 bx_IS_2 bx_IS_5 (fun w hw => tn_all hts hE w (tn_IS w hw)) (hts _ kw_516) (hts _ kw_14) hst hE.1 hS (hl.1.trans hml.symm) d_S_node_35 d_S_node_38 d_S_node_39 d_S_node_41 d_S_node_44 (Nat.le_of_ble_eq_true rfl) (Nat.le_of_ble_eq_true rfl) (Nat.le_of_ble_eq_true rfl) (Nat.le_of_ble_eq_true rfl) (fun t ce e1 e2 e3 e4 => qt_end hP hS e1 e2 e3 e4) hS.2.2 hlocks
  · have h := if_t hc h
    cases h
theorem d_S_rule_22 : decode prog_1_method_3_code 22 = .ok (.new 56, 3) := by decide +kernel
theorem d_S_rule_25 : decode prog_1_method_3_code 25 = .ok (.dup, 1) := by decide +kernel
theorem d_S_rule_26 : decode prog_1_method_3_code 26 = .ok (.ldc 83, 2) := by decide +kernel
theorem d_S_rule_28 : decode prog_1_method_3_code 28 = .ok (.invokespecial 60, 3) := by decide +kernel
theorem d_S_rule_31 : decode prog_1_method_3_code 31 = .ok (.athrow, 1) := by decide +kernel
def f_S_rule_t1 (σ : MZ_) (a1 : Int32) (a2 : Int32) : Option (MZ_) :=
  (f_G_isRule a1).bind fun r1 => if r1 = 0 then some σ
  else (f_G_isNode σ a2).bind fun r2 => if r2 = 0 then some σ
  else (f_G_setBody σ a1 a2).bind fun u3 => st_ (va_up u3 30 (fun _ => 0)) fun σ1 => (f_G_bodies σ1).bind fun r4 => none
set_option maxHeartbeats 4000000 in
set_option maxRecDepth 100000 in
theorem c_S_rule_t1 (l : Launch) (hfl : l.flags = pinnedFlags ++ [noTraceFlag]) (dC : Nat → ClassId) (dI : Nat → Nat → Nat) (q : Nat → Nat) (cA : Nat → ClassId) (pt : Nat) (σ : MZ_) (a1 : Int32) (a2 : Int32) (u : MZ_) (h : f_S_rule_t1 σ a1 a2 = some u) : MT_ l y_S_rule w_S_rule rm_S_rule_t (va_Pc [.ref (q 0), .int a1, .int a2] (fun U => PX_ dC dI q cA pt σ U ∧ EX_ (AX q) U)) (QT_ "java/lang/IllegalArgumentException" (fun H => va_P (dC, dI) cls_ (wX q cA u) H) (AX q)) 1 6 (AX q) := by
  refine MT_ofW (cc := prog_1_method_3_code) (maxL := 3) (ret := (some .int)) (by decide) rfl ?_
  intro p e s m args below meth c s₁ B hml hem hv
  obtain ⟨rfl, ⟨hP, hK, hD, hN, hZ⟩, hE⟩ := hv
  have hx := B.exec
  have hb := B.bytes
  have hr := B.returns
  have hts : ∀ w ∈ AW_, w.before _ s = true := fun w h => atoms_spec (ws := w_S_rule) B.pre w (List.mem_cons_of_mem _ h)
  have hown : s.vm.findClass "StagedParsers" = some m.cls := findClass_of_methodNamed B.named
  have hlocks := B.notSynchronized
  have hS : va_S (AX q) s.heap s.heap [] := va_S.rf
  have hl := lv_entry ([.ref (q 0), .int a1, .int a2]) (n := 3) (Nat.le_of_ble_eq_true rfl)
  rw [lg_entry_eq]
  generalize (lg_sl ([.ref (q 0), .int a1, .int a2]) ++ List.replicate (3 - (lg_sl ([.ref (q 0), .int a1, .int a2])).length) Slot.unset).toArray = ls at hl ⊢
  have hl : lv_has ls 3 [(0, .ref (q 0)), (1, .int a1), (2, .int a2)] := hl
  rw [f_S_rule_t1] at h
  refine lv_aload_n hx hb d_S_rule_0 rfl (lv_at hl 0 rfl) ?_
  refine gf_S_12 hx hb hts hown hK hP d_S_rule_1 ?_
  refine lv_iload_n hx hb d_S_rule_4 rfl (lv_at hl 1 rfl) ?_
  obtain ⟨r1, hcl, h⟩ := bd_some h
  refine cx_read (va_runV (As := [.int a1]) (rest := []) ⟨hx, hb, hml, hown, hts⟩ (c_G_isRule l dC dI q cA pt σ a1 _ hcl) (cw_S_76 hts ⟨Nat.le_of_ble_eq_true rfl, Nat.le_of_ble_eq_true rfl⟩) ⟨pxX_B, va_recv hK hP (ci := 1) (q0 := 1) rfl rfl, pxX_U hP hK hD hN hZ hS⟩ rfl rfl hl.1 rfl (lv_room (Nat.le_of_ble_eq_true rfl)) d_S_rule_5 ⟨Nat.zero_le _, Nat.zero_le _⟩) ?_
  refine lv_if_eq (tgt := 22) hx hb d_S_rule_8 rfl (fun hc => ?_) (fun hc => ?_)
  · have h := if_t hc h
    obtain rfl := Option.some.inj h
    obtain ⟨ast, hst⟩ := hE.2.1 (83, "no such rule or node") (List.mem_of_getElem? (i := 2) rfl)
    exact tw_new hfl hx hb hem hown (by decide) bx_IA_0 bx_IA_1 bx_IA_2 bx_IA_5 (fun w hw => tn_all hts hE w (tn_IA w hw)) (hts _ kw_443) (hts _ kw_13) hst hE.1 hS (hl.1.trans hml.symm) d_S_rule_22 d_S_rule_25 d_S_rule_26 d_S_rule_28 d_S_rule_31 (Nat.le_of_ble_eq_true rfl) (Nat.le_of_ble_eq_true rfl) (Nat.le_of_ble_eq_true rfl) (Nat.le_of_ble_eq_true rfl) (fun t ce e1 e2 e3 e4 => qt_end hP hS e1 e2 e3 e4) hS.2.2 hlocks
  · have h := if_f hc h
    refine lv_aload_n hx hb d_S_rule_11 rfl (lv_at hl 0 rfl) ?_
    refine gf_S_12 hx hb hts hown hK hP d_S_rule_12 ?_
    refine lv_iload_n hx hb d_S_rule_15 rfl (lv_at hl 2 rfl) ?_
    obtain ⟨r2, hcl, h⟩ := bd_some h
    refine cx_read (va_runV (As := [.int a2]) (rest := []) ⟨hx, hb, hml, hown, hts⟩ (c_G_isNode l dC dI q cA pt σ a2 _ hcl) (cw_S_80 hts ⟨Nat.le_of_ble_eq_true rfl, Nat.le_of_ble_eq_true rfl⟩) ⟨pxX_B, va_recv hK hP (ci := 1) (q0 := 1) rfl rfl, pxX_U hP hK hD hN hZ hS⟩ rfl rfl hl.1 rfl (lv_room (Nat.le_of_ble_eq_true rfl)) d_S_rule_16 ⟨Nat.zero_le _, Nat.zero_le _⟩) ?_
    refine lv_if_ne (tgt := 32) hx hb d_S_rule_19 rfl (fun hc => ?_) (fun hc => ?_)
    · have h := if_f hc h
      refine lv_aload_n hx hb d_S_rule_32 rfl (lv_at hl 0 rfl) ?_
      refine gf_S_12 hx hb hts hown hK hP d_S_rule_33 ?_
      refine lv_iload_n hx hb d_S_rule_36 rfl (lv_at hl 1 rfl) ?_
      refine lv_iload_n hx hb d_S_rule_37 rfl (lv_at hl 2 rfl) ?_
      obtain ⟨u3, hcl, h⟩ := bd_some h
      refine cx_wrv (va_runV (As := [.int a1, .int a2]) (rest := []) ⟨hx, hb, hml, hown, hts⟩ (c_G_setBody l dC dI q cA pt σ a1 a2 _ hcl) (cw_S_85 hts ⟨Nat.le_of_ble_eq_true rfl, Nat.le_of_ble_eq_true rfl⟩) ⟨pxX_B, va_recv hK hP (ci := 1) (q0 := 1) rfl rfl, pxX_U hP hK hD hN hZ hS⟩ rfl rfl hl.1 rfl (lv_room (Nat.le_of_ble_eq_true rfl)) d_S_rule_38 ⟨Nat.zero_le _, Nat.zero_le _⟩) hS (fun _ h => h) (fun H locs hP hS => ?_)
      have hD : va_D (AX q) (wX q cA u3) := dd_re (wX_f _ _ _ _) hD
      refine lv_aload_n hx hb d_S_rule_41 rfl (lv_at hl 0 rfl) ?_
      refine lv_iconst (v := 0) hx hb d_S_rule_42 (by decide) ?_
      refine pf_S_48 hx hb hts hown hK hP hD hS (Or.inl rfl) d_S_rule_43 (fun H locs hP hS => ?_)
      obtain ⟨σ1, eσ1, h⟩ := st_some h
      rw [← eσ1] at hP
      have hD : va_D (AX q) (wX q cA σ1) := dd_re (wX_f _ _ _ _) hD
      refine lv_aload_n hx hb d_S_rule_46 rfl (lv_at hl 0 rfl) ?_
      refine gf_S_12 hx hb hts hown hK hP d_S_rule_47 ?_
      obtain ⟨r4, hcl, h⟩ := bd_some h
      refine cx_read (va_runV (As := []) (rest := []) ⟨hx, hb, hml, hown, hts⟩ (c_G_bodies l dC dI q cA pt σ1 _ hcl) (cw_S_89 hts ⟨Nat.le_of_ble_eq_true rfl, Nat.le_of_ble_eq_true rfl⟩) ⟨pxX_B, va_recv hK hP (ci := 1) (q0 := 1) rfl rfl, pxX_U hP hK hD hN hZ hS⟩ rfl rfl hl.1 rfl (lv_room (Nat.le_of_ble_eq_true rfl)) d_S_rule_50 ⟨Nat.zero_le _, Nat.zero_le _⟩) ?_
      cases h
    · have h := if_t hc h
      obtain rfl := Option.some.inj h
      obtain ⟨ast, hst⟩ := hE.2.1 (83, "no such rule or node") (List.mem_of_getElem? (i := 2) rfl)
      exact tw_new hfl hx hb hem hown (by decide) bx_IA_0 bx_IA_1 bx_IA_2 bx_IA_5 (fun w hw => tn_all hts hE w (tn_IA w hw)) (hts _ kw_443) (hts _ kw_13) hst hE.1 hS (hl.1.trans hml.symm) d_S_rule_22 d_S_rule_25 d_S_rule_26 d_S_rule_28 d_S_rule_31 (Nat.le_of_ble_eq_true rfl) (Nat.le_of_ble_eq_true rfl) (Nat.le_of_ble_eq_true rfl) (Nat.le_of_ble_eq_true rfl) (fun t ce e1 e2 e3 e4 => qt_end hP hS e1 e2 e3 e4) hS.2.2 hlocks
theorem d_S_empty_11 : decode prog_1_method_5_code 11 = .ok (.new 56, 3) := by decide +kernel
theorem d_S_empty_14 : decode prog_1_method_5_code 14 = .ok (.dup, 1) := by decide +kernel
theorem d_S_empty_15 : decode prog_1_method_5_code 15 = .ok (.ldc 100, 2) := by decide +kernel
theorem d_S_empty_17 : decode prog_1_method_5_code 17 = .ok (.invokespecial 60, 3) := by decide +kernel
theorem d_S_empty_20 : decode prog_1_method_5_code 20 = .ok (.athrow, 1) := by decide +kernel
def f_S_empty_t1 (σ : MZ_) (a1 : Int32) : Option (MZ_) :=
  (f_G_isNode σ a1).bind fun r1 => if r1 = 0 then some σ
  else (f_Y_isEmpty σ a1).bind fun u2 => none
set_option maxHeartbeats 4000000 in
set_option maxRecDepth 100000 in
theorem c_S_empty_t1 (l : Launch) (hfl : l.flags = pinnedFlags ++ [noTraceFlag]) (dC : Nat → ClassId) (dI : Nat → Nat → Nat) (q : Nat → Nat) (cA : Nat → ClassId) (pt : Nat) (σ : MZ_) (a1 : Int32) (u : MZ_) (h : f_S_empty_t1 σ a1 = some u) : MT_ l y_S_empty w_S_empty rm_S_empty_t (va_Pc [.ref (q 0), .int a1] (fun U => PX_ dC dI q cA pt σ U ∧ EX_ (AX q) U)) (QT_ "java/lang/IllegalArgumentException" (fun H => va_P (dC, dI) cls_ (wX q cA u) H) (AX q)) 1 6 (AX q) := by
  refine MT_ofW (cc := prog_1_method_5_code) (maxL := 2) (ret := (some .boolean)) (by decide) rfl ?_
  intro p e s m args below meth c s₁ B hml hem hv
  obtain ⟨rfl, ⟨hP, hK, hD, hN, hZ⟩, hE⟩ := hv
  have hx := B.exec
  have hb := B.bytes
  have hr := B.returns
  have hts : ∀ w ∈ AW_, w.before _ s = true := fun w h => atoms_spec (ws := w_S_empty) B.pre w (List.mem_cons_of_mem _ h)
  have hown : s.vm.findClass "StagedParsers" = some m.cls := findClass_of_methodNamed B.named
  have hlocks := B.notSynchronized
  have hS : va_S (AX q) s.heap s.heap [] := va_S.rf
  have hl := lv_entry ([.ref (q 0), .int a1]) (n := 2) (Nat.le_of_ble_eq_true rfl)
  rw [lg_entry_eq]
  generalize (lg_sl ([.ref (q 0), .int a1]) ++ List.replicate (2 - (lg_sl ([.ref (q 0), .int a1])).length) Slot.unset).toArray = ls at hl ⊢
  have hl : lv_has ls 2 [(0, .ref (q 0)), (1, .int a1)] := hl
  rw [f_S_empty_t1] at h
  refine lv_aload_n hx hb d_S_empty_0 rfl (lv_at hl 0 rfl) ?_
  refine gf_S_12 hx hb hts hown hK hP d_S_empty_1 ?_
  refine lv_iload_n hx hb d_S_empty_4 rfl (lv_at hl 1 rfl) ?_
  obtain ⟨r1, hcl, h⟩ := bd_some h
  refine cx_read (va_runV (As := [.int a1]) (rest := []) ⟨hx, hb, hml, hown, hts⟩ (c_G_isNode l dC dI q cA pt σ a1 _ hcl) (cw_S_80 hts ⟨Nat.le_of_ble_eq_true rfl, Nat.le_of_ble_eq_true rfl⟩) ⟨pxX_B, va_recv hK hP (ci := 1) (q0 := 1) rfl rfl, pxX_U hP hK hD hN hZ hS⟩ rfl rfl hl.1 rfl (lv_room (Nat.le_of_ble_eq_true rfl)) d_S_empty_5 ⟨Nat.zero_le _, Nat.zero_le _⟩) ?_
  refine lv_if_ne (tgt := 21) hx hb d_S_empty_8 rfl (fun hc => ?_) (fun hc => ?_)
  · have h := if_f hc h
    refine lv_aload_n hx hb d_S_empty_21 rfl (lv_at hl 0 rfl) ?_
    refine gf_S_21 hx hb hts hown hK hP d_S_empty_22 ?_
    refine lv_iload_n hx hb d_S_empty_25 rfl (lv_at hl 1 rfl) ?_
    obtain ⟨u2, hcl, h⟩ := bd_some h
    refine cx_wri (va_runV (As := [.int a1]) (rest := []) ⟨hx, hb, hml, hown, hts⟩ (c_Y_isEmpty l dC dI q cA pt σ a1 _ hcl) (cw_S_102 hts ⟨Nat.le_of_ble_eq_true rfl, Nat.le_of_ble_eq_true rfl⟩) ⟨pxX_B, va_recv hK hP (ci := 2) (q0 := 8) rfl rfl, pxX_U hP hK hD hN hZ hS⟩ rfl rfl hl.1 rfl (lv_room (Nat.le_of_ble_eq_true rfl)) d_S_empty_26 ⟨Nat.zero_le _, Nat.zero_le _⟩) hS (fun _ h => h) (fun H locs hP hS => ?_)
    have hD : va_D (AX q) (wX q cA u2.2) := dd_re (wX_f _ _ _ _) hD
    cases h
  · have h := if_t hc h
    obtain rfl := Option.some.inj h
    obtain ⟨ast, hst⟩ := hE.2.1 (100, "no such node") (List.mem_of_getElem? (i := 3) rfl)
    exact tw_new hfl hx hb hem hown (by decide) bx_IA_0 bx_IA_1 bx_IA_2 bx_IA_5 (fun w hw => tn_all hts hE w (tn_IA w hw)) (hts _ kw_443) (hts _ kw_13) hst hE.1 hS (hl.1.trans hml.symm) d_S_empty_11 d_S_empty_14 d_S_empty_15 d_S_empty_17 d_S_empty_20 (Nat.le_of_ble_eq_true rfl) (Nat.le_of_ble_eq_true rfl) (Nat.le_of_ble_eq_true rfl) (Nat.le_of_ble_eq_true rfl) (fun t ce e1 e2 e3 e4 => qt_end hP hS e1 e2 e3 e4) hS.2.2 hlocks
theorem d_S_begins_18 : decode prog_1_method_6_code 18 = .ok (.new 56, 3) := by decide +kernel
theorem d_S_begins_21 : decode prog_1_method_6_code 21 = .ok (.dup, 1) := by decide +kernel
theorem d_S_begins_22 : decode prog_1_method_6_code 22 = .ok (.ldc 108, 2) := by decide +kernel
theorem d_S_begins_24 : decode prog_1_method_6_code 24 = .ok (.invokespecial 60, 3) := by decide +kernel
theorem d_S_begins_27 : decode prog_1_method_6_code 27 = .ok (.athrow, 1) := by decide +kernel
def f_S_begins_t1 (σ : MZ_) (a1 : Int32) (a2 : Int32) : Option (MZ_) :=
  (f_G_isNode σ a1).bind fun r1 => if r1 = 0 then some σ
  else (f_S_isSign a2).bind fun r2 => if r2 = 0 then some σ
  else (f_Y_canBegin σ a1 a2).bind fun u3 => none
set_option maxHeartbeats 4000000 in
set_option maxRecDepth 100000 in
theorem c_S_begins_t1 (l : Launch) (hfl : l.flags = pinnedFlags ++ [noTraceFlag]) (dC : Nat → ClassId) (dI : Nat → Nat → Nat) (q : Nat → Nat) (cA : Nat → ClassId) (pt : Nat) (σ : MZ_) (a1 : Int32) (a2 : Int32) (u : MZ_) (h : f_S_begins_t1 σ a1 a2 = some u) : MT_ l y_S_begins w_S_begins rm_S_begins_t (va_Pc [.ref (q 0), .int a1, .int a2] (fun U => PX_ dC dI q cA pt σ U ∧ EX_ (AX q) U)) (QT_ "java/lang/IllegalArgumentException" (fun H => va_P (dC, dI) cls_ (wX q cA u) H) (AX q)) 1 6 (AX q) := by
  refine MT_ofW (cc := prog_1_method_6_code) (maxL := 3) (ret := (some .boolean)) (by decide) rfl ?_
  intro p e s m args below meth c s₁ B hml hem hv
  obtain ⟨rfl, ⟨hP, hK, hD, hN, hZ⟩, hE⟩ := hv
  have hx := B.exec
  have hb := B.bytes
  have hr := B.returns
  have hts : ∀ w ∈ AW_, w.before _ s = true := fun w h => atoms_spec (ws := w_S_begins) B.pre w (List.mem_cons_of_mem _ h)
  have hown : s.vm.findClass "StagedParsers" = some m.cls := findClass_of_methodNamed B.named
  have hlocks := B.notSynchronized
  have hS : va_S (AX q) s.heap s.heap [] := va_S.rf
  have hl := lv_entry ([.ref (q 0), .int a1, .int a2]) (n := 3) (Nat.le_of_ble_eq_true rfl)
  rw [lg_entry_eq]
  generalize (lg_sl ([.ref (q 0), .int a1, .int a2]) ++ List.replicate (3 - (lg_sl ([.ref (q 0), .int a1, .int a2])).length) Slot.unset).toArray = ls at hl ⊢
  have hl : lv_has ls 3 [(0, .ref (q 0)), (1, .int a1), (2, .int a2)] := hl
  rw [f_S_begins_t1] at h
  refine lv_aload_n hx hb d_S_begins_0 rfl (lv_at hl 0 rfl) ?_
  refine gf_S_12 hx hb hts hown hK hP d_S_begins_1 ?_
  refine lv_iload_n hx hb d_S_begins_4 rfl (lv_at hl 1 rfl) ?_
  obtain ⟨r1, hcl, h⟩ := bd_some h
  refine cx_read (va_runV (As := [.int a1]) (rest := []) ⟨hx, hb, hml, hown, hts⟩ (c_G_isNode l dC dI q cA pt σ a1 _ hcl) (cw_S_80 hts ⟨Nat.le_of_ble_eq_true rfl, Nat.le_of_ble_eq_true rfl⟩) ⟨pxX_B, va_recv hK hP (ci := 1) (q0 := 1) rfl rfl, pxX_U hP hK hD hN hZ hS⟩ rfl rfl hl.1 rfl (lv_room (Nat.le_of_ble_eq_true rfl)) d_S_begins_5 ⟨Nat.zero_le _, Nat.zero_le _⟩) ?_
  refine lv_if_eq (tgt := 18) hx hb d_S_begins_8 rfl (fun hc => ?_) (fun hc => ?_)
  · have h := if_t hc h
    obtain rfl := Option.some.inj h
    obtain ⟨ast, hst⟩ := hE.2.1 (108, "no such node or character") (List.mem_of_getElem? (i := 4) rfl)
    exact tw_new hfl hx hb hem hown (by decide) bx_IA_0 bx_IA_1 bx_IA_2 bx_IA_5 (fun w hw => tn_all hts hE w (tn_IA w hw)) (hts _ kw_443) (hts _ kw_13) hst hE.1 hS (hl.1.trans hml.symm) d_S_begins_18 d_S_begins_21 d_S_begins_22 d_S_begins_24 d_S_begins_27 (Nat.le_of_ble_eq_true rfl) (Nat.le_of_ble_eq_true rfl) (Nat.le_of_ble_eq_true rfl) (Nat.le_of_ble_eq_true rfl) (fun t ce e1 e2 e3 e4 => qt_end hP hS e1 e2 e3 e4) hS.2.2 hlocks
  · have h := if_f hc h
    refine lv_iload_n hx hb d_S_begins_11 rfl (lv_at hl 2 rfl) ?_
    obtain ⟨r2, hcl, h⟩ := bd_some h
    refine cx_read (va_runS (As := [.int a2]) (rest := []) ⟨hx, hb, hml, hown, hts⟩ (c_S_isSign l dC dI q cA pt σ a2 _ hcl) (cw_S_105 hts ⟨Nat.le_of_ble_eq_true rfl, Nat.le_of_ble_eq_true rfl⟩) ⟨pxX_B, pxX_U hP hK hD hN hZ hS⟩ rfl rfl hl.1 rfl (lv_room (Nat.le_of_ble_eq_true rfl)) d_S_begins_12 ⟨Nat.zero_le _, Nat.zero_le _⟩) ?_
    refine lv_if_ne (tgt := 28) hx hb d_S_begins_15 rfl (fun hc => ?_) (fun hc => ?_)
    · have h := if_f hc h
      refine lv_aload_n hx hb d_S_begins_28 rfl (lv_at hl 0 rfl) ?_
      refine gf_S_21 hx hb hts hown hK hP d_S_begins_29 ?_
      refine lv_iload_n hx hb d_S_begins_32 rfl (lv_at hl 1 rfl) ?_
      refine lv_iload_n hx hb d_S_begins_33 rfl (lv_at hl 2 rfl) ?_
      obtain ⟨u3, hcl, h⟩ := bd_some h
      refine cx_wri (va_runV (As := [.int a1, .int a2]) (rest := []) ⟨hx, hb, hml, hown, hts⟩ (c_Y_canBegin l dC dI q cA pt σ a1 a2 _ hcl) (cw_S_110 hts ⟨Nat.le_of_ble_eq_true rfl, Nat.le_of_ble_eq_true rfl⟩) ⟨pxX_B, va_recv hK hP (ci := 2) (q0 := 8) rfl rfl, pxX_U hP hK hD hN hZ hS⟩ rfl rfl hl.1 rfl (lv_room (Nat.le_of_ble_eq_true rfl)) d_S_begins_34 ⟨Nat.zero_le _, Nat.zero_le _⟩) hS (fun _ h => h) (fun H locs hP hS => ?_)
      have hD : va_D (AX q) (wX q cA u3.2) := dd_re (wX_f _ _ _ _) hD
      cases h
    · have h := if_t hc h
      obtain rfl := Option.some.inj h
      obtain ⟨ast, hst⟩ := hE.2.1 (108, "no such node or character") (List.mem_of_getElem? (i := 4) rfl)
      exact tw_new hfl hx hb hem hown (by decide) bx_IA_0 bx_IA_1 bx_IA_2 bx_IA_5 (fun w hw => tn_all hts hE w (tn_IA w hw)) (hts _ kw_443) (hts _ kw_13) hst hE.1 hS (hl.1.trans hml.symm) d_S_begins_18 d_S_begins_21 d_S_begins_22 d_S_begins_24 d_S_begins_27 (Nat.le_of_ble_eq_true rfl) (Nat.le_of_ble_eq_true rfl) (Nat.le_of_ble_eq_true rfl) (Nat.le_of_ble_eq_true rfl) (fun t ce e1 e2 e3 e4 => qt_end hP hS e1 e2 e3 e4) hS.2.2 hlocks
theorem d_S_leads_11 : decode prog_1_method_7_code 11 = .ok (.new 56, 3) := by decide +kernel
theorem d_S_leads_14 : decode prog_1_method_7_code 14 = .ok (.dup, 1) := by decide +kernel
theorem d_S_leads_15 : decode prog_1_method_7_code 15 = .ok (.ldc 114, 2) := by decide +kernel
theorem d_S_leads_17 : decode prog_1_method_7_code 17 = .ok (.invokespecial 60, 3) := by decide +kernel
theorem d_S_leads_20 : decode prog_1_method_7_code 20 = .ok (.athrow, 1) := by decide +kernel
def f_S_leads_t1 (σ : MZ_) (a1 : Int32) : Option (MZ_) :=
  (f_G_isRule a1).bind fun r1 => if r1 = 0 then some σ
  else (f_Y_ledTo σ a1).bind fun u2 => none
set_option maxHeartbeats 4000000 in
set_option maxRecDepth 100000 in
theorem c_S_leads_t1 (l : Launch) (hfl : l.flags = pinnedFlags ++ [noTraceFlag]) (dC : Nat → ClassId) (dI : Nat → Nat → Nat) (q : Nat → Nat) (cA : Nat → ClassId) (pt : Nat) (σ : MZ_) (a1 : Int32) (u : MZ_) (h : f_S_leads_t1 σ a1 = some u) : MT_ l y_S_leads w_S_leads rm_S_leads_t (va_Pc [.ref (q 0), .int a1] (fun U => PX_ dC dI q cA pt σ U ∧ EX_ (AX q) U)) (QT_ "java/lang/IllegalArgumentException" (fun H => va_P (dC, dI) cls_ (wX q cA u) H) (AX q)) 1 6 (AX q) := by
  refine MT_ofW (cc := prog_1_method_7_code) (maxL := 2) (ret := (some .int)) (by decide) rfl ?_
  intro p e s m args below meth c s₁ B hml hem hv
  obtain ⟨rfl, ⟨hP, hK, hD, hN, hZ⟩, hE⟩ := hv
  have hx := B.exec
  have hb := B.bytes
  have hr := B.returns
  have hts : ∀ w ∈ AW_, w.before _ s = true := fun w h => atoms_spec (ws := w_S_leads) B.pre w (List.mem_cons_of_mem _ h)
  have hown : s.vm.findClass "StagedParsers" = some m.cls := findClass_of_methodNamed B.named
  have hlocks := B.notSynchronized
  have hS : va_S (AX q) s.heap s.heap [] := va_S.rf
  have hl := lv_entry ([.ref (q 0), .int a1]) (n := 2) (Nat.le_of_ble_eq_true rfl)
  rw [lg_entry_eq]
  generalize (lg_sl ([.ref (q 0), .int a1]) ++ List.replicate (2 - (lg_sl ([.ref (q 0), .int a1])).length) Slot.unset).toArray = ls at hl ⊢
  have hl : lv_has ls 2 [(0, .ref (q 0)), (1, .int a1)] := hl
  rw [f_S_leads_t1] at h
  refine lv_aload_n hx hb d_S_leads_0 rfl (lv_at hl 0 rfl) ?_
  refine gf_S_12 hx hb hts hown hK hP d_S_leads_1 ?_
  refine lv_iload_n hx hb d_S_leads_4 rfl (lv_at hl 1 rfl) ?_
  obtain ⟨r1, hcl, h⟩ := bd_some h
  refine cx_read (va_runV (As := [.int a1]) (rest := []) ⟨hx, hb, hml, hown, hts⟩ (c_G_isRule l dC dI q cA pt σ a1 _ hcl) (cw_S_76 hts ⟨Nat.le_of_ble_eq_true rfl, Nat.le_of_ble_eq_true rfl⟩) ⟨pxX_B, va_recv hK hP (ci := 1) (q0 := 1) rfl rfl, pxX_U hP hK hD hN hZ hS⟩ rfl rfl hl.1 rfl (lv_room (Nat.le_of_ble_eq_true rfl)) d_S_leads_5 ⟨Nat.zero_le _, Nat.zero_le _⟩) ?_
  refine lv_if_ne (tgt := 21) hx hb d_S_leads_8 rfl (fun hc => ?_) (fun hc => ?_)
  · have h := if_f hc h
    refine lv_aload_n hx hb d_S_leads_21 rfl (lv_at hl 0 rfl) ?_
    refine gf_S_21 hx hb hts hown hK hP d_S_leads_22 ?_
    refine lv_iload_n hx hb d_S_leads_25 rfl (lv_at hl 1 rfl) ?_
    obtain ⟨u2, hcl, h⟩ := bd_some h
    refine cx_wri (va_runV (As := [.int a1]) (rest := []) ⟨hx, hb, hml, hown, hts⟩ (c_Y_ledTo l dC dI q cA pt σ a1 _ hcl) (cw_S_116 hts ⟨Nat.le_of_ble_eq_true rfl, Nat.le_of_ble_eq_true rfl⟩) ⟨pxX_B, va_recv hK hP (ci := 2) (q0 := 8) rfl rfl, pxX_U hP hK hD hN hZ hS⟩ rfl rfl hl.1 rfl (lv_room (Nat.le_of_ble_eq_true rfl)) d_S_leads_26 ⟨Nat.zero_le _, Nat.zero_le _⟩) hS (fun _ h => h) (fun H locs hP hS => ?_)
    have hD : va_D (AX q) (wX q cA u2.2) := dd_re (wX_f _ _ _ _) hD
    cases h
  · have h := if_t hc h
    obtain rfl := Option.some.inj h
    obtain ⟨ast, hst⟩ := hE.2.1 (114, "no such rule") (List.mem_of_getElem? (i := 5) rfl)
    exact tw_new hfl hx hb hem hown (by decide) bx_IA_0 bx_IA_1 bx_IA_2 bx_IA_5 (fun w hw => tn_all hts hE w (tn_IA w hw)) (hts _ kw_443) (hts _ kw_13) hst hE.1 hS (hl.1.trans hml.symm) d_S_leads_11 d_S_leads_14 d_S_leads_15 d_S_leads_17 d_S_leads_20 (Nat.le_of_ble_eq_true rfl) (Nat.le_of_ble_eq_true rfl) (Nat.le_of_ble_eq_true rfl) (Nat.le_of_ble_eq_true rfl) (fun t ce e1 e2 e3 e4 => qt_end hP hS e1 e2 e3 e4) hS.2.2 hlocks
theorem d_S_type_7 : decode prog_1_method_8_code 7 = .ok (.new 56, 3) := by decide +kernel
theorem d_S_type_10 : decode prog_1_method_8_code 10 = .ok (.dup, 1) := by decide +kernel
theorem d_S_type_11 : decode prog_1_method_8_code 11 = .ok (.ldc 120, 2) := by decide +kernel
theorem d_S_type_13 : decode prog_1_method_8_code 13 = .ok (.invokespecial 60, 3) := by decide +kernel
theorem d_S_type_16 : decode prog_1_method_8_code 16 = .ok (.athrow, 1) := by decide +kernel
def f_S_type_t1 (σ : MZ_) (a1 : Int32) : Option (MZ_) :=
  (f_S_isSign a1).bind fun r1 => if r1 = 0 then some σ
  else (f_T_isFull σ).bind fun r2 => if r2 = 0 then (f_T_append σ a1).bind fun u3 => (f_T_size u3).bind fun r4 => none
  else none
set_option maxHeartbeats 4000000 in
set_option maxRecDepth 100000 in
theorem c_S_type_t1 (l : Launch) (hfl : l.flags = pinnedFlags ++ [noTraceFlag]) (dC : Nat → ClassId) (dI : Nat → Nat → Nat) (q : Nat → Nat) (cA : Nat → ClassId) (pt : Nat) (σ : MZ_) (a1 : Int32) (u : MZ_) (h : f_S_type_t1 σ a1 = some u) : MT_ l y_S_type w_S_type rm_S_type_t (va_Pc [.ref (q 0), .int a1] (fun U => PX_ dC dI q cA pt σ U ∧ EX_ (AX q) U)) (QT_ "java/lang/IllegalArgumentException" (fun H => va_P (dC, dI) cls_ (wX q cA u) H) (AX q)) 1 6 (AX q) := by
  refine MT_ofW (cc := prog_1_method_8_code) (maxL := 2) (ret := (some .int)) (by decide) rfl ?_
  intro p e s m args below meth c s₁ B hml hem hv
  obtain ⟨rfl, ⟨hP, hK, hD, hN, hZ⟩, hE⟩ := hv
  have hx := B.exec
  have hb := B.bytes
  have hr := B.returns
  have hts : ∀ w ∈ AW_, w.before _ s = true := fun w h => atoms_spec (ws := w_S_type) B.pre w (List.mem_cons_of_mem _ h)
  have hown : s.vm.findClass "StagedParsers" = some m.cls := findClass_of_methodNamed B.named
  have hlocks := B.notSynchronized
  have hS : va_S (AX q) s.heap s.heap [] := va_S.rf
  have hl := lv_entry ([.ref (q 0), .int a1]) (n := 2) (Nat.le_of_ble_eq_true rfl)
  rw [lg_entry_eq]
  generalize (lg_sl ([.ref (q 0), .int a1]) ++ List.replicate (2 - (lg_sl ([.ref (q 0), .int a1])).length) Slot.unset).toArray = ls at hl ⊢
  have hl : lv_has ls 2 [(0, .ref (q 0)), (1, .int a1)] := hl
  rw [f_S_type_t1] at h
  refine lv_iload_n hx hb d_S_type_0 rfl (lv_at hl 1 rfl) ?_
  obtain ⟨r1, hcl, h⟩ := bd_some h
  refine cx_read (va_runS (As := [.int a1]) (rest := []) ⟨hx, hb, hml, hown, hts⟩ (c_S_isSign l dC dI q cA pt σ a1 _ hcl) (cw_S_105 hts ⟨Nat.le_of_ble_eq_true rfl, Nat.le_of_ble_eq_true rfl⟩) ⟨pxX_B, pxX_U hP hK hD hN hZ hS⟩ rfl rfl hl.1 rfl (lv_room (Nat.le_of_ble_eq_true rfl)) d_S_type_1 ⟨Nat.zero_le _, Nat.zero_le _⟩) ?_
  refine lv_if_ne (tgt := 17) hx hb d_S_type_4 rfl (fun hc => ?_) (fun hc => ?_)
  · have h := if_f hc h
    refine lv_aload_n hx hb d_S_type_17 rfl (lv_at hl 0 rfl) ?_
    refine gf_S_35 hx hb hts hown hK hP d_S_type_18 ?_
    obtain ⟨r2, hcl, h⟩ := bd_some h
    refine cx_read (va_runV (As := []) (rest := []) ⟨hx, hb, hml, hown, hts⟩ (c_T_isFull l dC dI q cA pt σ _ hcl) (cw_S_122 hts ⟨Nat.le_of_ble_eq_true rfl, Nat.le_of_ble_eq_true rfl⟩) ⟨pxX_B, va_recv hK hP (ci := 4) (q0 := 20) rfl rfl, pxX_U hP hK hD hN hZ hS⟩ rfl rfl hl.1 rfl (lv_room (Nat.le_of_ble_eq_true rfl)) d_S_type_21 ⟨Nat.zero_le _, Nat.zero_le _⟩) ?_
    refine lv_if_eq (tgt := 37) hx hb d_S_type_24 rfl (fun hc => ?_) (fun hc => ?_)
    · have h := if_t hc h
      refine lv_aload_n hx hb d_S_type_37 rfl (lv_at hl 0 rfl) ?_
      refine gf_S_35 hx hb hts hown hK hP d_S_type_38 ?_
      refine lv_iload_n hx hb d_S_type_41 rfl (lv_at hl 1 rfl) ?_
      obtain ⟨u3, hcl, h⟩ := bd_some h
      refine cx_wrv (va_runV (As := [.int a1]) (rest := []) ⟨hx, hb, hml, hown, hts⟩ (c_T_append l dC dI q cA pt σ a1 _ hcl) (cw_S_125 hts ⟨Nat.le_of_ble_eq_true rfl, Nat.le_of_ble_eq_true rfl⟩) ⟨pxX_B, va_recv hK hP (ci := 4) (q0 := 20) rfl rfl, pxX_U hP hK hD hN hZ hS⟩ rfl rfl hl.1 rfl (lv_room (Nat.le_of_ble_eq_true rfl)) d_S_type_42 ⟨Nat.zero_le _, Nat.zero_le _⟩) hS (fun _ h => h) (fun H locs hP hS => ?_)
      have hD : va_D (AX q) (wX q cA u3) := dd_re (wX_f _ _ _ _) hD
      refine lv_aload_n hx hb d_S_type_45 rfl (lv_at hl 0 rfl) ?_
      refine gf_S_35 hx hb hts hown hK hP d_S_type_46 ?_
      obtain ⟨r4, hcl, h⟩ := bd_some h
      refine cx_read (va_runV (As := []) (rest := []) ⟨hx, hb, hml, hown, hts⟩ (c_T_size l dC dI q cA pt u3 _ hcl) (cw_S_129 hts ⟨Nat.le_of_ble_eq_true rfl, Nat.le_of_ble_eq_true rfl⟩) ⟨pxX_B, va_recv hK hP (ci := 4) (q0 := 20) rfl rfl, pxX_U hP hK hD hN hZ hS⟩ rfl rfl hl.1 rfl (lv_room (Nat.le_of_ble_eq_true rfl)) d_S_type_49 ⟨Nat.zero_le _, Nat.zero_le _⟩) ?_
      cases h
    · have h := if_f hc h
      cases h
  · have h := if_t hc h
    obtain rfl := Option.some.inj h
    obtain ⟨ast, hst⟩ := hE.2.1 (120, "no such character") (List.mem_of_getElem? (i := 6) rfl)
    exact tw_new hfl hx hb hem hown (by decide) bx_IA_0 bx_IA_1 bx_IA_2 bx_IA_5 (fun w hw => tn_all hts hE w (tn_IA w hw)) (hts _ kw_443) (hts _ kw_13) hst hE.1 hS (hl.1.trans hml.symm) d_S_type_7 d_S_type_10 d_S_type_11 d_S_type_13 d_S_type_16 (Nat.le_of_ble_eq_true rfl) (Nat.le_of_ble_eq_true rfl) (Nat.le_of_ble_eq_true rfl) (Nat.le_of_ble_eq_true rfl) (fun t ce e1 e2 e3 e4 => qt_end hP hS e1 e2 e3 e4) hS.2.2 hlocks
theorem d_S_type_27 : decode prog_1_method_8_code 27 = .ok (.new 67, 3) := by decide +kernel
theorem d_S_type_30 : decode prog_1_method_8_code 30 = .ok (.dup, 1) := by decide +kernel
theorem d_S_type_31 : decode prog_1_method_8_code 31 = .ok (.ldc 123, 2) := by decide +kernel
theorem d_S_type_33 : decode prog_1_method_8_code 33 = .ok (.invokespecial 71, 3) := by decide +kernel
theorem d_S_type_36 : decode prog_1_method_8_code 36 = .ok (.athrow, 1) := by decide +kernel
def f_S_type_t2 (σ : MZ_) (a1 : Int32) : Option (MZ_) :=
  (f_S_isSign a1).bind fun r1 => if r1 = 0 then none
  else (f_T_isFull σ).bind fun r2 => if r2 = 0 then (f_T_append σ a1).bind fun u3 => (f_T_size u3).bind fun r4 => none
  else some σ
set_option maxHeartbeats 4000000 in
set_option maxRecDepth 100000 in
theorem c_S_type_t2 (l : Launch) (hfl : l.flags = pinnedFlags ++ [noTraceFlag]) (dC : Nat → ClassId) (dI : Nat → Nat → Nat) (q : Nat → Nat) (cA : Nat → ClassId) (pt : Nat) (σ : MZ_) (a1 : Int32) (u : MZ_) (h : f_S_type_t2 σ a1 = some u) : MT_ l y_S_type w_S_type rm_S_type_t (va_Pc [.ref (q 0), .int a1] (fun U => PX_ dC dI q cA pt σ U ∧ EX_ (AX q) U)) (QT_ "java/lang/IllegalStateException" (fun H => va_P (dC, dI) cls_ (wX q cA u) H) (AX q)) 1 6 (AX q) := by
  refine MT_ofW (cc := prog_1_method_8_code) (maxL := 2) (ret := (some .int)) (by decide) rfl ?_
  intro p e s m args below meth c s₁ B hml hem hv
  obtain ⟨rfl, ⟨hP, hK, hD, hN, hZ⟩, hE⟩ := hv
  have hx := B.exec
  have hb := B.bytes
  have hr := B.returns
  have hts : ∀ w ∈ AW_, w.before _ s = true := fun w h => atoms_spec (ws := w_S_type) B.pre w (List.mem_cons_of_mem _ h)
  have hown : s.vm.findClass "StagedParsers" = some m.cls := findClass_of_methodNamed B.named
  have hlocks := B.notSynchronized
  have hS : va_S (AX q) s.heap s.heap [] := va_S.rf
  have hl := lv_entry ([.ref (q 0), .int a1]) (n := 2) (Nat.le_of_ble_eq_true rfl)
  rw [lg_entry_eq]
  generalize (lg_sl ([.ref (q 0), .int a1]) ++ List.replicate (2 - (lg_sl ([.ref (q 0), .int a1])).length) Slot.unset).toArray = ls at hl ⊢
  have hl : lv_has ls 2 [(0, .ref (q 0)), (1, .int a1)] := hl
  rw [f_S_type_t2] at h
  refine lv_iload_n hx hb d_S_type_0 rfl (lv_at hl 1 rfl) ?_
  obtain ⟨r1, hcl, h⟩ := bd_some h
  refine cx_read (va_runS (As := [.int a1]) (rest := []) ⟨hx, hb, hml, hown, hts⟩ (c_S_isSign l dC dI q cA pt σ a1 _ hcl) (cw_S_105 hts ⟨Nat.le_of_ble_eq_true rfl, Nat.le_of_ble_eq_true rfl⟩) ⟨pxX_B, pxX_U hP hK hD hN hZ hS⟩ rfl rfl hl.1 rfl (lv_room (Nat.le_of_ble_eq_true rfl)) d_S_type_1 ⟨Nat.zero_le _, Nat.zero_le _⟩) ?_
  refine lv_if_ne (tgt := 17) hx hb d_S_type_4 rfl (fun hc => ?_) (fun hc => ?_)
  · have h := if_f hc h
    refine lv_aload_n hx hb d_S_type_17 rfl (lv_at hl 0 rfl) ?_
    refine gf_S_35 hx hb hts hown hK hP d_S_type_18 ?_
    obtain ⟨r2, hcl, h⟩ := bd_some h
    refine cx_read (va_runV (As := []) (rest := []) ⟨hx, hb, hml, hown, hts⟩ (c_T_isFull l dC dI q cA pt σ _ hcl) (cw_S_122 hts ⟨Nat.le_of_ble_eq_true rfl, Nat.le_of_ble_eq_true rfl⟩) ⟨pxX_B, va_recv hK hP (ci := 4) (q0 := 20) rfl rfl, pxX_U hP hK hD hN hZ hS⟩ rfl rfl hl.1 rfl (lv_room (Nat.le_of_ble_eq_true rfl)) d_S_type_21 ⟨Nat.zero_le _, Nat.zero_le _⟩) ?_
    refine lv_if_eq (tgt := 37) hx hb d_S_type_24 rfl (fun hc => ?_) (fun hc => ?_)
    · have h := if_t hc h
      refine lv_aload_n hx hb d_S_type_37 rfl (lv_at hl 0 rfl) ?_
      refine gf_S_35 hx hb hts hown hK hP d_S_type_38 ?_
      refine lv_iload_n hx hb d_S_type_41 rfl (lv_at hl 1 rfl) ?_
      obtain ⟨u3, hcl, h⟩ := bd_some h
      refine cx_wrv (va_runV (As := [.int a1]) (rest := []) ⟨hx, hb, hml, hown, hts⟩ (c_T_append l dC dI q cA pt σ a1 _ hcl) (cw_S_125 hts ⟨Nat.le_of_ble_eq_true rfl, Nat.le_of_ble_eq_true rfl⟩) ⟨pxX_B, va_recv hK hP (ci := 4) (q0 := 20) rfl rfl, pxX_U hP hK hD hN hZ hS⟩ rfl rfl hl.1 rfl (lv_room (Nat.le_of_ble_eq_true rfl)) d_S_type_42 ⟨Nat.zero_le _, Nat.zero_le _⟩) hS (fun _ h => h) (fun H locs hP hS => ?_)
      have hD : va_D (AX q) (wX q cA u3) := dd_re (wX_f _ _ _ _) hD
      refine lv_aload_n hx hb d_S_type_45 rfl (lv_at hl 0 rfl) ?_
      refine gf_S_35 hx hb hts hown hK hP d_S_type_46 ?_
      obtain ⟨r4, hcl, h⟩ := bd_some h
      refine cx_read (va_runV (As := []) (rest := []) ⟨hx, hb, hml, hown, hts⟩ (c_T_size l dC dI q cA pt u3 _ hcl) (cw_S_129 hts ⟨Nat.le_of_ble_eq_true rfl, Nat.le_of_ble_eq_true rfl⟩) ⟨pxX_B, va_recv hK hP (ci := 4) (q0 := 20) rfl rfl, pxX_U hP hK hD hN hZ hS⟩ rfl rfl hl.1 rfl (lv_room (Nat.le_of_ble_eq_true rfl)) d_S_type_49 ⟨Nat.zero_le _, Nat.zero_le _⟩) ?_
      cases h
    · have h := if_f hc h
      obtain rfl := Option.some.inj h
      obtain ⟨ast, hst⟩ := hE.2.1 (123, "the text has 40 characters") (List.mem_of_getElem? (i := 7) rfl)
      exact tw_new hfl hx hb hem hown (by decide) bx_IS_0 bx_IS_1 bx_IS_2 bx_IS_5 (fun w hw => tn_all hts hE w (tn_IS w hw)) (hts _ kw_516) (hts _ kw_14) hst hE.1 hS (hl.1.trans hml.symm) d_S_type_27 d_S_type_30 d_S_type_31 d_S_type_33 d_S_type_36 (Nat.le_of_ble_eq_true rfl) (Nat.le_of_ble_eq_true rfl) (Nat.le_of_ble_eq_true rfl) (Nat.le_of_ble_eq_true rfl) (fun t ce e1 e2 e3 e4 => qt_end hP hS e1 e2 e3 e4) hS.2.2 hlocks
  · have h := if_t hc h
    cases h
theorem d_S_parse_7 : decode prog_1_method_10_code 7 = .ok (.new 67, 3) := by decide +kernel
theorem d_S_parse_10 : decode prog_1_method_10_code 10 = .ok (.dup, 1) := by decide +kernel
theorem d_S_parse_11 : decode prog_1_method_10_code 11 = .ok (.ldc 135, 2) := by decide +kernel
theorem d_S_parse_13 : decode prog_1_method_10_code 13 = .ok (.invokespecial 71, 3) := by decide +kernel
theorem d_S_parse_16 : decode prog_1_method_10_code 16 = .ok (.athrow, 1) := by decide +kernel
def f_S_parse_t1 (σ : MZ_) (a1 : Int32) : Option (MZ_) :=
  if (σ 30 0) = 0 then some σ
  else (f_G_hasBody σ a1).bind fun r1 => if r1 = 0 then none
  else (f_M_run σ a1).bind fun u2 => (f_M_isTired u2).bind fun r3 => if r3 = 0 then (f_M_hasSucceeded u2).bind fun r4 => if r4 = 0 then none
    else (f_M_answer u2).bind fun r5 => none
  else none
set_option maxHeartbeats 4000000 in
set_option maxRecDepth 100000 in
theorem c_S_parse_t1 (l : Launch) (hfl : l.flags = pinnedFlags ++ [noTraceFlag]) (dC : Nat → ClassId) (dI : Nat → Nat → Nat) (q : Nat → Nat) (cA : Nat → ClassId) (pt : Nat) (σ : MZ_) (a1 : Int32) (u : MZ_) (h : f_S_parse_t1 σ a1 = some u) : MT_ l y_S_parse w_S_parse rm_S_parse_t (va_Pc [.ref (q 0), .int a1] (fun U => PX_ dC dI q cA pt σ U ∧ EX_ (AX q) U)) (QT_ "java/lang/IllegalStateException" (fun H => va_P (dC, dI) cls_ (wX q cA u) H) (AX q)) 1 6 (AX q) := by
  refine MT_ofW (cc := prog_1_method_10_code) (maxL := 2) (ret := (some .int)) (by decide) rfl ?_
  intro p e s m args below meth c s₁ B hml hem hv
  obtain ⟨rfl, ⟨hP, hK, hD, hN, hZ⟩, hE⟩ := hv
  have hx := B.exec
  have hb := B.bytes
  have hr := B.returns
  have hts : ∀ w ∈ AW_, w.before _ s = true := fun w h => atoms_spec (ws := w_S_parse) B.pre w (List.mem_cons_of_mem _ h)
  have hown : s.vm.findClass "StagedParsers" = some m.cls := findClass_of_methodNamed B.named
  have hlocks := B.notSynchronized
  have hS : va_S (AX q) s.heap s.heap [] := va_S.rf
  have hl := lv_entry ([.ref (q 0), .int a1]) (n := 2) (Nat.le_of_ble_eq_true rfl)
  rw [lg_entry_eq]
  generalize (lg_sl ([.ref (q 0), .int a1]) ++ List.replicate (2 - (lg_sl ([.ref (q 0), .int a1])).length) Slot.unset).toArray = ls at hl ⊢
  have hl : lv_has ls 2 [(0, .ref (q 0)), (1, .int a1)] := hl
  rw [f_S_parse_t1] at h
  refine lv_aload_n hx hb d_S_parse_0 rfl (lv_at hl 0 rfl) ?_
  refine gf_S_48 hx hb hts hown hK hP d_S_parse_1 ?_
  refine lv_if_ne (tgt := 17) hx hb d_S_parse_4 rfl (fun hc => ?_) (fun hc => ?_)
  · have h := if_f hc h
    refine lv_aload_n hx hb d_S_parse_17 rfl (lv_at hl 0 rfl) ?_
    refine gf_S_12 hx hb hts hown hK hP d_S_parse_18 ?_
    refine lv_iload_n hx hb d_S_parse_21 rfl (lv_at hl 1 rfl) ?_
    obtain ⟨r1, hcl, h⟩ := bd_some h
    refine cx_read (va_runV (As := [.int a1]) (rest := []) ⟨hx, hb, hml, hown, hts⟩ (c_G_hasBody l dC dI q cA pt σ a1 _ hcl) (cw_S_137 hts ⟨Nat.le_of_ble_eq_true rfl, Nat.le_of_ble_eq_true rfl⟩) ⟨pxX_B, va_recv hK hP (ci := 1) (q0 := 1) rfl rfl, pxX_U hP hK hD hN hZ hS⟩ rfl rfl hl.1 rfl (lv_room (Nat.le_of_ble_eq_true rfl)) d_S_parse_22 ⟨Nat.zero_le _, Nat.zero_le _⟩) ?_
    refine lv_if_ne (tgt := 38) hx hb d_S_parse_25 rfl (fun hc => ?_) (fun hc => ?_)
    · have h := if_f hc h
      refine lv_aload_n hx hb d_S_parse_38 rfl (lv_at hl 0 rfl) ?_
      refine gf_S_44 hx hb hts hown hK hP d_S_parse_39 ?_
      refine lv_iload_n hx hb d_S_parse_42 rfl (lv_at hl 1 rfl) ?_
      obtain ⟨u2, hcl, h⟩ := bd_some h
      refine cx_wrv (va_runV (As := [.int a1]) (rest := []) ⟨hx, hb, hml, hown, hts⟩ (c_M_run l dC dI q cA pt σ a1 _ hcl) (cw_S_142 hts ⟨Nat.le_of_ble_eq_true rfl, Nat.le_of_ble_eq_true rfl⟩) ⟨pxX_B, va_recv hK hP (ci := 5) (q0 := 22) rfl rfl, pxX_U hP hK hD hN hZ hS⟩ rfl rfl hl.1 rfl (lv_room (Nat.le_of_ble_eq_true rfl)) d_S_parse_43 ⟨Nat.zero_le _, Nat.zero_le _⟩) hS (fun _ h => h) (fun H locs hP hS => ?_)
      have hD : va_D (AX q) (wX q cA u2) := dd_re (wX_f _ _ _ _) hD
      refine lv_aload_n hx hb d_S_parse_46 rfl (lv_at hl 0 rfl) ?_
      refine gf_S_44 hx hb hts hown hK hP d_S_parse_47 ?_
      obtain ⟨r3, hcl, h⟩ := bd_some h
      refine cx_read (va_runV (As := []) (rest := []) ⟨hx, hb, hml, hown, hts⟩ (c_M_isTired l dC dI q cA pt u2 _ hcl) (cw_S_146 hts ⟨Nat.le_of_ble_eq_true rfl, Nat.le_of_ble_eq_true rfl⟩) ⟨pxX_B, va_recv hK hP (ci := 5) (q0 := 22) rfl rfl, pxX_U hP hK hD hN hZ hS⟩ rfl rfl hl.1 rfl (lv_room (Nat.le_of_ble_eq_true rfl)) d_S_parse_50 ⟨Nat.zero_le _, Nat.zero_le _⟩) ?_
      refine lv_if_eq (tgt := 66) hx hb d_S_parse_53 rfl (fun hc => ?_) (fun hc => ?_)
      · have h := if_t hc h
        refine lv_aload_n hx hb d_S_parse_66 rfl (lv_at hl 0 rfl) ?_
        refine gf_S_44 hx hb hts hown hK hP d_S_parse_67 ?_
        obtain ⟨r4, hcl, h⟩ := bd_some h
        refine cx_read (va_runV (As := []) (rest := []) ⟨hx, hb, hml, hown, hts⟩ (c_M_hasSucceeded l dC dI q cA pt u2 _ hcl) (cw_S_154 hts ⟨Nat.le_of_ble_eq_true rfl, Nat.le_of_ble_eq_true rfl⟩) ⟨pxX_B, va_recv hK hP (ci := 5) (q0 := 22) rfl rfl, pxX_U hP hK hD hN hZ hS⟩ rfl rfl hl.1 rfl (lv_room (Nat.le_of_ble_eq_true rfl)) d_S_parse_70 ⟨Nat.zero_le _, Nat.zero_le _⟩) ?_
        refine lv_if_ne (tgt := 86) hx hb d_S_parse_73 rfl (fun hc => ?_) (fun hc => ?_)
        · have h := if_f hc h
          refine lv_aload_n hx hb d_S_parse_86 rfl (lv_at hl 0 rfl) ?_
          refine gf_S_44 hx hb hts hown hK hP d_S_parse_87 ?_
          obtain ⟨r5, hcl, h⟩ := bd_some h
          refine cx_read (va_runV (As := []) (rest := []) ⟨hx, hb, hml, hown, hts⟩ (c_M_answer l dC dI q cA pt u2 _ hcl) (cw_S_162 hts ⟨Nat.le_of_ble_eq_true rfl, Nat.le_of_ble_eq_true rfl⟩) ⟨pxX_B, va_recv hK hP (ci := 5) (q0 := 22) rfl rfl, pxX_U hP hK hD hN hZ hS⟩ rfl rfl hl.1 rfl (lv_room (Nat.le_of_ble_eq_true rfl)) d_S_parse_90 ⟨Nat.zero_le _, Nat.zero_le _⟩) ?_
          cases h
        · have h := if_t hc h
          cases h
      · have h := if_f hc h
        cases h
    · have h := if_t hc h
      cases h
  · have h := if_t hc h
    obtain rfl := Option.some.inj h
    obtain ⟨ast, hst⟩ := hE.2.1 (135, "there is no code") (List.mem_of_getElem? (i := 8) rfl)
    exact tw_new hfl hx hb hem hown (by decide) bx_IS_0 bx_IS_1 bx_IS_2 bx_IS_5 (fun w hw => tn_all hts hE w (tn_IS w hw)) (hts _ kw_516) (hts _ kw_14) hst hE.1 hS (hl.1.trans hml.symm) d_S_parse_7 d_S_parse_10 d_S_parse_11 d_S_parse_13 d_S_parse_16 (Nat.le_of_ble_eq_true rfl) (Nat.le_of_ble_eq_true rfl) (Nat.le_of_ble_eq_true rfl) (Nat.le_of_ble_eq_true rfl) (fun t ce e1 e2 e3 e4 => qt_end hP hS e1 e2 e3 e4) hS.2.2 hlocks
theorem d_S_parse_28 : decode prog_1_method_10_code 28 = .ok (.new 56, 3) := by decide +kernel
theorem d_S_parse_31 : decode prog_1_method_10_code 31 = .ok (.dup, 1) := by decide +kernel
theorem d_S_parse_32 : decode prog_1_method_10_code 32 = .ok (.ldc 140, 2) := by decide +kernel
theorem d_S_parse_34 : decode prog_1_method_10_code 34 = .ok (.invokespecial 60, 3) := by decide +kernel
theorem d_S_parse_37 : decode prog_1_method_10_code 37 = .ok (.athrow, 1) := by decide +kernel
def f_S_parse_t2 (σ : MZ_) (a1 : Int32) : Option (MZ_) :=
  if (σ 30 0) = 0 then none
  else (f_G_hasBody σ a1).bind fun r1 => if r1 = 0 then some σ
  else (f_M_run σ a1).bind fun u2 => (f_M_isTired u2).bind fun r3 => if r3 = 0 then (f_M_hasSucceeded u2).bind fun r4 => if r4 = 0 then none
    else (f_M_answer u2).bind fun r5 => none
  else none
set_option maxHeartbeats 4000000 in
set_option maxRecDepth 100000 in
theorem c_S_parse_t2 (l : Launch) (hfl : l.flags = pinnedFlags ++ [noTraceFlag]) (dC : Nat → ClassId) (dI : Nat → Nat → Nat) (q : Nat → Nat) (cA : Nat → ClassId) (pt : Nat) (σ : MZ_) (a1 : Int32) (u : MZ_) (h : f_S_parse_t2 σ a1 = some u) : MT_ l y_S_parse w_S_parse rm_S_parse_t (va_Pc [.ref (q 0), .int a1] (fun U => PX_ dC dI q cA pt σ U ∧ EX_ (AX q) U)) (QT_ "java/lang/IllegalArgumentException" (fun H => va_P (dC, dI) cls_ (wX q cA u) H) (AX q)) 1 6 (AX q) := by
  refine MT_ofW (cc := prog_1_method_10_code) (maxL := 2) (ret := (some .int)) (by decide) rfl ?_
  intro p e s m args below meth c s₁ B hml hem hv
  obtain ⟨rfl, ⟨hP, hK, hD, hN, hZ⟩, hE⟩ := hv
  have hx := B.exec
  have hb := B.bytes
  have hr := B.returns
  have hts : ∀ w ∈ AW_, w.before _ s = true := fun w h => atoms_spec (ws := w_S_parse) B.pre w (List.mem_cons_of_mem _ h)
  have hown : s.vm.findClass "StagedParsers" = some m.cls := findClass_of_methodNamed B.named
  have hlocks := B.notSynchronized
  have hS : va_S (AX q) s.heap s.heap [] := va_S.rf
  have hl := lv_entry ([.ref (q 0), .int a1]) (n := 2) (Nat.le_of_ble_eq_true rfl)
  rw [lg_entry_eq]
  generalize (lg_sl ([.ref (q 0), .int a1]) ++ List.replicate (2 - (lg_sl ([.ref (q 0), .int a1])).length) Slot.unset).toArray = ls at hl ⊢
  have hl : lv_has ls 2 [(0, .ref (q 0)), (1, .int a1)] := hl
  rw [f_S_parse_t2] at h
  refine lv_aload_n hx hb d_S_parse_0 rfl (lv_at hl 0 rfl) ?_
  refine gf_S_48 hx hb hts hown hK hP d_S_parse_1 ?_
  refine lv_if_ne (tgt := 17) hx hb d_S_parse_4 rfl (fun hc => ?_) (fun hc => ?_)
  · have h := if_f hc h
    refine lv_aload_n hx hb d_S_parse_17 rfl (lv_at hl 0 rfl) ?_
    refine gf_S_12 hx hb hts hown hK hP d_S_parse_18 ?_
    refine lv_iload_n hx hb d_S_parse_21 rfl (lv_at hl 1 rfl) ?_
    obtain ⟨r1, hcl, h⟩ := bd_some h
    refine cx_read (va_runV (As := [.int a1]) (rest := []) ⟨hx, hb, hml, hown, hts⟩ (c_G_hasBody l dC dI q cA pt σ a1 _ hcl) (cw_S_137 hts ⟨Nat.le_of_ble_eq_true rfl, Nat.le_of_ble_eq_true rfl⟩) ⟨pxX_B, va_recv hK hP (ci := 1) (q0 := 1) rfl rfl, pxX_U hP hK hD hN hZ hS⟩ rfl rfl hl.1 rfl (lv_room (Nat.le_of_ble_eq_true rfl)) d_S_parse_22 ⟨Nat.zero_le _, Nat.zero_le _⟩) ?_
    refine lv_if_ne (tgt := 38) hx hb d_S_parse_25 rfl (fun hc => ?_) (fun hc => ?_)
    · have h := if_f hc h
      refine lv_aload_n hx hb d_S_parse_38 rfl (lv_at hl 0 rfl) ?_
      refine gf_S_44 hx hb hts hown hK hP d_S_parse_39 ?_
      refine lv_iload_n hx hb d_S_parse_42 rfl (lv_at hl 1 rfl) ?_
      obtain ⟨u2, hcl, h⟩ := bd_some h
      refine cx_wrv (va_runV (As := [.int a1]) (rest := []) ⟨hx, hb, hml, hown, hts⟩ (c_M_run l dC dI q cA pt σ a1 _ hcl) (cw_S_142 hts ⟨Nat.le_of_ble_eq_true rfl, Nat.le_of_ble_eq_true rfl⟩) ⟨pxX_B, va_recv hK hP (ci := 5) (q0 := 22) rfl rfl, pxX_U hP hK hD hN hZ hS⟩ rfl rfl hl.1 rfl (lv_room (Nat.le_of_ble_eq_true rfl)) d_S_parse_43 ⟨Nat.zero_le _, Nat.zero_le _⟩) hS (fun _ h => h) (fun H locs hP hS => ?_)
      have hD : va_D (AX q) (wX q cA u2) := dd_re (wX_f _ _ _ _) hD
      refine lv_aload_n hx hb d_S_parse_46 rfl (lv_at hl 0 rfl) ?_
      refine gf_S_44 hx hb hts hown hK hP d_S_parse_47 ?_
      obtain ⟨r3, hcl, h⟩ := bd_some h
      refine cx_read (va_runV (As := []) (rest := []) ⟨hx, hb, hml, hown, hts⟩ (c_M_isTired l dC dI q cA pt u2 _ hcl) (cw_S_146 hts ⟨Nat.le_of_ble_eq_true rfl, Nat.le_of_ble_eq_true rfl⟩) ⟨pxX_B, va_recv hK hP (ci := 5) (q0 := 22) rfl rfl, pxX_U hP hK hD hN hZ hS⟩ rfl rfl hl.1 rfl (lv_room (Nat.le_of_ble_eq_true rfl)) d_S_parse_50 ⟨Nat.zero_le _, Nat.zero_le _⟩) ?_
      refine lv_if_eq (tgt := 66) hx hb d_S_parse_53 rfl (fun hc => ?_) (fun hc => ?_)
      · have h := if_t hc h
        refine lv_aload_n hx hb d_S_parse_66 rfl (lv_at hl 0 rfl) ?_
        refine gf_S_44 hx hb hts hown hK hP d_S_parse_67 ?_
        obtain ⟨r4, hcl, h⟩ := bd_some h
        refine cx_read (va_runV (As := []) (rest := []) ⟨hx, hb, hml, hown, hts⟩ (c_M_hasSucceeded l dC dI q cA pt u2 _ hcl) (cw_S_154 hts ⟨Nat.le_of_ble_eq_true rfl, Nat.le_of_ble_eq_true rfl⟩) ⟨pxX_B, va_recv hK hP (ci := 5) (q0 := 22) rfl rfl, pxX_U hP hK hD hN hZ hS⟩ rfl rfl hl.1 rfl (lv_room (Nat.le_of_ble_eq_true rfl)) d_S_parse_70 ⟨Nat.zero_le _, Nat.zero_le _⟩) ?_
        refine lv_if_ne (tgt := 86) hx hb d_S_parse_73 rfl (fun hc => ?_) (fun hc => ?_)
        · have h := if_f hc h
          refine lv_aload_n hx hb d_S_parse_86 rfl (lv_at hl 0 rfl) ?_
          refine gf_S_44 hx hb hts hown hK hP d_S_parse_87 ?_
          obtain ⟨r5, hcl, h⟩ := bd_some h
          refine cx_read (va_runV (As := []) (rest := []) ⟨hx, hb, hml, hown, hts⟩ (c_M_answer l dC dI q cA pt u2 _ hcl) (cw_S_162 hts ⟨Nat.le_of_ble_eq_true rfl, Nat.le_of_ble_eq_true rfl⟩) ⟨pxX_B, va_recv hK hP (ci := 5) (q0 := 22) rfl rfl, pxX_U hP hK hD hN hZ hS⟩ rfl rfl hl.1 rfl (lv_room (Nat.le_of_ble_eq_true rfl)) d_S_parse_90 ⟨Nat.zero_le _, Nat.zero_le _⟩) ?_
          cases h
        · have h := if_t hc h
          cases h
      · have h := if_f hc h
        cases h
    · have h := if_t hc h
      obtain rfl := Option.some.inj h
      obtain ⟨ast, hst⟩ := hE.2.1 (140, "no such rule, or it has no body") (List.mem_of_getElem? (i := 9) rfl)
      exact tw_new hfl hx hb hem hown (by decide) bx_IA_0 bx_IA_1 bx_IA_2 bx_IA_5 (fun w hw => tn_all hts hE w (tn_IA w hw)) (hts _ kw_443) (hts _ kw_13) hst hE.1 hS (hl.1.trans hml.symm) d_S_parse_28 d_S_parse_31 d_S_parse_32 d_S_parse_34 d_S_parse_37 (Nat.le_of_ble_eq_true rfl) (Nat.le_of_ble_eq_true rfl) (Nat.le_of_ble_eq_true rfl) (Nat.le_of_ble_eq_true rfl) (fun t ce e1 e2 e3 e4 => qt_end hP hS e1 e2 e3 e4) hS.2.2 hlocks
  · have h := if_t hc h
    cases h
theorem d_S_parse_56 : decode prog_1_method_10_code 56 = .ok (.new 149, 3) := by decide +kernel
theorem d_S_parse_59 : decode prog_1_method_10_code 59 = .ok (.dup, 1) := by decide +kernel
theorem d_S_parse_60 : decode prog_1_method_10_code 60 = .ok (.ldc 151, 2) := by decide +kernel
theorem d_S_parse_62 : decode prog_1_method_10_code 62 = .ok (.invokespecial 153, 3) := by decide +kernel
theorem d_S_parse_65 : decode prog_1_method_10_code 65 = .ok (.athrow, 1) := by decide +kernel
def f_S_parse_t3 (σ : MZ_) (a1 : Int32) : Option (MZ_) :=
  if (σ 30 0) = 0 then none
  else (f_G_hasBody σ a1).bind fun r1 => if r1 = 0 then none
  else (f_M_run σ a1).bind fun u2 => (f_M_isTired u2).bind fun r3 => if r3 = 0 then (f_M_hasSucceeded u2).bind fun r4 => if r4 = 0 then none
    else (f_M_answer u2).bind fun r5 => none
  else some u2
set_option maxHeartbeats 4000000 in
set_option maxRecDepth 100000 in
theorem c_S_parse_t3 (l : Launch) (hfl : l.flags = pinnedFlags ++ [noTraceFlag]) (dC : Nat → ClassId) (dI : Nat → Nat → Nat) (q : Nat → Nat) (cA : Nat → ClassId) (pt : Nat) (σ : MZ_) (a1 : Int32) (u : MZ_) (h : f_S_parse_t3 σ a1 = some u) : MT_ l y_S_parse w_S_parse rm_S_parse_t (va_Pc [.ref (q 0), .int a1] (fun U => PX_ dC dI q cA pt σ U ∧ EX_ (AX q) U)) (QT_ "java/lang/UnsupportedOperationException" (fun H => va_P (dC, dI) cls_ (wX q cA u) H) (AX q)) 1 6 (AX q) := by
  refine MT_ofW (cc := prog_1_method_10_code) (maxL := 2) (ret := (some .int)) (by decide) rfl ?_
  intro p e s m args below meth c s₁ B hml hem hv
  obtain ⟨rfl, ⟨hP, hK, hD, hN, hZ⟩, hE⟩ := hv
  have hx := B.exec
  have hb := B.bytes
  have hr := B.returns
  have hts : ∀ w ∈ AW_, w.before _ s = true := fun w h => atoms_spec (ws := w_S_parse) B.pre w (List.mem_cons_of_mem _ h)
  have hown : s.vm.findClass "StagedParsers" = some m.cls := findClass_of_methodNamed B.named
  have hlocks := B.notSynchronized
  have hS : va_S (AX q) s.heap s.heap [] := va_S.rf
  have hl := lv_entry ([.ref (q 0), .int a1]) (n := 2) (Nat.le_of_ble_eq_true rfl)
  rw [lg_entry_eq]
  generalize (lg_sl ([.ref (q 0), .int a1]) ++ List.replicate (2 - (lg_sl ([.ref (q 0), .int a1])).length) Slot.unset).toArray = ls at hl ⊢
  have hl : lv_has ls 2 [(0, .ref (q 0)), (1, .int a1)] := hl
  rw [f_S_parse_t3] at h
  refine lv_aload_n hx hb d_S_parse_0 rfl (lv_at hl 0 rfl) ?_
  refine gf_S_48 hx hb hts hown hK hP d_S_parse_1 ?_
  refine lv_if_ne (tgt := 17) hx hb d_S_parse_4 rfl (fun hc => ?_) (fun hc => ?_)
  · have h := if_f hc h
    refine lv_aload_n hx hb d_S_parse_17 rfl (lv_at hl 0 rfl) ?_
    refine gf_S_12 hx hb hts hown hK hP d_S_parse_18 ?_
    refine lv_iload_n hx hb d_S_parse_21 rfl (lv_at hl 1 rfl) ?_
    obtain ⟨r1, hcl, h⟩ := bd_some h
    refine cx_read (va_runV (As := [.int a1]) (rest := []) ⟨hx, hb, hml, hown, hts⟩ (c_G_hasBody l dC dI q cA pt σ a1 _ hcl) (cw_S_137 hts ⟨Nat.le_of_ble_eq_true rfl, Nat.le_of_ble_eq_true rfl⟩) ⟨pxX_B, va_recv hK hP (ci := 1) (q0 := 1) rfl rfl, pxX_U hP hK hD hN hZ hS⟩ rfl rfl hl.1 rfl (lv_room (Nat.le_of_ble_eq_true rfl)) d_S_parse_22 ⟨Nat.zero_le _, Nat.zero_le _⟩) ?_
    refine lv_if_ne (tgt := 38) hx hb d_S_parse_25 rfl (fun hc => ?_) (fun hc => ?_)
    · have h := if_f hc h
      refine lv_aload_n hx hb d_S_parse_38 rfl (lv_at hl 0 rfl) ?_
      refine gf_S_44 hx hb hts hown hK hP d_S_parse_39 ?_
      refine lv_iload_n hx hb d_S_parse_42 rfl (lv_at hl 1 rfl) ?_
      obtain ⟨u2, hcl, h⟩ := bd_some h
      refine cx_wrv (va_runV (As := [.int a1]) (rest := []) ⟨hx, hb, hml, hown, hts⟩ (c_M_run l dC dI q cA pt σ a1 _ hcl) (cw_S_142 hts ⟨Nat.le_of_ble_eq_true rfl, Nat.le_of_ble_eq_true rfl⟩) ⟨pxX_B, va_recv hK hP (ci := 5) (q0 := 22) rfl rfl, pxX_U hP hK hD hN hZ hS⟩ rfl rfl hl.1 rfl (lv_room (Nat.le_of_ble_eq_true rfl)) d_S_parse_43 ⟨Nat.zero_le _, Nat.zero_le _⟩) hS (fun _ h => h) (fun H locs hP hS => ?_)
      have hD : va_D (AX q) (wX q cA u2) := dd_re (wX_f _ _ _ _) hD
      refine lv_aload_n hx hb d_S_parse_46 rfl (lv_at hl 0 rfl) ?_
      refine gf_S_44 hx hb hts hown hK hP d_S_parse_47 ?_
      obtain ⟨r3, hcl, h⟩ := bd_some h
      refine cx_read (va_runV (As := []) (rest := []) ⟨hx, hb, hml, hown, hts⟩ (c_M_isTired l dC dI q cA pt u2 _ hcl) (cw_S_146 hts ⟨Nat.le_of_ble_eq_true rfl, Nat.le_of_ble_eq_true rfl⟩) ⟨pxX_B, va_recv hK hP (ci := 5) (q0 := 22) rfl rfl, pxX_U hP hK hD hN hZ hS⟩ rfl rfl hl.1 rfl (lv_room (Nat.le_of_ble_eq_true rfl)) d_S_parse_50 ⟨Nat.zero_le _, Nat.zero_le _⟩) ?_
      refine lv_if_eq (tgt := 66) hx hb d_S_parse_53 rfl (fun hc => ?_) (fun hc => ?_)
      · have h := if_t hc h
        refine lv_aload_n hx hb d_S_parse_66 rfl (lv_at hl 0 rfl) ?_
        refine gf_S_44 hx hb hts hown hK hP d_S_parse_67 ?_
        obtain ⟨r4, hcl, h⟩ := bd_some h
        refine cx_read (va_runV (As := []) (rest := []) ⟨hx, hb, hml, hown, hts⟩ (c_M_hasSucceeded l dC dI q cA pt u2 _ hcl) (cw_S_154 hts ⟨Nat.le_of_ble_eq_true rfl, Nat.le_of_ble_eq_true rfl⟩) ⟨pxX_B, va_recv hK hP (ci := 5) (q0 := 22) rfl rfl, pxX_U hP hK hD hN hZ hS⟩ rfl rfl hl.1 rfl (lv_room (Nat.le_of_ble_eq_true rfl)) d_S_parse_70 ⟨Nat.zero_le _, Nat.zero_le _⟩) ?_
        refine lv_if_ne (tgt := 86) hx hb d_S_parse_73 rfl (fun hc => ?_) (fun hc => ?_)
        · have h := if_f hc h
          refine lv_aload_n hx hb d_S_parse_86 rfl (lv_at hl 0 rfl) ?_
          refine gf_S_44 hx hb hts hown hK hP d_S_parse_87 ?_
          obtain ⟨r5, hcl, h⟩ := bd_some h
          refine cx_read (va_runV (As := []) (rest := []) ⟨hx, hb, hml, hown, hts⟩ (c_M_answer l dC dI q cA pt u2 _ hcl) (cw_S_162 hts ⟨Nat.le_of_ble_eq_true rfl, Nat.le_of_ble_eq_true rfl⟩) ⟨pxX_B, va_recv hK hP (ci := 5) (q0 := 22) rfl rfl, pxX_U hP hK hD hN hZ hS⟩ rfl rfl hl.1 rfl (lv_room (Nat.le_of_ble_eq_true rfl)) d_S_parse_90 ⟨Nat.zero_le _, Nat.zero_le _⟩) ?_
          cases h
        · have h := if_t hc h
          cases h
      · have h := if_f hc h
        obtain rfl := Option.some.inj h
        obtain ⟨ast, hst⟩ := hE.2.1 (151, "the parse is tired") (List.mem_of_getElem? (i := 10) rfl)
        exact tw_new hfl hx hb hem hown (by decide) bx_UO_0 bx_UO_1 bx_UO_2 bx_UO_5 (fun w hw => tn_all hts hE w (tn_UO w hw)) (hts _ kw_772) (hts _ kw_16) hst hE.1 hS (hl.1.trans hml.symm) d_S_parse_56 d_S_parse_59 d_S_parse_60 d_S_parse_62 d_S_parse_65 (Nat.le_of_ble_eq_true rfl) (Nat.le_of_ble_eq_true rfl) (Nat.le_of_ble_eq_true rfl) (Nat.le_of_ble_eq_true rfl) (fun t ce e1 e2 e3 e4 => qt_end hP hS e1 e2 e3 e4) hS.2.2 hlocks
    · have h := if_t hc h
      cases h
  · have h := if_t hc h
    cases h
theorem d_S_parse_76 : decode prog_1_method_10_code 76 = .ok (.new 157, 3) := by decide +kernel
theorem d_S_parse_79 : decode prog_1_method_10_code 79 = .ok (.dup, 1) := by decide +kernel
theorem d_S_parse_80 : decode prog_1_method_10_code 80 = .ok (.ldc 159, 2) := by decide +kernel
theorem d_S_parse_82 : decode prog_1_method_10_code 82 = .ok (.invokespecial 161, 3) := by decide +kernel
theorem d_S_parse_85 : decode prog_1_method_10_code 85 = .ok (.athrow, 1) := by decide +kernel
def f_S_parse_t4 (σ : MZ_) (a1 : Int32) : Option (MZ_) :=
  if (σ 30 0) = 0 then none
  else (f_G_hasBody σ a1).bind fun r1 => if r1 = 0 then none
  else (f_M_run σ a1).bind fun u2 => (f_M_isTired u2).bind fun r3 => if r3 = 0 then (f_M_hasSucceeded u2).bind fun r4 => if r4 = 0 then some u2
    else (f_M_answer u2).bind fun r5 => none
  else none
set_option maxHeartbeats 4000000 in
set_option maxRecDepth 100000 in
theorem c_S_parse_t4 (l : Launch) (hfl : l.flags = pinnedFlags ++ [noTraceFlag]) (dC : Nat → ClassId) (dI : Nat → Nat → Nat) (q : Nat → Nat) (cA : Nat → ClassId) (pt : Nat) (σ : MZ_) (a1 : Int32) (u : MZ_) (h : f_S_parse_t4 σ a1 = some u) : MT_ l y_S_parse w_S_parse rm_S_parse_t (va_Pc [.ref (q 0), .int a1] (fun U => PX_ dC dI q cA pt σ U ∧ EX_ (AX q) U)) (QT_ "java/util/NoSuchElementException" (fun H => va_P (dC, dI) cls_ (wX q cA u) H) (AX q)) 1 6 (AX q) := by
  refine MT_ofW (cc := prog_1_method_10_code) (maxL := 2) (ret := (some .int)) (by decide) rfl ?_
  intro p e s m args below meth c s₁ B hml hem hv
  obtain ⟨rfl, ⟨hP, hK, hD, hN, hZ⟩, hE⟩ := hv
  have hx := B.exec
  have hb := B.bytes
  have hr := B.returns
  have hts : ∀ w ∈ AW_, w.before _ s = true := fun w h => atoms_spec (ws := w_S_parse) B.pre w (List.mem_cons_of_mem _ h)
  have hown : s.vm.findClass "StagedParsers" = some m.cls := findClass_of_methodNamed B.named
  have hlocks := B.notSynchronized
  have hS : va_S (AX q) s.heap s.heap [] := va_S.rf
  have hl := lv_entry ([.ref (q 0), .int a1]) (n := 2) (Nat.le_of_ble_eq_true rfl)
  rw [lg_entry_eq]
  generalize (lg_sl ([.ref (q 0), .int a1]) ++ List.replicate (2 - (lg_sl ([.ref (q 0), .int a1])).length) Slot.unset).toArray = ls at hl ⊢
  have hl : lv_has ls 2 [(0, .ref (q 0)), (1, .int a1)] := hl
  rw [f_S_parse_t4] at h
  refine lv_aload_n hx hb d_S_parse_0 rfl (lv_at hl 0 rfl) ?_
  refine gf_S_48 hx hb hts hown hK hP d_S_parse_1 ?_
  refine lv_if_ne (tgt := 17) hx hb d_S_parse_4 rfl (fun hc => ?_) (fun hc => ?_)
  · have h := if_f hc h
    refine lv_aload_n hx hb d_S_parse_17 rfl (lv_at hl 0 rfl) ?_
    refine gf_S_12 hx hb hts hown hK hP d_S_parse_18 ?_
    refine lv_iload_n hx hb d_S_parse_21 rfl (lv_at hl 1 rfl) ?_
    obtain ⟨r1, hcl, h⟩ := bd_some h
    refine cx_read (va_runV (As := [.int a1]) (rest := []) ⟨hx, hb, hml, hown, hts⟩ (c_G_hasBody l dC dI q cA pt σ a1 _ hcl) (cw_S_137 hts ⟨Nat.le_of_ble_eq_true rfl, Nat.le_of_ble_eq_true rfl⟩) ⟨pxX_B, va_recv hK hP (ci := 1) (q0 := 1) rfl rfl, pxX_U hP hK hD hN hZ hS⟩ rfl rfl hl.1 rfl (lv_room (Nat.le_of_ble_eq_true rfl)) d_S_parse_22 ⟨Nat.zero_le _, Nat.zero_le _⟩) ?_
    refine lv_if_ne (tgt := 38) hx hb d_S_parse_25 rfl (fun hc => ?_) (fun hc => ?_)
    · have h := if_f hc h
      refine lv_aload_n hx hb d_S_parse_38 rfl (lv_at hl 0 rfl) ?_
      refine gf_S_44 hx hb hts hown hK hP d_S_parse_39 ?_
      refine lv_iload_n hx hb d_S_parse_42 rfl (lv_at hl 1 rfl) ?_
      obtain ⟨u2, hcl, h⟩ := bd_some h
      refine cx_wrv (va_runV (As := [.int a1]) (rest := []) ⟨hx, hb, hml, hown, hts⟩ (c_M_run l dC dI q cA pt σ a1 _ hcl) (cw_S_142 hts ⟨Nat.le_of_ble_eq_true rfl, Nat.le_of_ble_eq_true rfl⟩) ⟨pxX_B, va_recv hK hP (ci := 5) (q0 := 22) rfl rfl, pxX_U hP hK hD hN hZ hS⟩ rfl rfl hl.1 rfl (lv_room (Nat.le_of_ble_eq_true rfl)) d_S_parse_43 ⟨Nat.zero_le _, Nat.zero_le _⟩) hS (fun _ h => h) (fun H locs hP hS => ?_)
      have hD : va_D (AX q) (wX q cA u2) := dd_re (wX_f _ _ _ _) hD
      refine lv_aload_n hx hb d_S_parse_46 rfl (lv_at hl 0 rfl) ?_
      refine gf_S_44 hx hb hts hown hK hP d_S_parse_47 ?_
      obtain ⟨r3, hcl, h⟩ := bd_some h
      refine cx_read (va_runV (As := []) (rest := []) ⟨hx, hb, hml, hown, hts⟩ (c_M_isTired l dC dI q cA pt u2 _ hcl) (cw_S_146 hts ⟨Nat.le_of_ble_eq_true rfl, Nat.le_of_ble_eq_true rfl⟩) ⟨pxX_B, va_recv hK hP (ci := 5) (q0 := 22) rfl rfl, pxX_U hP hK hD hN hZ hS⟩ rfl rfl hl.1 rfl (lv_room (Nat.le_of_ble_eq_true rfl)) d_S_parse_50 ⟨Nat.zero_le _, Nat.zero_le _⟩) ?_
      refine lv_if_eq (tgt := 66) hx hb d_S_parse_53 rfl (fun hc => ?_) (fun hc => ?_)
      · have h := if_t hc h
        refine lv_aload_n hx hb d_S_parse_66 rfl (lv_at hl 0 rfl) ?_
        refine gf_S_44 hx hb hts hown hK hP d_S_parse_67 ?_
        obtain ⟨r4, hcl, h⟩ := bd_some h
        refine cx_read (va_runV (As := []) (rest := []) ⟨hx, hb, hml, hown, hts⟩ (c_M_hasSucceeded l dC dI q cA pt u2 _ hcl) (cw_S_154 hts ⟨Nat.le_of_ble_eq_true rfl, Nat.le_of_ble_eq_true rfl⟩) ⟨pxX_B, va_recv hK hP (ci := 5) (q0 := 22) rfl rfl, pxX_U hP hK hD hN hZ hS⟩ rfl rfl hl.1 rfl (lv_room (Nat.le_of_ble_eq_true rfl)) d_S_parse_70 ⟨Nat.zero_le _, Nat.zero_le _⟩) ?_
        refine lv_if_ne (tgt := 86) hx hb d_S_parse_73 rfl (fun hc => ?_) (fun hc => ?_)
        · have h := if_f hc h
          refine lv_aload_n hx hb d_S_parse_86 rfl (lv_at hl 0 rfl) ?_
          refine gf_S_44 hx hb hts hown hK hP d_S_parse_87 ?_
          obtain ⟨r5, hcl, h⟩ := bd_some h
          refine cx_read (va_runV (As := []) (rest := []) ⟨hx, hb, hml, hown, hts⟩ (c_M_answer l dC dI q cA pt u2 _ hcl) (cw_S_162 hts ⟨Nat.le_of_ble_eq_true rfl, Nat.le_of_ble_eq_true rfl⟩) ⟨pxX_B, va_recv hK hP (ci := 5) (q0 := 22) rfl rfl, pxX_U hP hK hD hN hZ hS⟩ rfl rfl hl.1 rfl (lv_room (Nat.le_of_ble_eq_true rfl)) d_S_parse_90 ⟨Nat.zero_le _, Nat.zero_le _⟩) ?_
          cases h
        · have h := if_t hc h
          obtain rfl := Option.some.inj h
          obtain ⟨ast, hst⟩ := hE.2.1 (159, "the parse fails") (List.mem_of_getElem? (i := 11) rfl)
          exact tw_new hfl hx hb hem hown (by decide) bx_NE_0 bx_NE_1 bx_NE_2 bx_NE_5 (fun w hw => tn_all hts hE w (tn_NE w hw)) (hts _ kw_788) (hts _ kw_17) hst hE.1 hS (hl.1.trans hml.symm) d_S_parse_76 d_S_parse_79 d_S_parse_80 d_S_parse_82 d_S_parse_85 (Nat.le_of_ble_eq_true rfl) (Nat.le_of_ble_eq_true rfl) (Nat.le_of_ble_eq_true rfl) (Nat.le_of_ble_eq_true rfl) (fun t ce e1 e2 e3 e4 => qt_end hP hS e1 e2 e3 e4) hS.2.2 hlocks
      · have h := if_f hc h
        cases h
    · have h := if_t hc h
      cases h
  · have h := if_t hc h
    cases h
