/-! the other system, first -/
def y_R_thrown : MethodName := ⟨"StagedParsersModel", "thrown", "()I"⟩
def w_R_thrown : List Cond := .code y_R_thrown prog_9_method_2_code 1 (some .int) :: AW_
def rm_R_thrown : Room := { frames := 0, cells := 0, slots := 0, locals := 0 }
theorem d_R_thrown_0 : decode prog_9_method_2_code 0 = .ok (.aload_n 0, 1) := by decide +kernel
theorem d_R_thrown_1 : decode prog_9_method_2_code 1 = .ok (.getfield 65, 3) := by decide +kernel
theorem d_R_thrown_4 : decode prog_9_method_2_code 4 = .ok (.ireturn, 1) := by decide +kernel
section RW
variable {p : Program} {l : Launch} {e : Env} {R : Room} {s : State} {m : MethodId} {args : Array Value} {below : List Frame} {meth : Method} {c : Code} {H : Heap} {locs : List Loc} {cells slots : Nat} {Q : State → Prop}
variable {cc : ByteArray} {pc : Nat} {ls : Array Slot} {rest : List Value} {dC : Nat → ClassId} {dI : Nat → Nat → Nat} {q : Nat → Nat} {cA : Nat → ClassId} {σ : MZ_} {H0 : Heap} {A : Nat → Prop}

theorem gf_R_65 (hx : p.tables.exec = Jvm.exec) (hb : c.code = cc) (hts : ∀ w ∈ AW_, w.before args s = true) (hown : s.vm.findClass "StagedParsersModel" = some m.cls) (hK : va_K (dC, dI) cls_ (tyR cA) s) (hP : va_P (dC, dI) cls_ (wR q cA σ) H) (hdg : decode cc pc = .ok (.getfield 65, 3)) (kk : W p l e R s m args below meth c H locs cells slots Q (F0 m (pc + 3) ls (.int (σ 30 0) :: rest))) : W p l e R s m args below meth c H locs cells slots Q (F0 m pc ls (.ref (q 0) :: rest)) :=
  va_get (D := (dC, dI)) (cl := cls_) (ci := 7) (v := .int (σ 30 0)) (ws := wR q cA σ) (tys := tyR cA) (C := Rz_R) (T := Tz_R) (N := 34) hx hb hts uz_R hown hK hP 0 rfl rfl 0 (by decide) (hts _ kw_811) (fun _ h9 => h9) rfl hdg kk
end RW
def f_R_thrown (σ : MZ_) : Option (Int32) :=
  some (σ 30 0)
set_option maxHeartbeats 4000000 in
set_option maxRecDepth 100000 in
theorem c_R_thrown (l : Launch) (dC : Nat → ClassId) (dI : Nat → Nat → Nat) (q : Nat → Nat) (cA : Nat → ClassId) (σ : MZ_) (u : Int32) (h : f_R_thrown σ = some u) : Met l y_R_thrown w_R_thrown rm_R_thrown (va_Pc [.ref (q 0)] (PRx_ dC dI q cA σ)) (QcRead u) 0 0 (fun _ => False) := by
  refine Met.ofW (cc := prog_9_method_2_code) (maxL := 1) (ret := (some .int)) (by decide) rfl ?_
  intro p e s m args below meth c s₁ B hml hv
  obtain ⟨rfl, hP, hK, hD, hN, hZ⟩ := hv
  have hx := B.exec
  have hb := B.bytes
  have hr := B.returns
  have hts : ∀ w ∈ AW_, w.before _ s = true := fun w h => atoms_spec (ws := w_R_thrown) B.pre w (List.mem_cons_of_mem _ h)
  have hown : s.vm.findClass "StagedParsersModel" = some m.cls := findClass_of_methodNamed B.named
  have hlocks := B.notSynchronized
  have hS : va_S (AR q) s.heap s.heap [] := va_S.rf
  have hl := lv_entry ([.ref (q 0)]) (n := 1) (Nat.le_of_ble_eq_true rfl)
  rw [lg_entry_eq]
  generalize (lg_sl ([.ref (q 0)]) ++ List.replicate (1 - (lg_sl ([.ref (q 0)])).length) Slot.unset).toArray = ls at hl ⊢
  have hl : lv_has ls 1 [(0, .ref (q 0))] := hl
  rw [f_R_thrown] at h
  refine lv_aload_n hx hb d_R_thrown_0 rfl (lv_at hl 0 rfl) ?_
  refine gf_R_65 hx hb hts hown hK hP d_R_thrown_1 ?_
  obtain rfl := Option.some.inj h
  exact W.iret hx hb hr (fun t ht hW => ⟨rfl, ht⟩) (fun _ h9 => nomatch h9) d_R_thrown_4
def y_R_fails : MethodName := ⟨"StagedParsersModel", "fails", "(I)I"⟩
def w_R_fails : List Cond := .code y_R_fails prog_9_method_3_code 2 (some .int) :: AW_
def rm_R_fails : Room := { frames := 0, cells := 0, slots := 0, locals := 0 }
theorem d_R_fails_0 : decode prog_9_method_3_code 0 = .ok (.aload_n 0, 1) := by decide +kernel
theorem d_R_fails_1 : decode prog_9_method_3_code 1 = .ok (.iload_n 1, 1) := by decide +kernel
theorem d_R_fails_2 : decode prog_9_method_3_code 2 = .ok (.putfield 65, 3) := by decide +kernel
theorem d_R_fails_5 : decode prog_9_method_3_code 5 = .ok (.iconst 0, 1) := by decide +kernel
theorem d_R_fails_6 : decode prog_9_method_3_code 6 = .ok (.ireturn, 1) := by decide +kernel
section RW
variable {p : Program} {l : Launch} {e : Env} {R : Room} {s : State} {m : MethodId} {args : Array Value} {below : List Frame} {meth : Method} {c : Code} {H : Heap} {locs : List Loc} {cells slots : Nat} {Q : State → Prop}
variable {cc : ByteArray} {pc : Nat} {ls : Array Slot} {rest : List Value} {dC : Nat → ClassId} {dI : Nat → Nat → Nat} {q : Nat → Nat} {cA : Nat → ClassId} {σ : MZ_} {H0 : Heap} {A : Nat → Prop}

theorem pf_R_65 (hx : p.tables.exec = Jvm.exec) (hb : c.code = cc) (hts : ∀ w ∈ AW_, w.before args s = true) (hown : s.vm.findClass "StagedParsersModel" = some m.cls) (hK : va_K (dC, dI) cls_ (tyR cA) s) (hP : va_P (dC, dI) cls_ (wR q cA σ) H) (hD : va_D A (wR q cA σ)) (hS : va_S A H0 H locs) {v : Int32} (hdg : decode cc pc = .ok (.putfield 65, 3)) (kk : ∀ (H1 : Heap) (locs1 : List Loc), va_P (dC, dI) cls_ (wR q cA (va_up σ 30 (fun _ => v))) H1 → va_S A H0 H1 locs1 → W p l e R s m args below meth c H1 locs1 cells slots Q (F0 m (pc + 3) ls rest)) : W p l e R s m args below meth c H locs cells slots Q (F0 m pc ls (.int v :: .ref (q 0) :: rest)) :=
  va_put (D := (dC, dI)) (cl := cls_) (ci := 7) (v := .int v) (ty := .int) (ws := wR q cA σ) (tys := tyR cA) (C := Rz_R) (T := Tz_R) (N := 34) hx hb hts uz_R tz_R tz_R_ok nz_R hown hK hP hD hS 0 rfl rfl 0 (by decide) (hts _ kw_811) (fun _ h9 => h9) rfl (by decide +kernel) rfl rfl (Nat.le_of_ble_eq_true rfl) hdg (fun H1 locs1 hP _ hS => kk H1 locs1 hP hS)
end RW
def f_R_fails (σ : MZ_) (a1 : Int32) : Option (Int32 × MZ_) :=
  st_ (va_up σ 30 (fun _ => a1)) fun σ1 => some (0, σ1)
set_option maxHeartbeats 4000000 in
set_option maxRecDepth 100000 in
theorem c_R_fails (l : Launch) (dC : Nat → ClassId) (dI : Nat → Nat → Nat) (q : Nat → Nat) (cA : Nat → ClassId) (σ : MZ_) (a1 : Int32) (u : Int32 × MZ_) (h : f_R_fails σ a1 = some u) : Met l y_R_fails w_R_fails rm_R_fails (va_Pc [.ref (q 0), .int a1] (PRx_ dC dI q cA σ)) (QW_ (some (.int u.1)) (fun H => va_P (dC, dI) cls_ (wR q cA u.2) H) (AR q)) 0 0 (AR q) := by
  refine Met.ofW (cc := prog_9_method_3_code) (maxL := 2) (ret := (some .int)) (by decide) rfl ?_
  intro p e s m args below meth c s₁ B hml hv
  obtain ⟨rfl, hP, hK, hD, hN, hZ⟩ := hv
  have hx := B.exec
  have hb := B.bytes
  have hr := B.returns
  have hts : ∀ w ∈ AW_, w.before _ s = true := fun w h => atoms_spec (ws := w_R_fails) B.pre w (List.mem_cons_of_mem _ h)
  have hown : s.vm.findClass "StagedParsersModel" = some m.cls := findClass_of_methodNamed B.named
  have hlocks := B.notSynchronized
  have hS : va_S (AR q) s.heap s.heap [] := va_S.rf
  have hl := lv_entry ([.ref (q 0), .int a1]) (n := 2) (Nat.le_of_ble_eq_true rfl)
  rw [lg_entry_eq]
  generalize (lg_sl ([.ref (q 0), .int a1]) ++ List.replicate (2 - (lg_sl ([.ref (q 0), .int a1])).length) Slot.unset).toArray = ls at hl ⊢
  have hl : lv_has ls 2 [(0, .ref (q 0)), (1, .int a1)] := hl
  rw [f_R_fails] at h
  refine lv_aload_n hx hb d_R_fails_0 rfl (lv_at hl 0 rfl) ?_
  refine lv_iload_n hx hb d_R_fails_1 rfl (lv_at hl 1 rfl) ?_
  refine pf_R_65 hx hb hts hown hK hP hD hS d_R_fails_2 (fun H locs hP hS => ?_)
  obtain ⟨σ1, eσ1, h⟩ := st_some h
  rw [← eσ1] at hP
  have hD : va_D (AR q) (wR q cA σ1) := dd_re (wR_f _ _ _ _) hD
  refine lv_iconst (v := 0) hx hb d_R_fails_5 (by decide) ?_
  obtain rfl := Option.some.inj h
  exact W.iret hx hb hr (fun t ht hW => ⟨rfl, by rw [ht]; exact hP, hS.F ht⟩) hS.2.2 d_R_fails_6
def y_R_in : MethodName := ⟨"StagedParsersModel", "in", "(III)Z"⟩
def w_R_in : List Cond := .code y_R_in prog_9_method_4_code 3 (some .boolean) :: AW_
def rm_R_in : Room := { frames := 0, cells := 0, slots := 0, locals := 0 }
theorem d_R_in_0 : decode prog_9_method_4_code 0 = .ok (.iload_n 0, 1) := by decide +kernel
theorem d_R_in_1 : decode prog_9_method_4_code 1 = .ok (.iload_n 1, 1) := by decide +kernel
theorem d_R_in_2 : decode prog_9_method_4_code 2 = .ok (.if_icmp .lt 12, 3) := by decide +kernel
theorem d_R_in_5 : decode prog_9_method_4_code 5 = .ok (.iload_n 0, 1) := by decide +kernel
theorem d_R_in_6 : decode prog_9_method_4_code 6 = .ok (.iload_n 2, 1) := by decide +kernel
theorem d_R_in_7 : decode prog_9_method_4_code 7 = .ok (.if_icmp .gt 7, 3) := by decide +kernel
theorem d_R_in_10 : decode prog_9_method_4_code 10 = .ok (.iconst 1, 1) := by decide +kernel
theorem d_R_in_11 : decode prog_9_method_4_code 11 = .ok (.goto 4, 3) := by decide +kernel
theorem d_R_in_14 : decode prog_9_method_4_code 14 = .ok (.iconst 0, 1) := by decide +kernel
theorem d_R_in_15 : decode prog_9_method_4_code 15 = .ok (.ireturn, 1) := by decide +kernel
def f_R_in (a0 : Int32) (a1 : Int32) (a2 : Int32) : Option (Int32) :=
  if a0 < a1 then some 0
  else if a2 < a0 then some 0
  else some 1
set_option maxHeartbeats 4000000 in
set_option maxRecDepth 100000 in
theorem c_R_in (l : Launch) (dC : Nat → ClassId) (dI : Nat → Nat → Nat) (q : Nat → Nat) (cA : Nat → ClassId) (σ : MZ_) (a0 : Int32) (a1 : Int32) (a2 : Int32) (u : Int32) (h : f_R_in a0 a1 a2 = some u) : Met l y_R_in w_R_in rm_R_in (va_Pc [.int a0, .int a1, .int a2] (PRx_ dC dI q cA σ)) (QcRead u) 0 0 (fun _ => False) := by
  refine Met.ofW (cc := prog_9_method_4_code) (maxL := 3) (ret := (some .boolean)) (by decide) rfl ?_
  intro p e s m args below meth c s₁ B hml hv
  obtain ⟨rfl, hP, hK, hD, hN, hZ⟩ := hv
  have hx := B.exec
  have hb := B.bytes
  have hr := B.returns
  have hts : ∀ w ∈ AW_, w.before _ s = true := fun w h => atoms_spec (ws := w_R_in) B.pre w (List.mem_cons_of_mem _ h)
  have hown : s.vm.findClass "StagedParsersModel" = some m.cls := findClass_of_methodNamed B.named
  have hlocks := B.notSynchronized
  have hS : va_S (AR q) s.heap s.heap [] := va_S.rf
  have hl := lv_entry ([.int a0, .int a1, .int a2]) (n := 3) (Nat.le_of_ble_eq_true rfl)
  rw [lg_entry_eq]
  generalize (lg_sl ([.int a0, .int a1, .int a2]) ++ List.replicate (3 - (lg_sl ([.int a0, .int a1, .int a2])).length) Slot.unset).toArray = ls at hl ⊢
  have hl : lv_has ls 3 [(0, .int a0), (1, .int a1), (2, .int a2)] := hl
  rw [f_R_in] at h
  refine lv_iload_n hx hb d_R_in_0 rfl (lv_at hl 0 rfl) ?_
  refine lv_iload_n hx hb d_R_in_1 rfl (lv_at hl 1 rfl) ?_
  refine lv_icmp_lt (tgt := 14) hx hb d_R_in_2 rfl (fun hc => ?_) (fun hc => ?_)
  · have h := if_t hc h
    refine lv_iconst (v := 0) hx hb d_R_in_14 (by decide) ?_
    obtain rfl := Option.some.inj h
    exact W.zret hx hb hr rfl (fun t ht hW => ⟨rfl, ht⟩) (fun _ h9 => nomatch h9) d_R_in_15
  · have h := if_f hc h
    refine lv_iload_n hx hb d_R_in_5 rfl (lv_at hl 0 rfl) ?_
    refine lv_iload_n hx hb d_R_in_6 rfl (lv_at hl 2 rfl) ?_
    refine lv_icmp_gt (tgt := 14) hx hb d_R_in_7 rfl (fun hc => ?_) (fun hc => ?_)
    · have h := if_t hc h
      refine lv_iconst (v := 0) hx hb d_R_in_14 (by decide) ?_
      obtain rfl := Option.some.inj h
      exact W.zret hx hb hr rfl (fun t ht hW => ⟨rfl, ht⟩) (fun _ h9 => nomatch h9) d_R_in_15
    · have h := if_f hc h
      refine lv_iconst (v := 1) hx hb d_R_in_10 (by decide) ?_
      refine lv_goto (tgt := 15) hx hb d_R_in_11 rfl ?_
      obtain rfl := Option.some.inj h
      exact W.zret hx hb hr rfl (fun t ht hW => ⟨rfl, ht⟩) (fun _ h9 => nomatch h9) d_R_in_15
def y_R_isNode : MethodName := ⟨"StagedParsersModel", "isNode", "(I)Z"⟩
def w_R_isNode : List Cond := .code y_R_isNode prog_9_method_5_code 2 (some .boolean) :: AW_
def rm_R_isNode : Room := { frames := 1, cells := 0, slots := 0, locals := 22 }
theorem d_R_isNode_0 : decode prog_9_method_5_code 0 = .ok (.iload_n 1, 1) := by decide +kernel
theorem d_R_isNode_1 : decode prog_9_method_5_code 1 = .ok (.iconst 0, 1) := by decide +kernel
theorem d_R_isNode_2 : decode prog_9_method_5_code 2 = .ok (.aload_n 0, 1) := by decide +kernel
theorem d_R_isNode_3 : decode prog_9_method_5_code 3 = .ok (.getfield 69, 3) := by decide +kernel
theorem d_R_isNode_6 : decode prog_9_method_5_code 6 = .ok (.iconst 1, 1) := by decide +kernel
theorem d_R_isNode_7 : decode prog_9_method_5_code 7 = .ok (.isub, 1) := by decide +kernel
theorem d_R_isNode_8 : decode prog_9_method_5_code 8 = .ok (.invokestatic 72, 3) := by decide +kernel
theorem d_R_isNode_11 : decode prog_9_method_5_code 11 = .ok (.ireturn, 1) := by decide +kernel
section RW
variable {p : Program} {l : Launch} {e : Env} {R : Room} {s : State} {m : MethodId} {args : Array Value} {below : List Frame} {meth : Method} {c : Code} {H : Heap} {locs : List Loc} {cells slots : Nat} {Q : State → Prop}
variable {cc : ByteArray} {pc : Nat} {ls : Array Slot} {rest : List Value} {dC : Nat → ClassId} {dI : Nat → Nat → Nat} {q : Nat → Nat} {cA : Nat → ClassId} {σ : MZ_} {H0 : Heap} {A : Nat → Prop}

theorem gf_R_69 (hx : p.tables.exec = Jvm.exec) (hb : c.code = cc) (hts : ∀ w ∈ AW_, w.before args s = true) (hown : s.vm.findClass "StagedParsersModel" = some m.cls) (hK : va_K (dC, dI) cls_ (tyR cA) s) (hP : va_P (dC, dI) cls_ (wR q cA σ) H) (hdg : decode cc pc = .ok (.getfield 69, 3)) (kk : W p l e R s m args below meth c H locs cells slots Q (F0 m (pc + 3) ls (.int (σ 31 0) :: rest))) : W p l e R s m args below meth c H locs cells slots Q (F0 m pc ls (.ref (q 0) :: rest)) :=
  va_get (D := (dC, dI)) (cl := cls_) (ci := 7) (v := .int (σ 31 0)) (ws := wR q cA σ) (tys := tyR cA) (C := Rz_R) (T := Tz_R) (N := 34) hx hb hts uz_R hown hK hP 0 rfl rfl 1 (by decide) (hts _ kw_812) (fun _ h9 => h9) rfl hdg kk
theorem cw_R_72 (hts : ∀ w ∈ AW_, w.before args s = true) (hR : rm_R_in.frames + 1 ≤ R.frames ∧ 8 + (3 + 11) + rm_R_in.locals ≤ R.locals) : CallB R s args "StagedParsersModel" 72 y_R_in prog_9_method_4_code 3 (some .boolean) w_R_in rm_R_in 0 0 3 ∧ (Cond.static y_R_in).before args s = true :=
  ⟨callB_of 3 hts (aw_in kw_935) rfl rfl rfl (hts _ kw_9) (hts _ kw_933) ⟨by decide, by decide, by decide +kernel⟩ hR, hts _ kw_934⟩
end RW
def f_R_isNode (σ : MZ_) (a1 : Int32) : Option (Int32) :=
  (f_R_in a1 0 ((σ 31 0) - 1)).bind fun r1 => bo_ r1 (some r1)
set_option maxHeartbeats 4000000 in
set_option maxRecDepth 100000 in
theorem c_R_isNode (l : Launch) (dC : Nat → ClassId) (dI : Nat → Nat → Nat) (q : Nat → Nat) (cA : Nat → ClassId) (σ : MZ_) (a1 : Int32) (u : Int32) (h : f_R_isNode σ a1 = some u) : Met l y_R_isNode w_R_isNode rm_R_isNode (va_Pc [.ref (q 0), .int a1] (PRx_ dC dI q cA σ)) (QcRead u) 0 0 (fun _ => False) := by
  refine Met.ofW (cc := prog_9_method_5_code) (maxL := 2) (ret := (some .boolean)) (by decide) rfl ?_
  intro p e s m args below meth c s₁ B hml hv
  obtain ⟨rfl, hP, hK, hD, hN, hZ⟩ := hv
  have hx := B.exec
  have hb := B.bytes
  have hr := B.returns
  have hts : ∀ w ∈ AW_, w.before _ s = true := fun w h => atoms_spec (ws := w_R_isNode) B.pre w (List.mem_cons_of_mem _ h)
  have hown : s.vm.findClass "StagedParsersModel" = some m.cls := findClass_of_methodNamed B.named
  have hlocks := B.notSynchronized
  have hS : va_S (AR q) s.heap s.heap [] := va_S.rf
  have hl := lv_entry ([.ref (q 0), .int a1]) (n := 2) (Nat.le_of_ble_eq_true rfl)
  rw [lg_entry_eq]
  generalize (lg_sl ([.ref (q 0), .int a1]) ++ List.replicate (2 - (lg_sl ([.ref (q 0), .int a1])).length) Slot.unset).toArray = ls at hl ⊢
  have hl : lv_has ls 2 [(0, .ref (q 0)), (1, .int a1)] := hl
  rw [f_R_isNode] at h
  refine lv_iload_n hx hb d_R_isNode_0 rfl (lv_at hl 1 rfl) ?_
  refine lv_iconst (v := 0) hx hb d_R_isNode_1 (by decide) ?_
  refine lv_aload_n hx hb d_R_isNode_2 rfl (lv_at hl 0 rfl) ?_
  refine gf_R_69 hx hb hts hown hK hP d_R_isNode_3 ?_
  refine lv_iconst (v := 1) hx hb d_R_isNode_6 (by decide) ?_
  refine lv_isub hx hb d_R_isNode_7 ?_
  obtain ⟨r1, hcl, h⟩ := bd_some h
  refine cx_read (va_runS (As := [.int a1, .int 0, .int ((σ 31 0) - 1)]) (rest := []) ⟨hx, hb, hml, hown, hts⟩ (c_R_in l dC dI q cA σ a1 0 ((σ 31 0) - 1) _ hcl) (cw_R_72 hts ⟨Nat.le_of_ble_eq_true rfl, Nat.le_of_ble_eq_true rfl⟩) ⟨pxR_B, pxR_U hP hK hD hN hZ hS⟩ rfl rfl hl.1 rfl (lv_room (Nat.le_of_ble_eq_true rfl)) d_R_isNode_8 ⟨Nat.zero_le _, Nat.zero_le _⟩) ?_
  obtain ⟨hbo, h⟩ := bo_some h
  obtain rfl := Option.some.inj h
  exact W.zret hx hb hr (bo_nar hbo) (fun t ht hW => ⟨rfl, ht⟩) (fun _ h9 => nomatch h9) d_R_isNode_11
def y_R_hasFirst : MethodName := ⟨"StagedParsersModel", "hasFirst", "(I)Z"⟩
def w_R_hasFirst : List Cond := .code y_R_hasFirst prog_9_method_6_code 1 (some .boolean) :: AW_
def rm_R_hasFirst : Room := { frames := 0, cells := 0, slots := 0, locals := 0 }
theorem d_R_hasFirst_0 : decode prog_9_method_6_code 0 = .ok (.iload_n 0, 1) := by decide +kernel
theorem d_R_hasFirst_1 : decode prog_9_method_6_code 1 = .ok (.iconst 4, 1) := by decide +kernel
theorem d_R_hasFirst_2 : decode prog_9_method_6_code 2 = .ok (.if_icmp .lt 9, 3) := by decide +kernel
theorem d_R_hasFirst_5 : decode prog_9_method_6_code 5 = .ok (.iload_n 0, 1) := by decide +kernel
theorem d_R_hasFirst_6 : decode prog_9_method_6_code 6 = .ok (.bipush 10, 2) := by decide +kernel
theorem d_R_hasFirst_8 : decode prog_9_method_6_code 8 = .ok (.if_icmp .le 9, 3) := by decide +kernel
theorem d_R_hasFirst_11 : decode prog_9_method_6_code 11 = .ok (.iload_n 0, 1) := by decide +kernel
theorem d_R_hasFirst_12 : decode prog_9_method_6_code 12 = .ok (.bipush 12, 2) := by decide +kernel
theorem d_R_hasFirst_14 : decode prog_9_method_6_code 14 = .ok (.if_icmp .ne 7, 3) := by decide +kernel
theorem d_R_hasFirst_17 : decode prog_9_method_6_code 17 = .ok (.iconst 1, 1) := by decide +kernel
theorem d_R_hasFirst_18 : decode prog_9_method_6_code 18 = .ok (.goto 4, 3) := by decide +kernel
theorem d_R_hasFirst_21 : decode prog_9_method_6_code 21 = .ok (.iconst 0, 1) := by decide +kernel
theorem d_R_hasFirst_22 : decode prog_9_method_6_code 22 = .ok (.ireturn, 1) := by decide +kernel
def f_R_hasFirst (a0 : Int32) : Option (Int32) :=
  if a0 < 4 then if a0 = 12 then some 1
    else some 0
  else if a0 ≤ 10 then some 1
  else if a0 = 12 then some 1
  else some 0
set_option maxHeartbeats 4000000 in
set_option maxRecDepth 100000 in
theorem c_R_hasFirst (l : Launch) (dC : Nat → ClassId) (dI : Nat → Nat → Nat) (q : Nat → Nat) (cA : Nat → ClassId) (σ : MZ_) (a0 : Int32) (u : Int32) (h : f_R_hasFirst a0 = some u) : Met l y_R_hasFirst w_R_hasFirst rm_R_hasFirst (va_Pc [.int a0] (PRx_ dC dI q cA σ)) (QcRead u) 0 0 (fun _ => False) := by
  refine Met.ofW (cc := prog_9_method_6_code) (maxL := 1) (ret := (some .boolean)) (by decide) rfl ?_
  intro p e s m args below meth c s₁ B hml hv
  obtain ⟨rfl, hP, hK, hD, hN, hZ⟩ := hv
  have hx := B.exec
  have hb := B.bytes
  have hr := B.returns
  have hts : ∀ w ∈ AW_, w.before _ s = true := fun w h => atoms_spec (ws := w_R_hasFirst) B.pre w (List.mem_cons_of_mem _ h)
  have hown : s.vm.findClass "StagedParsersModel" = some m.cls := findClass_of_methodNamed B.named
  have hlocks := B.notSynchronized
  have hS : va_S (AR q) s.heap s.heap [] := va_S.rf
  have hl := lv_entry ([.int a0]) (n := 1) (Nat.le_of_ble_eq_true rfl)
  rw [lg_entry_eq]
  generalize (lg_sl ([.int a0]) ++ List.replicate (1 - (lg_sl ([.int a0])).length) Slot.unset).toArray = ls at hl ⊢
  have hl : lv_has ls 1 [(0, .int a0)] := hl
  rw [f_R_hasFirst] at h
  refine lv_iload_n hx hb d_R_hasFirst_0 rfl (lv_at hl 0 rfl) ?_
  refine lv_iconst (v := 4) hx hb d_R_hasFirst_1 (by decide) ?_
  refine lv_icmp_lt (tgt := 11) hx hb d_R_hasFirst_2 rfl (fun hc => ?_) (fun hc => ?_)
  · have h := if_t hc h
    refine lv_iload_n hx hb d_R_hasFirst_11 rfl (lv_at hl 0 rfl) ?_
    refine lv_bipush (v := 12) hx hb d_R_hasFirst_12 (by decide) ?_
    refine lv_icmp_ne (tgt := 21) hx hb d_R_hasFirst_14 rfl (fun hc => ?_) (fun hc => ?_)
    · have h := if_f hc h
      refine lv_iconst (v := 0) hx hb d_R_hasFirst_21 (by decide) ?_
      obtain rfl := Option.some.inj h
      exact W.zret hx hb hr rfl (fun t ht hW => ⟨rfl, ht⟩) (fun _ h9 => nomatch h9) d_R_hasFirst_22
    · have h := if_t hc h
      refine lv_iconst (v := 1) hx hb d_R_hasFirst_17 (by decide) ?_
      refine lv_goto (tgt := 22) hx hb d_R_hasFirst_18 rfl ?_
      obtain rfl := Option.some.inj h
      exact W.zret hx hb hr rfl (fun t ht hW => ⟨rfl, ht⟩) (fun _ h9 => nomatch h9) d_R_hasFirst_22
  · have h := if_f hc h
    refine lv_iload_n hx hb d_R_hasFirst_5 rfl (lv_at hl 0 rfl) ?_
    refine lv_bipush (v := 10) hx hb d_R_hasFirst_6 (by decide) ?_
    refine lv_icmp_le (tgt := 17) hx hb d_R_hasFirst_8 rfl (fun hc => ?_) (fun hc => ?_)
    · have h := if_t hc h
      refine lv_iconst (v := 1) hx hb d_R_hasFirst_17 (by decide) ?_
      refine lv_goto (tgt := 22) hx hb d_R_hasFirst_18 rfl ?_
      obtain rfl := Option.some.inj h
      exact W.zret hx hb hr rfl (fun t ht hW => ⟨rfl, ht⟩) (fun _ h9 => nomatch h9) d_R_hasFirst_22
    · have h := if_f hc h
      refine lv_iload_n hx hb d_R_hasFirst_11 rfl (lv_at hl 0 rfl) ?_
      refine lv_bipush (v := 12) hx hb d_R_hasFirst_12 (by decide) ?_
      refine lv_icmp_ne (tgt := 21) hx hb d_R_hasFirst_14 rfl (fun hc => ?_) (fun hc => ?_)
      · have h := if_f hc h
        refine lv_iconst (v := 0) hx hb d_R_hasFirst_21 (by decide) ?_
        obtain rfl := Option.some.inj h
        exact W.zret hx hb hr rfl (fun t ht hW => ⟨rfl, ht⟩) (fun _ h9 => nomatch h9) d_R_hasFirst_22
      · have h := if_t hc h
        refine lv_iconst (v := 1) hx hb d_R_hasFirst_17 (by decide) ?_
        refine lv_goto (tgt := 22) hx hb d_R_hasFirst_18 rfl ?_
        obtain rfl := Option.some.inj h
        exact W.zret hx hb hr rfl (fun t ht hW => ⟨rfl, ht⟩) (fun _ h9 => nomatch h9) d_R_hasFirst_22
def y_R_hasSecond : MethodName := ⟨"StagedParsersModel", "hasSecond", "(I)Z"⟩
def w_R_hasSecond : List Cond := .code y_R_hasSecond prog_9_method_7_code 1 (some .boolean) :: AW_
def rm_R_hasSecond : Room := { frames := 0, cells := 0, slots := 0, locals := 0 }
theorem d_R_hasSecond_0 : decode prog_9_method_7_code 0 = .ok (.iload_n 0, 1) := by decide +kernel
theorem d_R_hasSecond_1 : decode prog_9_method_7_code 1 = .ok (.iconst 4, 1) := by decide +kernel
theorem d_R_hasSecond_2 : decode prog_9_method_7_code 2 = .ok (.if_icmp .eq 14, 3) := by decide +kernel
theorem d_R_hasSecond_5 : decode prog_9_method_7_code 5 = .ok (.iload_n 0, 1) := by decide +kernel
theorem d_R_hasSecond_6 : decode prog_9_method_7_code 6 = .ok (.iconst 5, 1) := by decide +kernel
theorem d_R_hasSecond_7 : decode prog_9_method_7_code 7 = .ok (.if_icmp .eq 9, 3) := by decide +kernel
theorem d_R_hasSecond_10 : decode prog_9_method_7_code 10 = .ok (.iload_n 0, 1) := by decide +kernel
theorem d_R_hasSecond_11 : decode prog_9_method_7_code 11 = .ok (.bipush 10, 2) := by decide +kernel
theorem d_R_hasSecond_13 : decode prog_9_method_7_code 13 = .ok (.if_icmp .ne 7, 3) := by decide +kernel
theorem d_R_hasSecond_16 : decode prog_9_method_7_code 16 = .ok (.iconst 1, 1) := by decide +kernel
theorem d_R_hasSecond_17 : decode prog_9_method_7_code 17 = .ok (.goto 4, 3) := by decide +kernel
theorem d_R_hasSecond_20 : decode prog_9_method_7_code 20 = .ok (.iconst 0, 1) := by decide +kernel
theorem d_R_hasSecond_21 : decode prog_9_method_7_code 21 = .ok (.ireturn, 1) := by decide +kernel
def f_R_hasSecond (a0 : Int32) : Option (Int32) :=
  if a0 = 4 then some 1
  else if a0 = 5 then some 1
  else if a0 = 10 then some 1
  else some 0
set_option maxHeartbeats 4000000 in
set_option maxRecDepth 100000 in
theorem c_R_hasSecond (l : Launch) (dC : Nat → ClassId) (dI : Nat → Nat → Nat) (q : Nat → Nat) (cA : Nat → ClassId) (σ : MZ_) (a0 : Int32) (u : Int32) (h : f_R_hasSecond a0 = some u) : Met l y_R_hasSecond w_R_hasSecond rm_R_hasSecond (va_Pc [.int a0] (PRx_ dC dI q cA σ)) (QcRead u) 0 0 (fun _ => False) := by
  refine Met.ofW (cc := prog_9_method_7_code) (maxL := 1) (ret := (some .boolean)) (by decide) rfl ?_
  intro p e s m args below meth c s₁ B hml hv
  obtain ⟨rfl, hP, hK, hD, hN, hZ⟩ := hv
  have hx := B.exec
  have hb := B.bytes
  have hr := B.returns
  have hts : ∀ w ∈ AW_, w.before _ s = true := fun w h => atoms_spec (ws := w_R_hasSecond) B.pre w (List.mem_cons_of_mem _ h)
  have hown : s.vm.findClass "StagedParsersModel" = some m.cls := findClass_of_methodNamed B.named
  have hlocks := B.notSynchronized
  have hS : va_S (AR q) s.heap s.heap [] := va_S.rf
  have hl := lv_entry ([.int a0]) (n := 1) (Nat.le_of_ble_eq_true rfl)
  rw [lg_entry_eq]
  generalize (lg_sl ([.int a0]) ++ List.replicate (1 - (lg_sl ([.int a0])).length) Slot.unset).toArray = ls at hl ⊢
  have hl : lv_has ls 1 [(0, .int a0)] := hl
  rw [f_R_hasSecond] at h
  refine lv_iload_n hx hb d_R_hasSecond_0 rfl (lv_at hl 0 rfl) ?_
  refine lv_iconst (v := 4) hx hb d_R_hasSecond_1 (by decide) ?_
  refine lv_icmp_eq (tgt := 16) hx hb d_R_hasSecond_2 rfl (fun hc => ?_) (fun hc => ?_)
  · have h := if_t hc h
    refine lv_iconst (v := 1) hx hb d_R_hasSecond_16 (by decide) ?_
    refine lv_goto (tgt := 21) hx hb d_R_hasSecond_17 rfl ?_
    obtain rfl := Option.some.inj h
    exact W.zret hx hb hr rfl (fun t ht hW => ⟨rfl, ht⟩) (fun _ h9 => nomatch h9) d_R_hasSecond_21
  · have h := if_f hc h
    refine lv_iload_n hx hb d_R_hasSecond_5 rfl (lv_at hl 0 rfl) ?_
    refine lv_iconst (v := 5) hx hb d_R_hasSecond_6 (by decide) ?_
    refine lv_icmp_eq (tgt := 16) hx hb d_R_hasSecond_7 rfl (fun hc => ?_) (fun hc => ?_)
    · have h := if_t hc h
      refine lv_iconst (v := 1) hx hb d_R_hasSecond_16 (by decide) ?_
      refine lv_goto (tgt := 21) hx hb d_R_hasSecond_17 rfl ?_
      obtain rfl := Option.some.inj h
      exact W.zret hx hb hr rfl (fun t ht hW => ⟨rfl, ht⟩) (fun _ h9 => nomatch h9) d_R_hasSecond_21
    · have h := if_f hc h
      refine lv_iload_n hx hb d_R_hasSecond_10 rfl (lv_at hl 0 rfl) ?_
      refine lv_bipush (v := 10) hx hb d_R_hasSecond_11 (by decide) ?_
      refine lv_icmp_ne (tgt := 20) hx hb d_R_hasSecond_13 rfl (fun hc => ?_) (fun hc => ?_)
      · have h := if_f hc h
        refine lv_iconst (v := 0) hx hb d_R_hasSecond_20 (by decide) ?_
        obtain rfl := Option.some.inj h
        exact W.zret hx hb hr rfl (fun t ht hW => ⟨rfl, ht⟩) (fun _ h9 => nomatch h9) d_R_hasSecond_21
      · have h := if_t hc h
        refine lv_iconst (v := 1) hx hb d_R_hasSecond_16 (by decide) ?_
        refine lv_goto (tgt := 21) hx hb d_R_hasSecond_17 rfl ?_
        obtain rfl := Option.some.inj h
        exact W.zret hx hb hr rfl (fun t ht hW => ⟨rfl, ht⟩) (fun _ h9 => nomatch h9) d_R_hasSecond_21
def y_R_fits : MethodName := ⟨"StagedParsersModel", "fits", "(IIII)Z"⟩
def w_R_fits : List Cond := .code y_R_fits prog_9_method_8_code 6 (some .boolean) :: AW_
def rm_R_fits : Room := { frames := 2, cells := 0, slots := 0, locals := 43 }
theorem d_R_fits_0 : decode prog_9_method_8_code 0 = .ok (.iload_n 1, 1) := by decide +kernel
theorem d_R_fits_1 : decode prog_9_method_8_code 1 = .ok (.invokestatic 76, 3) := by decide +kernel
theorem d_R_fits_4 : decode prog_9_method_8_code 4 = .ok (.ifCond .eq 11, 3) := by decide +kernel
theorem d_R_fits_7 : decode prog_9_method_8_code 7 = .ok (.aload_n 0, 1) := by decide +kernel
theorem d_R_fits_8 : decode prog_9_method_8_code 8 = .ok (.iload_n 2, 1) := by decide +kernel
theorem d_R_fits_9 : decode prog_9_method_8_code 9 = .ok (.invokevirtual 80, 3) := by decide +kernel
theorem d_R_fits_12 : decode prog_9_method_8_code 12 = .ok (.ifCond .eq 22, 3) := by decide +kernel
theorem d_R_fits_15 : decode prog_9_method_8_code 15 = .ok (.iload_n 1, 1) := by decide +kernel
theorem d_R_fits_16 : decode prog_9_method_8_code 16 = .ok (.invokestatic 83, 3) := by decide +kernel
theorem d_R_fits_19 : decode prog_9_method_8_code 19 = .ok (.ifCond .eq 11, 3) := by decide +kernel
theorem d_R_fits_22 : decode prog_9_method_8_code 22 = .ok (.aload_n 0, 1) := by decide +kernel
theorem d_R_fits_23 : decode prog_9_method_8_code 23 = .ok (.iload_n 3, 1) := by decide +kernel
theorem d_R_fits_24 : decode prog_9_method_8_code 24 = .ok (.invokevirtual 80, 3) := by decide +kernel
theorem d_R_fits_27 : decode prog_9_method_8_code 27 = .ok (.ifCond .eq 7, 3) := by decide +kernel
theorem d_R_fits_30 : decode prog_9_method_8_code 30 = .ok (.iconst 1, 1) := by decide +kernel
theorem d_R_fits_31 : decode prog_9_method_8_code 31 = .ok (.goto 4, 3) := by decide +kernel
theorem d_R_fits_34 : decode prog_9_method_8_code 34 = .ok (.iconst 0, 1) := by decide +kernel
theorem d_R_fits_35 : decode prog_9_method_8_code 35 = .ok (.istore 5, 2) := by decide +kernel
theorem d_R_fits_37 : decode prog_9_method_8_code 37 = .ok (.iload_n 1, 1) := by decide +kernel
theorem d_R_fits_38 : decode prog_9_method_8_code 38 = .ok (.tableswitch 180 1 13 #[66, 75, 180, 103, 180, 180, 180, 180, 125, 180, 146, 153, 173], 66) := by decide +kernel
theorem d_R_fits_104 : decode prog_9_method_8_code 104 = .ok (.iload_n 2, 1) := by decide +kernel
theorem d_R_fits_105 : decode prog_9_method_8_code 105 = .ok (.iconst 0, 1) := by decide +kernel
theorem d_R_fits_106 : decode prog_9_method_8_code 106 = .ok (.sipush 255, 3) := by decide +kernel
theorem d_R_fits_109 : decode prog_9_method_8_code 109 = .ok (.invokestatic 72, 3) := by decide +kernel
theorem d_R_fits_112 : decode prog_9_method_8_code 112 = .ok (.ireturn, 1) := by decide +kernel
theorem d_R_fits_113 : decode prog_9_method_8_code 113 = .ok (.iload_n 2, 1) := by decide +kernel
theorem d_R_fits_114 : decode prog_9_method_8_code 114 = .ok (.iconst 0, 1) := by decide +kernel
theorem d_R_fits_115 : decode prog_9_method_8_code 115 = .ok (.sipush 255, 3) := by decide +kernel
theorem d_R_fits_118 : decode prog_9_method_8_code 118 = .ok (.invokestatic 72, 3) := by decide +kernel
theorem d_R_fits_121 : decode prog_9_method_8_code 121 = .ok (.ifCond .eq 18, 3) := by decide +kernel
theorem d_R_fits_124 : decode prog_9_method_8_code 124 = .ok (.iload_n 3, 1) := by decide +kernel
theorem d_R_fits_125 : decode prog_9_method_8_code 125 = .ok (.iload_n 2, 1) := by decide +kernel
theorem d_R_fits_126 : decode prog_9_method_8_code 126 = .ok (.sipush 255, 3) := by decide +kernel
theorem d_R_fits_129 : decode prog_9_method_8_code 129 = .ok (.invokestatic 72, 3) := by decide +kernel
theorem d_R_fits_132 : decode prog_9_method_8_code 132 = .ok (.ifCond .eq 7, 3) := by decide +kernel
theorem d_R_fits_135 : decode prog_9_method_8_code 135 = .ok (.iconst 1, 1) := by decide +kernel
theorem d_R_fits_136 : decode prog_9_method_8_code 136 = .ok (.goto 4, 3) := by decide +kernel
theorem d_R_fits_139 : decode prog_9_method_8_code 139 = .ok (.iconst 0, 1) := by decide +kernel
theorem d_R_fits_140 : decode prog_9_method_8_code 140 = .ok (.ireturn, 1) := by decide +kernel
theorem d_R_fits_141 : decode prog_9_method_8_code 141 = .ok (.iload 5, 2) := by decide +kernel
theorem d_R_fits_143 : decode prog_9_method_8_code 143 = .ok (.ifCond .eq 18, 3) := by decide +kernel
theorem d_R_fits_146 : decode prog_9_method_8_code 146 = .ok (.iload 4, 2) := by decide +kernel
theorem d_R_fits_148 : decode prog_9_method_8_code 148 = .ok (.iconst 0, 1) := by decide +kernel
theorem d_R_fits_149 : decode prog_9_method_8_code 149 = .ok (.bipush 7, 2) := by decide +kernel
theorem d_R_fits_151 : decode prog_9_method_8_code 151 = .ok (.invokestatic 72, 3) := by decide +kernel
theorem d_R_fits_154 : decode prog_9_method_8_code 154 = .ok (.ifCond .eq 7, 3) := by decide +kernel
theorem d_R_fits_157 : decode prog_9_method_8_code 157 = .ok (.iconst 1, 1) := by decide +kernel
theorem d_R_fits_158 : decode prog_9_method_8_code 158 = .ok (.goto 4, 3) := by decide +kernel
theorem d_R_fits_161 : decode prog_9_method_8_code 161 = .ok (.iconst 0, 1) := by decide +kernel
theorem d_R_fits_162 : decode prog_9_method_8_code 162 = .ok (.ireturn, 1) := by decide +kernel
theorem d_R_fits_163 : decode prog_9_method_8_code 163 = .ok (.iload 5, 2) := by decide +kernel
theorem d_R_fits_165 : decode prog_9_method_8_code 165 = .ok (.ifCond .eq 17, 3) := by decide +kernel
theorem d_R_fits_168 : decode prog_9_method_8_code 168 = .ok (.iload_n 3, 1) := by decide +kernel
theorem d_R_fits_169 : decode prog_9_method_8_code 169 = .ok (.iconst 0, 1) := by decide +kernel
theorem d_R_fits_170 : decode prog_9_method_8_code 170 = .ok (.bipush 7, 2) := by decide +kernel
theorem d_R_fits_172 : decode prog_9_method_8_code 172 = .ok (.invokestatic 72, 3) := by decide +kernel
theorem d_R_fits_175 : decode prog_9_method_8_code 175 = .ok (.ifCond .eq 7, 3) := by decide +kernel
theorem d_R_fits_178 : decode prog_9_method_8_code 178 = .ok (.iconst 1, 1) := by decide +kernel
theorem d_R_fits_179 : decode prog_9_method_8_code 179 = .ok (.goto 4, 3) := by decide +kernel
theorem d_R_fits_182 : decode prog_9_method_8_code 182 = .ok (.iconst 0, 1) := by decide +kernel
theorem d_R_fits_183 : decode prog_9_method_8_code 183 = .ok (.ireturn, 1) := by decide +kernel
theorem d_R_fits_184 : decode prog_9_method_8_code 184 = .ok (.iload_n 2, 1) := by decide +kernel
theorem d_R_fits_185 : decode prog_9_method_8_code 185 = .ok (.iconst 0, 1) := by decide +kernel
theorem d_R_fits_186 : decode prog_9_method_8_code 186 = .ok (.iconst 5, 1) := by decide +kernel
theorem d_R_fits_187 : decode prog_9_method_8_code 187 = .ok (.invokestatic 72, 3) := by decide +kernel
theorem d_R_fits_190 : decode prog_9_method_8_code 190 = .ok (.ireturn, 1) := by decide +kernel
theorem d_R_fits_191 : decode prog_9_method_8_code 191 = .ok (.iload 5, 2) := by decide +kernel
theorem d_R_fits_193 : decode prog_9_method_8_code 193 = .ok (.ifCond .eq 16, 3) := by decide +kernel
theorem d_R_fits_196 : decode prog_9_method_8_code 196 = .ok (.iload_n 3, 1) := by decide +kernel
theorem d_R_fits_197 : decode prog_9_method_8_code 197 = .ok (.iconst 0, 1) := by decide +kernel
theorem d_R_fits_198 : decode prog_9_method_8_code 198 = .ok (.iconst 3, 1) := by decide +kernel
theorem d_R_fits_199 : decode prog_9_method_8_code 199 = .ok (.invokestatic 72, 3) := by decide +kernel
theorem d_R_fits_202 : decode prog_9_method_8_code 202 = .ok (.ifCond .eq 7, 3) := by decide +kernel
theorem d_R_fits_205 : decode prog_9_method_8_code 205 = .ok (.iconst 1, 1) := by decide +kernel
theorem d_R_fits_206 : decode prog_9_method_8_code 206 = .ok (.goto 4, 3) := by decide +kernel
theorem d_R_fits_209 : decode prog_9_method_8_code 209 = .ok (.iconst 0, 1) := by decide +kernel
theorem d_R_fits_210 : decode prog_9_method_8_code 210 = .ok (.ireturn, 1) := by decide +kernel
theorem d_R_fits_211 : decode prog_9_method_8_code 211 = .ok (.iload_n 2, 1) := by decide +kernel
theorem d_R_fits_212 : decode prog_9_method_8_code 212 = .ok (.iconst 0, 1) := by decide +kernel
theorem d_R_fits_213 : decode prog_9_method_8_code 213 = .ok (.iconst 3, 1) := by decide +kernel
theorem d_R_fits_214 : decode prog_9_method_8_code 214 = .ok (.invokestatic 72, 3) := by decide +kernel
theorem d_R_fits_217 : decode prog_9_method_8_code 217 = .ok (.ireturn, 1) := by decide +kernel
theorem d_R_fits_218 : decode prog_9_method_8_code 218 = .ok (.iload_n 1, 1) := by decide +kernel
theorem d_R_fits_219 : decode prog_9_method_8_code 219 = .ok (.iconst 0, 1) := by decide +kernel
theorem d_R_fits_220 : decode prog_9_method_8_code 220 = .ok (.bipush 13, 2) := by decide +kernel
theorem d_R_fits_222 : decode prog_9_method_8_code 222 = .ok (.invokestatic 72, 3) := by decide +kernel
theorem d_R_fits_225 : decode prog_9_method_8_code 225 = .ok (.ifCond .eq 12, 3) := by decide +kernel
theorem d_R_fits_228 : decode prog_9_method_8_code 228 = .ok (.iload 5, 2) := by decide +kernel
theorem d_R_fits_230 : decode prog_9_method_8_code 230 = .ok (.ifCond .eq 7, 3) := by decide +kernel
theorem d_R_fits_233 : decode prog_9_method_8_code 233 = .ok (.iconst 1, 1) := by decide +kernel
theorem d_R_fits_234 : decode prog_9_method_8_code 234 = .ok (.goto 4, 3) := by decide +kernel
theorem d_R_fits_237 : decode prog_9_method_8_code 237 = .ok (.iconst 0, 1) := by decide +kernel
theorem d_R_fits_238 : decode prog_9_method_8_code 238 = .ok (.ireturn, 1) := by decide +kernel
section RW
variable {p : Program} {l : Launch} {e : Env} {R : Room} {s : State} {m : MethodId} {args : Array Value} {below : List Frame} {meth : Method} {c : Code} {H : Heap} {locs : List Loc} {cells slots : Nat} {Q : State → Prop}
variable {cc : ByteArray} {pc : Nat} {ls : Array Slot} {rest : List Value} {dC : Nat → ClassId} {dI : Nat → Nat → Nat} {q : Nat → Nat} {cA : Nat → ClassId} {σ : MZ_} {H0 : Heap} {A : Nat → Prop}

theorem cw_R_76 (hts : ∀ w ∈ AW_, w.before args s = true) (hR : rm_R_hasFirst.frames + 1 ≤ R.frames ∧ 8 + (1 + 11) + rm_R_hasFirst.locals ≤ R.locals) : CallB R s args "StagedParsersModel" 76 y_R_hasFirst prog_9_method_6_code 1 (some .boolean) w_R_hasFirst rm_R_hasFirst 0 0 1 ∧ (Cond.static y_R_hasFirst).before args s = true :=
  ⟨callB_of 1 hts (aw_in kw_928) rfl rfl rfl (hts _ kw_9) (hts _ kw_926) ⟨by decide, by decide, by decide +kernel⟩ hR, hts _ kw_927⟩
theorem cw_R_83 (hts : ∀ w ∈ AW_, w.before args s = true) (hR : rm_R_hasSecond.frames + 1 ≤ R.frames ∧ 8 + (1 + 11) + rm_R_hasSecond.locals ≤ R.locals) : CallB R s args "StagedParsersModel" 83 y_R_hasSecond prog_9_method_7_code 1 (some .boolean) w_R_hasSecond rm_R_hasSecond 0 0 1 ∧ (Cond.static y_R_hasSecond).before args s = true :=
  ⟨callB_of 1 hts (aw_in kw_938) rfl rfl rfl (hts _ kw_9) (hts _ kw_936) ⟨by decide, by decide, by decide +kernel⟩ hR, hts _ kw_937⟩
theorem cw_R_80 (hts : ∀ w ∈ AW_, w.before args s = true) (hR : rm_R_isNode.frames + 1 ≤ R.frames ∧ 8 + (2 + 11) + rm_R_isNode.locals ≤ R.locals) : CallW R s args "StagedParsersModel" "StagedParsersModel" 80 y_R_isNode prog_9_method_5_code 2 (some .boolean) w_R_isNode rm_R_isNode 0 0 1 :=
  ⟨callB_of 1 hts (aw_in kw_932) rfl rfl rfl (hts _ kw_9) (hts _ kw_929) ⟨by decide, by decide, by decide +kernel⟩ hR, hts _ kw_931, hts _ ks_41⟩
end RW
def f_R_fits (σ : MZ_) (a1 : Int32) (a2 : Int32) (a3 : Int32) (a4 : Int32) : Option (Int32) :=
  (f_R_hasFirst a1).bind fun r1 => if r1 = 0 then (f_R_hasSecond a1).bind fun r2 => if r2 = 0 then if a1 = 1 then (f_R_in a2 0 255).bind fun r3 => bo_ r3 (some r3)
      else if a1 = 2 then (f_R_in a2 0 255).bind fun r4 => if r4 = 0 then some 0
        else (f_R_in a3 a2 255).bind fun r5 => if r5 = 0 then some 0
        else some 1
      else if a1 = 3 then (f_R_in a1 0 13).bind fun r6 => if r6 = 0 then some 0
        else if (1 : Int32) = 0 then some 0
        else some 1
      else if a1 = 4 then if (1 : Int32) = 0 then some 0
        else (f_R_in a4 0 7).bind fun r7 => if r7 = 0 then some 0
        else some 1
      else if a1 = 5 then (f_R_in a1 0 13).bind fun r8 => if r8 = 0 then some 0
        else if (1 : Int32) = 0 then some 0
        else some 1
      else if a1 = 6 then (f_R_in a1 0 13).bind fun r9 => if r9 = 0 then some 0
        else if (1 : Int32) = 0 then some 0
        else some 1
      else if a1 = 7 then (f_R_in a1 0 13).bind fun r10 => if r10 = 0 then some 0
        else if (1 : Int32) = 0 then some 0
        else some 1
      else if a1 = 8 then (f_R_in a1 0 13).bind fun r11 => if r11 = 0 then some 0
        else if (1 : Int32) = 0 then some 0
        else some 1
      else if a1 = 9 then if (1 : Int32) = 0 then some 0
        else (f_R_in a3 0 7).bind fun r12 => if r12 = 0 then some 0
        else some 1
      else if a1 = 10 then (f_R_in a1 0 13).bind fun r13 => if r13 = 0 then some 0
        else if (1 : Int32) = 0 then some 0
        else some 1
      else if a1 = 11 then (f_R_in a2 0 5).bind fun r14 => bo_ r14 (some r14)
      else if a1 = 12 then if (1 : Int32) = 0 then some 0
        else (f_R_in a3 0 3).bind fun r15 => if r15 = 0 then some 0
        else some 1
      else if a1 = 13 then (f_R_in a2 0 3).bind fun r16 => bo_ r16 (some r16)
      else (f_R_in a1 0 13).bind fun r17 => if r17 = 0 then some 0
      else if (1 : Int32) = 0 then some 0
      else some 1
    else (f_R_isNode σ a3).bind fun r18 => if r18 = 0 then if a1 = 1 then (f_R_in a2 0 255).bind fun r19 => bo_ r19 (some r19)
      else if a1 = 2 then (f_R_in a2 0 255).bind fun r20 => if r20 = 0 then some 0
        else (f_R_in a3 a2 255).bind fun r21 => if r21 = 0 then some 0
        else some 1
      else if a1 = 3 then (f_R_in a1 0 13).bind fun r22 => if r22 = 0 then some 0
        else if (0 : Int32) = 0 then some 0
        else some 1
      else if a1 = 4 then if (0 : Int32) = 0 then some 0
        else (f_R_in a4 0 7).bind fun r23 => if r23 = 0 then some 0
        else some 1
      else if a1 = 5 then (f_R_in a1 0 13).bind fun r24 => if r24 = 0 then some 0
        else if (0 : Int32) = 0 then some 0
        else some 1
      else if a1 = 6 then (f_R_in a1 0 13).bind fun r25 => if r25 = 0 then some 0
        else if (0 : Int32) = 0 then some 0
        else some 1
      else if a1 = 7 then (f_R_in a1 0 13).bind fun r26 => if r26 = 0 then some 0
        else if (0 : Int32) = 0 then some 0
        else some 1
      else if a1 = 8 then (f_R_in a1 0 13).bind fun r27 => if r27 = 0 then some 0
        else if (0 : Int32) = 0 then some 0
        else some 1
      else if a1 = 9 then if (0 : Int32) = 0 then some 0
        else (f_R_in a3 0 7).bind fun r28 => if r28 = 0 then some 0
        else some 1
      else if a1 = 10 then (f_R_in a1 0 13).bind fun r29 => if r29 = 0 then some 0
        else if (0 : Int32) = 0 then some 0
        else some 1
      else if a1 = 11 then (f_R_in a2 0 5).bind fun r30 => bo_ r30 (some r30)
      else if a1 = 12 then if (0 : Int32) = 0 then some 0
        else (f_R_in a3 0 3).bind fun r31 => if r31 = 0 then some 0
        else some 1
      else if a1 = 13 then (f_R_in a2 0 3).bind fun r32 => bo_ r32 (some r32)
      else (f_R_in a1 0 13).bind fun r33 => if r33 = 0 then some 0
      else if (0 : Int32) = 0 then some 0
      else some 1
    else if a1 = 1 then (f_R_in a2 0 255).bind fun r34 => bo_ r34 (some r34)
    else if a1 = 2 then (f_R_in a2 0 255).bind fun r35 => if r35 = 0 then some 0
      else (f_R_in a3 a2 255).bind fun r36 => if r36 = 0 then some 0
      else some 1
    else if a1 = 3 then (f_R_in a1 0 13).bind fun r37 => if r37 = 0 then some 0
      else if (1 : Int32) = 0 then some 0
      else some 1
    else if a1 = 4 then if (1 : Int32) = 0 then some 0
      else (f_R_in a4 0 7).bind fun r38 => if r38 = 0 then some 0
      else some 1
    else if a1 = 5 then (f_R_in a1 0 13).bind fun r39 => if r39 = 0 then some 0
      else if (1 : Int32) = 0 then some 0
      else some 1
    else if a1 = 6 then (f_R_in a1 0 13).bind fun r40 => if r40 = 0 then some 0
      else if (1 : Int32) = 0 then some 0
      else some 1
    else if a1 = 7 then (f_R_in a1 0 13).bind fun r41 => if r41 = 0 then some 0
      else if (1 : Int32) = 0 then some 0
      else some 1
    else if a1 = 8 then (f_R_in a1 0 13).bind fun r42 => if r42 = 0 then some 0
      else if (1 : Int32) = 0 then some 0
      else some 1
    else if a1 = 9 then if (1 : Int32) = 0 then some 0
      else (f_R_in a3 0 7).bind fun r43 => if r43 = 0 then some 0
      else some 1
    else if a1 = 10 then (f_R_in a1 0 13).bind fun r44 => if r44 = 0 then some 0
      else if (1 : Int32) = 0 then some 0
      else some 1
    else if a1 = 11 then (f_R_in a2 0 5).bind fun r45 => bo_ r45 (some r45)
    else if a1 = 12 then if (1 : Int32) = 0 then some 0
      else (f_R_in a3 0 3).bind fun r46 => if r46 = 0 then some 0
      else some 1
    else if a1 = 13 then (f_R_in a2 0 3).bind fun r47 => bo_ r47 (some r47)
    else (f_R_in a1 0 13).bind fun r48 => if r48 = 0 then some 0
    else if (1 : Int32) = 0 then some 0
    else some 1
  else (f_R_isNode σ a2).bind fun r49 => if r49 = 0 then if a1 = 1 then (f_R_in a2 0 255).bind fun r50 => bo_ r50 (some r50)
    else if a1 = 2 then (f_R_in a2 0 255).bind fun r51 => if r51 = 0 then some 0
      else (f_R_in a3 a2 255).bind fun r52 => if r52 = 0 then some 0
      else some 1
    else if a1 = 3 then (f_R_in a1 0 13).bind fun r53 => if r53 = 0 then some 0
      else if (0 : Int32) = 0 then some 0
      else some 1
    else if a1 = 4 then if (0 : Int32) = 0 then some 0
      else (f_R_in a4 0 7).bind fun r54 => if r54 = 0 then some 0
      else some 1
    else if a1 = 5 then (f_R_in a1 0 13).bind fun r55 => if r55 = 0 then some 0
      else if (0 : Int32) = 0 then some 0
      else some 1
    else if a1 = 6 then (f_R_in a1 0 13).bind fun r56 => if r56 = 0 then some 0
      else if (0 : Int32) = 0 then some 0
      else some 1
    else if a1 = 7 then (f_R_in a1 0 13).bind fun r57 => if r57 = 0 then some 0
      else if (0 : Int32) = 0 then some 0
      else some 1
    else if a1 = 8 then (f_R_in a1 0 13).bind fun r58 => if r58 = 0 then some 0
      else if (0 : Int32) = 0 then some 0
      else some 1
    else if a1 = 9 then if (0 : Int32) = 0 then some 0
      else (f_R_in a3 0 7).bind fun r59 => if r59 = 0 then some 0
      else some 1
    else if a1 = 10 then (f_R_in a1 0 13).bind fun r60 => if r60 = 0 then some 0
      else if (0 : Int32) = 0 then some 0
      else some 1
    else if a1 = 11 then (f_R_in a2 0 5).bind fun r61 => bo_ r61 (some r61)
    else if a1 = 12 then if (0 : Int32) = 0 then some 0
      else (f_R_in a3 0 3).bind fun r62 => if r62 = 0 then some 0
      else some 1
    else if a1 = 13 then (f_R_in a2 0 3).bind fun r63 => bo_ r63 (some r63)
    else (f_R_in a1 0 13).bind fun r64 => if r64 = 0 then some 0
    else if (0 : Int32) = 0 then some 0
    else some 1
  else (f_R_hasSecond a1).bind fun r65 => if r65 = 0 then if a1 = 1 then (f_R_in a2 0 255).bind fun r66 => bo_ r66 (some r66)
    else if a1 = 2 then (f_R_in a2 0 255).bind fun r67 => if r67 = 0 then some 0
      else (f_R_in a3 a2 255).bind fun r68 => if r68 = 0 then some 0
      else some 1
    else if a1 = 3 then (f_R_in a1 0 13).bind fun r69 => if r69 = 0 then some 0
      else if (1 : Int32) = 0 then some 0
      else some 1
    else if a1 = 4 then if (1 : Int32) = 0 then some 0
      else (f_R_in a4 0 7).bind fun r70 => if r70 = 0 then some 0
      else some 1
    else if a1 = 5 then (f_R_in a1 0 13).bind fun r71 => if r71 = 0 then some 0
      else if (1 : Int32) = 0 then some 0
      else some 1
    else if a1 = 6 then (f_R_in a1 0 13).bind fun r72 => if r72 = 0 then some 0
      else if (1 : Int32) = 0 then some 0
      else some 1
    else if a1 = 7 then (f_R_in a1 0 13).bind fun r73 => if r73 = 0 then some 0
      else if (1 : Int32) = 0 then some 0
      else some 1
    else if a1 = 8 then (f_R_in a1 0 13).bind fun r74 => if r74 = 0 then some 0
      else if (1 : Int32) = 0 then some 0
      else some 1
    else if a1 = 9 then if (1 : Int32) = 0 then some 0
      else (f_R_in a3 0 7).bind fun r75 => if r75 = 0 then some 0
      else some 1
    else if a1 = 10 then (f_R_in a1 0 13).bind fun r76 => if r76 = 0 then some 0
      else if (1 : Int32) = 0 then some 0
      else some 1
    else if a1 = 11 then (f_R_in a2 0 5).bind fun r77 => bo_ r77 (some r77)
    else if a1 = 12 then if (1 : Int32) = 0 then some 0
      else (f_R_in a3 0 3).bind fun r78 => if r78 = 0 then some 0
      else some 1
    else if a1 = 13 then (f_R_in a2 0 3).bind fun r79 => bo_ r79 (some r79)
    else (f_R_in a1 0 13).bind fun r80 => if r80 = 0 then some 0
    else if (1 : Int32) = 0 then some 0
    else some 1
  else (f_R_isNode σ a3).bind fun r81 => if r81 = 0 then if a1 = 1 then (f_R_in a2 0 255).bind fun r82 => bo_ r82 (some r82)
    else if a1 = 2 then (f_R_in a2 0 255).bind fun r83 => if r83 = 0 then some 0
      else (f_R_in a3 a2 255).bind fun r84 => if r84 = 0 then some 0
      else some 1
    else if a1 = 3 then (f_R_in a1 0 13).bind fun r85 => if r85 = 0 then some 0
      else if (0 : Int32) = 0 then some 0
      else some 1
    else if a1 = 4 then if (0 : Int32) = 0 then some 0
      else (f_R_in a4 0 7).bind fun r86 => if r86 = 0 then some 0
      else some 1
    else if a1 = 5 then (f_R_in a1 0 13).bind fun r87 => if r87 = 0 then some 0
      else if (0 : Int32) = 0 then some 0
      else some 1
    else if a1 = 6 then (f_R_in a1 0 13).bind fun r88 => if r88 = 0 then some 0
      else if (0 : Int32) = 0 then some 0
      else some 1
    else if a1 = 7 then (f_R_in a1 0 13).bind fun r89 => if r89 = 0 then some 0
      else if (0 : Int32) = 0 then some 0
      else some 1
    else if a1 = 8 then (f_R_in a1 0 13).bind fun r90 => if r90 = 0 then some 0
      else if (0 : Int32) = 0 then some 0
      else some 1
    else if a1 = 9 then if (0 : Int32) = 0 then some 0
      else (f_R_in a3 0 7).bind fun r91 => if r91 = 0 then some 0
      else some 1
    else if a1 = 10 then (f_R_in a1 0 13).bind fun r92 => if r92 = 0 then some 0
      else if (0 : Int32) = 0 then some 0
      else some 1
    else if a1 = 11 then (f_R_in a2 0 5).bind fun r93 => bo_ r93 (some r93)
    else if a1 = 12 then if (0 : Int32) = 0 then some 0
      else (f_R_in a3 0 3).bind fun r94 => if r94 = 0 then some 0
      else some 1
    else if a1 = 13 then (f_R_in a2 0 3).bind fun r95 => bo_ r95 (some r95)
    else (f_R_in a1 0 13).bind fun r96 => if r96 = 0 then some 0
    else if (0 : Int32) = 0 then some 0
    else some 1
  else if a1 = 1 then (f_R_in a2 0 255).bind fun r97 => bo_ r97 (some r97)
  else if a1 = 2 then (f_R_in a2 0 255).bind fun r98 => if r98 = 0 then some 0
    else (f_R_in a3 a2 255).bind fun r99 => if r99 = 0 then some 0
    else some 1
  else if a1 = 3 then (f_R_in a1 0 13).bind fun r100 => if r100 = 0 then some 0
    else if (1 : Int32) = 0 then some 0
    else some 1
  else if a1 = 4 then if (1 : Int32) = 0 then some 0
    else (f_R_in a4 0 7).bind fun r101 => if r101 = 0 then some 0
    else some 1
  else if a1 = 5 then (f_R_in a1 0 13).bind fun r102 => if r102 = 0 then some 0
    else if (1 : Int32) = 0 then some 0
    else some 1
  else if a1 = 6 then (f_R_in a1 0 13).bind fun r103 => if r103 = 0 then some 0
    else if (1 : Int32) = 0 then some 0
    else some 1
  else if a1 = 7 then (f_R_in a1 0 13).bind fun r104 => if r104 = 0 then some 0
    else if (1 : Int32) = 0 then some 0
    else some 1
  else if a1 = 8 then (f_R_in a1 0 13).bind fun r105 => if r105 = 0 then some 0
    else if (1 : Int32) = 0 then some 0
    else some 1
  else if a1 = 9 then if (1 : Int32) = 0 then some 0
    else (f_R_in a3 0 7).bind fun r106 => if r106 = 0 then some 0
    else some 1
  else if a1 = 10 then (f_R_in a1 0 13).bind fun r107 => if r107 = 0 then some 0
    else if (1 : Int32) = 0 then some 0
    else some 1
  else if a1 = 11 then (f_R_in a2 0 5).bind fun r108 => bo_ r108 (some r108)
  else if a1 = 12 then if (1 : Int32) = 0 then some 0
    else (f_R_in a3 0 3).bind fun r109 => if r109 = 0 then some 0
    else some 1
  else if a1 = 13 then (f_R_in a2 0 3).bind fun r110 => bo_ r110 (some r110)
  else (f_R_in a1 0 13).bind fun r111 => if r111 = 0 then some 0
  else if (1 : Int32) = 0 then some 0
  else some 1
set_option maxHeartbeats 4000000 in
set_option maxRecDepth 100000 in
theorem c_R_fits (l : Launch) (dC : Nat → ClassId) (dI : Nat → Nat → Nat) (q : Nat → Nat) (cA : Nat → ClassId) (σ : MZ_) (a1 : Int32) (a2 : Int32) (a3 : Int32) (a4 : Int32) (u : Int32) (h : f_R_fits σ a1 a2 a3 a4 = some u) : Met l y_R_fits w_R_fits rm_R_fits (va_Pc [.ref (q 0), .int a1, .int a2, .int a3, .int a4] (PRx_ dC dI q cA σ)) (QcRead u) 0 0 (fun _ => False) := by
  refine Met.ofW (cc := prog_9_method_8_code) (maxL := 6) (ret := (some .boolean)) (by decide) rfl ?_
  intro p e s m args below meth c s₁ B hml hv
  obtain ⟨rfl, hP, hK, hD, hN, hZ⟩ := hv
  have hx := B.exec
  have hb := B.bytes
  have hr := B.returns
  have hts : ∀ w ∈ AW_, w.before _ s = true := fun w h => atoms_spec (ws := w_R_fits) B.pre w (List.mem_cons_of_mem _ h)
  have hown : s.vm.findClass "StagedParsersModel" = some m.cls := findClass_of_methodNamed B.named
  have hlocks := B.notSynchronized
  have hS : va_S (AR q) s.heap s.heap [] := va_S.rf
  have hl := lv_entry ([.ref (q 0), .int a1, .int a2, .int a3, .int a4]) (n := 6) (Nat.le_of_ble_eq_true rfl)
  rw [lg_entry_eq]
  generalize (lg_sl ([.ref (q 0), .int a1, .int a2, .int a3, .int a4]) ++ List.replicate (6 - (lg_sl ([.ref (q 0), .int a1, .int a2, .int a3, .int a4])).length) Slot.unset).toArray = ls at hl ⊢
  have hl : lv_has ls 6 [(0, .ref (q 0)), (1, .int a1), (2, .int a2), (3, .int a3), (4, .int a4)] := hl
  rw [f_R_fits] at h
  refine lv_iload_n hx hb d_R_fits_0 rfl (lv_at hl 1 rfl) ?_
  obtain ⟨r1, hcl, h⟩ := bd_some h
  refine cx_read (va_runS (As := [.int a1]) (rest := []) ⟨hx, hb, hml, hown, hts⟩ (c_R_hasFirst l dC dI q cA σ a1 _ hcl) (cw_R_76 hts ⟨Nat.le_of_ble_eq_true rfl, Nat.le_of_ble_eq_true rfl⟩) ⟨pxR_B, pxR_U hP hK hD hN hZ hS⟩ rfl rfl hl.1 rfl (lv_room (Nat.le_of_ble_eq_true rfl)) d_R_fits_1 ⟨Nat.zero_le _, Nat.zero_le _⟩) ?_
  refine lv_if_eq (tgt := 15) hx hb d_R_fits_4 rfl (fun hc => ?_) (fun hc => ?_)
  · have h := if_t hc h
    refine lv_iload_n hx hb d_R_fits_15 rfl (lv_at hl 1 rfl) ?_
    obtain ⟨r2, hcl, h⟩ := bd_some h
    refine cx_read (va_runS (As := [.int a1]) (rest := []) ⟨hx, hb, hml, hown, hts⟩ (c_R_hasSecond l dC dI q cA σ a1 _ hcl) (cw_R_83 hts ⟨Nat.le_of_ble_eq_true rfl, Nat.le_of_ble_eq_true rfl⟩) ⟨pxR_B, pxR_U hP hK hD hN hZ hS⟩ rfl rfl hl.1 rfl (lv_room (Nat.le_of_ble_eq_true rfl)) d_R_fits_16 ⟨Nat.zero_le _, Nat.zero_le _⟩) ?_
    refine lv_if_eq (tgt := 30) hx hb d_R_fits_19 rfl (fun hc => ?_) (fun hc => ?_)
    · have h := if_t hc h
      refine lv_iconst (v := 1) hx hb d_R_fits_30 (by decide) ?_
      refine lv_goto (tgt := 35) hx hb d_R_fits_31 rfl ?_
      refine lv_istore hx hb d_R_fits_35 hl (by decide) rfl (fun ls hl => ?_)
      have hl : lv_has ls 6 [(5, .int 1), (0, .ref (q 0)), (1, .int a1), (2, .int a2), (3, .int a3), (4, .int a4)] := hl
      refine lv_iload_n hx hb d_R_fits_37 rfl (lv_at hl 2 rfl) ?_
      by_cases hc0 : a1 = 1
      · have h := if_t hc0 h
        refine sw_in (tgt := 104) hx hb d_R_fits_38 hc0 (by decide) (by decide) rfl rfl ?_
        refine lv_iload_n hx hb d_R_fits_104 rfl (lv_at hl 3 rfl) ?_
        refine lv_iconst (v := 0) hx hb d_R_fits_105 (by decide) ?_
        refine lv_sipush (v := 255) hx hb d_R_fits_106 (by decide) ?_
        obtain ⟨r3, hcl, h⟩ := bd_some h
        refine cx_read (va_runS (As := [.int a2, .int 0, .int 255]) (rest := []) ⟨hx, hb, hml, hown, hts⟩ (c_R_in l dC dI q cA σ a2 0 255 _ hcl) (cw_R_72 hts ⟨Nat.le_of_ble_eq_true rfl, Nat.le_of_ble_eq_true rfl⟩) ⟨pxR_B, pxR_U hP hK hD hN hZ hS⟩ rfl rfl hl.1 rfl (lv_room (Nat.le_of_ble_eq_true rfl)) d_R_fits_109 ⟨Nat.zero_le _, Nat.zero_le _⟩) ?_
        obtain ⟨hbo, h⟩ := bo_some h
        obtain rfl := Option.some.inj h
        exact W.zret hx hb hr (bo_nar hbo) (fun t ht hW => ⟨rfl, ht⟩) (fun _ h9 => nomatch h9) d_R_fits_112
      have h := if_f hc0 h
      by_cases hc1 : a1 = 2
      · have h := if_t hc1 h
        refine sw_in (tgt := 113) hx hb d_R_fits_38 hc1 (by decide) (by decide) rfl rfl ?_
        refine lv_iload_n hx hb d_R_fits_113 rfl (lv_at hl 3 rfl) ?_
        refine lv_iconst (v := 0) hx hb d_R_fits_114 (by decide) ?_
        refine lv_sipush (v := 255) hx hb d_R_fits_115 (by decide) ?_
        obtain ⟨r4, hcl, h⟩ := bd_some h
        refine cx_read (va_runS (As := [.int a2, .int 0, .int 255]) (rest := []) ⟨hx, hb, hml, hown, hts⟩ (c_R_in l dC dI q cA σ a2 0 255 _ hcl) (cw_R_72 hts ⟨Nat.le_of_ble_eq_true rfl, Nat.le_of_ble_eq_true rfl⟩) ⟨pxR_B, pxR_U hP hK hD hN hZ hS⟩ rfl rfl hl.1 rfl (lv_room (Nat.le_of_ble_eq_true rfl)) d_R_fits_118 ⟨Nat.zero_le _, Nat.zero_le _⟩) ?_
        refine lv_if_eq (tgt := 139) hx hb d_R_fits_121 rfl (fun hc => ?_) (fun hc => ?_)
        · have h := if_t hc h
          refine lv_iconst (v := 0) hx hb d_R_fits_139 (by decide) ?_
          obtain rfl := Option.some.inj h
          exact W.zret hx hb hr rfl (fun t ht hW => ⟨rfl, ht⟩) (fun _ h9 => nomatch h9) d_R_fits_140
        · have h := if_f hc h
          refine lv_iload_n hx hb d_R_fits_124 rfl (lv_at hl 4 rfl) ?_
          refine lv_iload_n hx hb d_R_fits_125 rfl (lv_at hl 3 rfl) ?_
          refine lv_sipush (v := 255) hx hb d_R_fits_126 (by decide) ?_
          obtain ⟨r5, hcl, h⟩ := bd_some h
          refine cx_read (va_runS (As := [.int a3, .int a2, .int 255]) (rest := []) ⟨hx, hb, hml, hown, hts⟩ (c_R_in l dC dI q cA σ a3 a2 255 _ hcl) (cw_R_72 hts ⟨Nat.le_of_ble_eq_true rfl, Nat.le_of_ble_eq_true rfl⟩) ⟨pxR_B, pxR_U hP hK hD hN hZ hS⟩ rfl rfl hl.1 rfl (lv_room (Nat.le_of_ble_eq_true rfl)) d_R_fits_129 ⟨Nat.zero_le _, Nat.zero_le _⟩) ?_
          refine lv_if_eq (tgt := 139) hx hb d_R_fits_132 rfl (fun hc => ?_) (fun hc => ?_)
          · have h := if_t hc h
            refine lv_iconst (v := 0) hx hb d_R_fits_139 (by decide) ?_
            obtain rfl := Option.some.inj h
            exact W.zret hx hb hr rfl (fun t ht hW => ⟨rfl, ht⟩) (fun _ h9 => nomatch h9) d_R_fits_140
          · have h := if_f hc h
            refine lv_iconst (v := 1) hx hb d_R_fits_135 (by decide) ?_
            refine lv_goto (tgt := 140) hx hb d_R_fits_136 rfl ?_
            obtain rfl := Option.some.inj h
            exact W.zret hx hb hr rfl (fun t ht hW => ⟨rfl, ht⟩) (fun _ h9 => nomatch h9) d_R_fits_140
      have h := if_f hc1 h
      by_cases hc2 : a1 = 3
      · have h := if_t hc2 h
        refine sw_in (tgt := 218) hx hb d_R_fits_38 hc2 (by decide) (by decide) rfl rfl ?_
        refine lv_iload_n hx hb d_R_fits_218 rfl (lv_at hl 2 rfl) ?_
        refine lv_iconst (v := 0) hx hb d_R_fits_219 (by decide) ?_
        refine lv_bipush (v := 13) hx hb d_R_fits_220 (by decide) ?_
        obtain ⟨r6, hcl, h⟩ := bd_some h
        refine cx_read (va_runS (As := [.int a1, .int 0, .int 13]) (rest := []) ⟨hx, hb, hml, hown, hts⟩ (c_R_in l dC dI q cA σ a1 0 13 _ hcl) (cw_R_72 hts ⟨Nat.le_of_ble_eq_true rfl, Nat.le_of_ble_eq_true rfl⟩) ⟨pxR_B, pxR_U hP hK hD hN hZ hS⟩ rfl rfl hl.1 rfl (lv_room (Nat.le_of_ble_eq_true rfl)) d_R_fits_222 ⟨Nat.zero_le _, Nat.zero_le _⟩) ?_
        refine lv_if_eq (tgt := 237) hx hb d_R_fits_225 rfl (fun hc => ?_) (fun hc => ?_)
        · have h := if_t hc h
          refine lv_iconst (v := 0) hx hb d_R_fits_237 (by decide) ?_
          obtain rfl := Option.some.inj h
          exact W.zret hx hb hr rfl (fun t ht hW => ⟨rfl, ht⟩) (fun _ h9 => nomatch h9) d_R_fits_238
        · have h := if_f hc h
          refine lv_iload hx hb d_R_fits_228 (lv_at hl 0 rfl) ?_
          refine lv_if_eq (tgt := 237) hx hb d_R_fits_230 rfl (fun hc => ?_) (fun hc => ?_)
          · have h := if_t hc h
            refine lv_iconst (v := 0) hx hb d_R_fits_237 (by decide) ?_
            obtain rfl := Option.some.inj h
            exact W.zret hx hb hr rfl (fun t ht hW => ⟨rfl, ht⟩) (fun _ h9 => nomatch h9) d_R_fits_238
          · have h := if_f hc h
            refine lv_iconst (v := 1) hx hb d_R_fits_233 (by decide) ?_
            refine lv_goto (tgt := 238) hx hb d_R_fits_234 rfl ?_
            obtain rfl := Option.some.inj h
            exact W.zret hx hb hr rfl (fun t ht hW => ⟨rfl, ht⟩) (fun _ h9 => nomatch h9) d_R_fits_238
      have h := if_f hc2 h
      by_cases hc3 : a1 = 4
      · have h := if_t hc3 h
        refine sw_in (tgt := 141) hx hb d_R_fits_38 hc3 (by decide) (by decide) rfl rfl ?_
        refine lv_iload hx hb d_R_fits_141 (lv_at hl 0 rfl) ?_
        refine lv_if_eq (tgt := 161) hx hb d_R_fits_143 rfl (fun hc => ?_) (fun hc => ?_)
        · have h := if_t hc h
          refine lv_iconst (v := 0) hx hb d_R_fits_161 (by decide) ?_
          obtain rfl := Option.some.inj h
          exact W.zret hx hb hr rfl (fun t ht hW => ⟨rfl, ht⟩) (fun _ h9 => nomatch h9) d_R_fits_162
        · have h := if_f hc h
          refine lv_iload hx hb d_R_fits_146 (lv_at hl 5 rfl) ?_
          refine lv_iconst (v := 0) hx hb d_R_fits_148 (by decide) ?_
          refine lv_bipush (v := 7) hx hb d_R_fits_149 (by decide) ?_
          obtain ⟨r7, hcl, h⟩ := bd_some h
          refine cx_read (va_runS (As := [.int a4, .int 0, .int 7]) (rest := []) ⟨hx, hb, hml, hown, hts⟩ (c_R_in l dC dI q cA σ a4 0 7 _ hcl) (cw_R_72 hts ⟨Nat.le_of_ble_eq_true rfl, Nat.le_of_ble_eq_true rfl⟩) ⟨pxR_B, pxR_U hP hK hD hN hZ hS⟩ rfl rfl hl.1 rfl (lv_room (Nat.le_of_ble_eq_true rfl)) d_R_fits_151 ⟨Nat.zero_le _, Nat.zero_le _⟩) ?_
          refine lv_if_eq (tgt := 161) hx hb d_R_fits_154 rfl (fun hc => ?_) (fun hc => ?_)
          · have h := if_t hc h
            refine lv_iconst (v := 0) hx hb d_R_fits_161 (by decide) ?_
            obtain rfl := Option.some.inj h
            exact W.zret hx hb hr rfl (fun t ht hW => ⟨rfl, ht⟩) (fun _ h9 => nomatch h9) d_R_fits_162
          · have h := if_f hc h
            refine lv_iconst (v := 1) hx hb d_R_fits_157 (by decide) ?_
            refine lv_goto (tgt := 162) hx hb d_R_fits_158 rfl ?_
            obtain rfl := Option.some.inj h
            exact W.zret hx hb hr rfl (fun t ht hW => ⟨rfl, ht⟩) (fun _ h9 => nomatch h9) d_R_fits_162
      have h := if_f hc3 h
      by_cases hc4 : a1 = 5
      · have h := if_t hc4 h
        refine sw_in (tgt := 218) hx hb d_R_fits_38 hc4 (by decide) (by decide) rfl rfl ?_
        refine lv_iload_n hx hb d_R_fits_218 rfl (lv_at hl 2 rfl) ?_
        refine lv_iconst (v := 0) hx hb d_R_fits_219 (by decide) ?_
        refine lv_bipush (v := 13) hx hb d_R_fits_220 (by decide) ?_
        obtain ⟨r8, hcl, h⟩ := bd_some h
        refine cx_read (va_runS (As := [.int a1, .int 0, .int 13]) (rest := []) ⟨hx, hb, hml, hown, hts⟩ (c_R_in l dC dI q cA σ a1 0 13 _ hcl) (cw_R_72 hts ⟨Nat.le_of_ble_eq_true rfl, Nat.le_of_ble_eq_true rfl⟩) ⟨pxR_B, pxR_U hP hK hD hN hZ hS⟩ rfl rfl hl.1 rfl (lv_room (Nat.le_of_ble_eq_true rfl)) d_R_fits_222 ⟨Nat.zero_le _, Nat.zero_le _⟩) ?_
        refine lv_if_eq (tgt := 237) hx hb d_R_fits_225 rfl (fun hc => ?_) (fun hc => ?_)
        · have h := if_t hc h
          refine lv_iconst (v := 0) hx hb d_R_fits_237 (by decide) ?_
          obtain rfl := Option.some.inj h
          exact W.zret hx hb hr rfl (fun t ht hW => ⟨rfl, ht⟩) (fun _ h9 => nomatch h9) d_R_fits_238
        · have h := if_f hc h
          refine lv_iload hx hb d_R_fits_228 (lv_at hl 0 rfl) ?_
          refine lv_if_eq (tgt := 237) hx hb d_R_fits_230 rfl (fun hc => ?_) (fun hc => ?_)
          · have h := if_t hc h
            refine lv_iconst (v := 0) hx hb d_R_fits_237 (by decide) ?_
            obtain rfl := Option.some.inj h
            exact W.zret hx hb hr rfl (fun t ht hW => ⟨rfl, ht⟩) (fun _ h9 => nomatch h9) d_R_fits_238
          · have h := if_f hc h
            refine lv_iconst (v := 1) hx hb d_R_fits_233 (by decide) ?_
            refine lv_goto (tgt := 238) hx hb d_R_fits_234 rfl ?_
            obtain rfl := Option.some.inj h
            exact W.zret hx hb hr rfl (fun t ht hW => ⟨rfl, ht⟩) (fun _ h9 => nomatch h9) d_R_fits_238
      have h := if_f hc4 h
      by_cases hc5 : a1 = 6
      · have h := if_t hc5 h
        refine sw_in (tgt := 218) hx hb d_R_fits_38 hc5 (by decide) (by decide) rfl rfl ?_
        refine lv_iload_n hx hb d_R_fits_218 rfl (lv_at hl 2 rfl) ?_
        refine lv_iconst (v := 0) hx hb d_R_fits_219 (by decide) ?_
        refine lv_bipush (v := 13) hx hb d_R_fits_220 (by decide) ?_
        obtain ⟨r9, hcl, h⟩ := bd_some h
        refine cx_read (va_runS (As := [.int a1, .int 0, .int 13]) (rest := []) ⟨hx, hb, hml, hown, hts⟩ (c_R_in l dC dI q cA σ a1 0 13 _ hcl) (cw_R_72 hts ⟨Nat.le_of_ble_eq_true rfl, Nat.le_of_ble_eq_true rfl⟩) ⟨pxR_B, pxR_U hP hK hD hN hZ hS⟩ rfl rfl hl.1 rfl (lv_room (Nat.le_of_ble_eq_true rfl)) d_R_fits_222 ⟨Nat.zero_le _, Nat.zero_le _⟩) ?_
        refine lv_if_eq (tgt := 237) hx hb d_R_fits_225 rfl (fun hc => ?_) (fun hc => ?_)
        · have h := if_t hc h
          refine lv_iconst (v := 0) hx hb d_R_fits_237 (by decide) ?_
          obtain rfl := Option.some.inj h
          exact W.zret hx hb hr rfl (fun t ht hW => ⟨rfl, ht⟩) (fun _ h9 => nomatch h9) d_R_fits_238
        · have h := if_f hc h
          refine lv_iload hx hb d_R_fits_228 (lv_at hl 0 rfl) ?_
          refine lv_if_eq (tgt := 237) hx hb d_R_fits_230 rfl (fun hc => ?_) (fun hc => ?_)
          · have h := if_t hc h
            refine lv_iconst (v := 0) hx hb d_R_fits_237 (by decide) ?_
            obtain rfl := Option.some.inj h
            exact W.zret hx hb hr rfl (fun t ht hW => ⟨rfl, ht⟩) (fun _ h9 => nomatch h9) d_R_fits_238
          · have h := if_f hc h
            refine lv_iconst (v := 1) hx hb d_R_fits_233 (by decide) ?_
            refine lv_goto (tgt := 238) hx hb d_R_fits_234 rfl ?_
            obtain rfl := Option.some.inj h
            exact W.zret hx hb hr rfl (fun t ht hW => ⟨rfl, ht⟩) (fun _ h9 => nomatch h9) d_R_fits_238
      have h := if_f hc5 h
      by_cases hc6 : a1 = 7
      · have h := if_t hc6 h
        refine sw_in (tgt := 218) hx hb d_R_fits_38 hc6 (by decide) (by decide) rfl rfl ?_
        refine lv_iload_n hx hb d_R_fits_218 rfl (lv_at hl 2 rfl) ?_
        refine lv_iconst (v := 0) hx hb d_R_fits_219 (by decide) ?_
        refine lv_bipush (v := 13) hx hb d_R_fits_220 (by decide) ?_
        obtain ⟨r10, hcl, h⟩ := bd_some h
        refine cx_read (va_runS (As := [.int a1, .int 0, .int 13]) (rest := []) ⟨hx, hb, hml, hown, hts⟩ (c_R_in l dC dI q cA σ a1 0 13 _ hcl) (cw_R_72 hts ⟨Nat.le_of_ble_eq_true rfl, Nat.le_of_ble_eq_true rfl⟩) ⟨pxR_B, pxR_U hP hK hD hN hZ hS⟩ rfl rfl hl.1 rfl (lv_room (Nat.le_of_ble_eq_true rfl)) d_R_fits_222 ⟨Nat.zero_le _, Nat.zero_le _⟩) ?_
        refine lv_if_eq (tgt := 237) hx hb d_R_fits_225 rfl (fun hc => ?_) (fun hc => ?_)
        · have h := if_t hc h
          refine lv_iconst (v := 0) hx hb d_R_fits_237 (by decide) ?_
          obtain rfl := Option.some.inj h
          exact W.zret hx hb hr rfl (fun t ht hW => ⟨rfl, ht⟩) (fun _ h9 => nomatch h9) d_R_fits_238
        · have h := if_f hc h
          refine lv_iload hx hb d_R_fits_228 (lv_at hl 0 rfl) ?_
          refine lv_if_eq (tgt := 237) hx hb d_R_fits_230 rfl (fun hc => ?_) (fun hc => ?_)
          · have h := if_t hc h
            refine lv_iconst (v := 0) hx hb d_R_fits_237 (by decide) ?_
            obtain rfl := Option.some.inj h
            exact W.zret hx hb hr rfl (fun t ht hW => ⟨rfl, ht⟩) (fun _ h9 => nomatch h9) d_R_fits_238
          · have h := if_f hc h
            refine lv_iconst (v := 1) hx hb d_R_fits_233 (by decide) ?_
            refine lv_goto (tgt := 238) hx hb d_R_fits_234 rfl ?_
            obtain rfl := Option.some.inj h
            exact W.zret hx hb hr rfl (fun t ht hW => ⟨rfl, ht⟩) (fun _ h9 => nomatch h9) d_R_fits_238
      have h := if_f hc6 h
      by_cases hc7 : a1 = 8
      · have h := if_t hc7 h
        refine sw_in (tgt := 218) hx hb d_R_fits_38 hc7 (by decide) (by decide) rfl rfl ?_
        refine lv_iload_n hx hb d_R_fits_218 rfl (lv_at hl 2 rfl) ?_
        refine lv_iconst (v := 0) hx hb d_R_fits_219 (by decide) ?_
        refine lv_bipush (v := 13) hx hb d_R_fits_220 (by decide) ?_
        obtain ⟨r11, hcl, h⟩ := bd_some h
        refine cx_read (va_runS (As := [.int a1, .int 0, .int 13]) (rest := []) ⟨hx, hb, hml, hown, hts⟩ (c_R_in l dC dI q cA σ a1 0 13 _ hcl) (cw_R_72 hts ⟨Nat.le_of_ble_eq_true rfl, Nat.le_of_ble_eq_true rfl⟩) ⟨pxR_B, pxR_U hP hK hD hN hZ hS⟩ rfl rfl hl.1 rfl (lv_room (Nat.le_of_ble_eq_true rfl)) d_R_fits_222 ⟨Nat.zero_le _, Nat.zero_le _⟩) ?_
        refine lv_if_eq (tgt := 237) hx hb d_R_fits_225 rfl (fun hc => ?_) (fun hc => ?_)
        · have h := if_t hc h
          refine lv_iconst (v := 0) hx hb d_R_fits_237 (by decide) ?_
          obtain rfl := Option.some.inj h
          exact W.zret hx hb hr rfl (fun t ht hW => ⟨rfl, ht⟩) (fun _ h9 => nomatch h9) d_R_fits_238
        · have h := if_f hc h
          refine lv_iload hx hb d_R_fits_228 (lv_at hl 0 rfl) ?_
          refine lv_if_eq (tgt := 237) hx hb d_R_fits_230 rfl (fun hc => ?_) (fun hc => ?_)
          · have h := if_t hc h
            refine lv_iconst (v := 0) hx hb d_R_fits_237 (by decide) ?_
            obtain rfl := Option.some.inj h
            exact W.zret hx hb hr rfl (fun t ht hW => ⟨rfl, ht⟩) (fun _ h9 => nomatch h9) d_R_fits_238
          · have h := if_f hc h
            refine lv_iconst (v := 1) hx hb d_R_fits_233 (by decide) ?_
            refine lv_goto (tgt := 238) hx hb d_R_fits_234 rfl ?_
            obtain rfl := Option.some.inj h
            exact W.zret hx hb hr rfl (fun t ht hW => ⟨rfl, ht⟩) (fun _ h9 => nomatch h9) d_R_fits_238
      have h := if_f hc7 h
      by_cases hc8 : a1 = 9
      · have h := if_t hc8 h
        refine sw_in (tgt := 163) hx hb d_R_fits_38 hc8 (by decide) (by decide) rfl rfl ?_
        refine lv_iload hx hb d_R_fits_163 (lv_at hl 0 rfl) ?_
        refine lv_if_eq (tgt := 182) hx hb d_R_fits_165 rfl (fun hc => ?_) (fun hc => ?_)
        · have h := if_t hc h
          refine lv_iconst (v := 0) hx hb d_R_fits_182 (by decide) ?_
          obtain rfl := Option.some.inj h
          exact W.zret hx hb hr rfl (fun t ht hW => ⟨rfl, ht⟩) (fun _ h9 => nomatch h9) d_R_fits_183
        · have h := if_f hc h
          refine lv_iload_n hx hb d_R_fits_168 rfl (lv_at hl 4 rfl) ?_
          refine lv_iconst (v := 0) hx hb d_R_fits_169 (by decide) ?_
          refine lv_bipush (v := 7) hx hb d_R_fits_170 (by decide) ?_
          obtain ⟨r12, hcl, h⟩ := bd_some h
          refine cx_read (va_runS (As := [.int a3, .int 0, .int 7]) (rest := []) ⟨hx, hb, hml, hown, hts⟩ (c_R_in l dC dI q cA σ a3 0 7 _ hcl) (cw_R_72 hts ⟨Nat.le_of_ble_eq_true rfl, Nat.le_of_ble_eq_true rfl⟩) ⟨pxR_B, pxR_U hP hK hD hN hZ hS⟩ rfl rfl hl.1 rfl (lv_room (Nat.le_of_ble_eq_true rfl)) d_R_fits_172 ⟨Nat.zero_le _, Nat.zero_le _⟩) ?_
          refine lv_if_eq (tgt := 182) hx hb d_R_fits_175 rfl (fun hc => ?_) (fun hc => ?_)
          · have h := if_t hc h
            refine lv_iconst (v := 0) hx hb d_R_fits_182 (by decide) ?_
            obtain rfl := Option.some.inj h
            exact W.zret hx hb hr rfl (fun t ht hW => ⟨rfl, ht⟩) (fun _ h9 => nomatch h9) d_R_fits_183
          · have h := if_f hc h
            refine lv_iconst (v := 1) hx hb d_R_fits_178 (by decide) ?_
            refine lv_goto (tgt := 183) hx hb d_R_fits_179 rfl ?_
            obtain rfl := Option.some.inj h
            exact W.zret hx hb hr rfl (fun t ht hW => ⟨rfl, ht⟩) (fun _ h9 => nomatch h9) d_R_fits_183
      have h := if_f hc8 h
      by_cases hc9 : a1 = 10
      · have h := if_t hc9 h
        refine sw_in (tgt := 218) hx hb d_R_fits_38 hc9 (by decide) (by decide) rfl rfl ?_
        refine lv_iload_n hx hb d_R_fits_218 rfl (lv_at hl 2 rfl) ?_
        refine lv_iconst (v := 0) hx hb d_R_fits_219 (by decide) ?_
        refine lv_bipush (v := 13) hx hb d_R_fits_220 (by decide) ?_
        obtain ⟨r13, hcl, h⟩ := bd_some h
        refine cx_read (va_runS (As := [.int a1, .int 0, .int 13]) (rest := []) ⟨hx, hb, hml, hown, hts⟩ (c_R_in l dC dI q cA σ a1 0 13 _ hcl) (cw_R_72 hts ⟨Nat.le_of_ble_eq_true rfl, Nat.le_of_ble_eq_true rfl⟩) ⟨pxR_B, pxR_U hP hK hD hN hZ hS⟩ rfl rfl hl.1 rfl (lv_room (Nat.le_of_ble_eq_true rfl)) d_R_fits_222 ⟨Nat.zero_le _, Nat.zero_le _⟩) ?_
        refine lv_if_eq (tgt := 237) hx hb d_R_fits_225 rfl (fun hc => ?_) (fun hc => ?_)
        · have h := if_t hc h
          refine lv_iconst (v := 0) hx hb d_R_fits_237 (by decide) ?_
          obtain rfl := Option.some.inj h
          exact W.zret hx hb hr rfl (fun t ht hW => ⟨rfl, ht⟩) (fun _ h9 => nomatch h9) d_R_fits_238
        · have h := if_f hc h
          refine lv_iload hx hb d_R_fits_228 (lv_at hl 0 rfl) ?_
          refine lv_if_eq (tgt := 237) hx hb d_R_fits_230 rfl (fun hc => ?_) (fun hc => ?_)
          · have h := if_t hc h
            refine lv_iconst (v := 0) hx hb d_R_fits_237 (by decide) ?_
            obtain rfl := Option.some.inj h
            exact W.zret hx hb hr rfl (fun t ht hW => ⟨rfl, ht⟩) (fun _ h9 => nomatch h9) d_R_fits_238
          · have h := if_f hc h
            refine lv_iconst (v := 1) hx hb d_R_fits_233 (by decide) ?_
            refine lv_goto (tgt := 238) hx hb d_R_fits_234 rfl ?_
            obtain rfl := Option.some.inj h
            exact W.zret hx hb hr rfl (fun t ht hW => ⟨rfl, ht⟩) (fun _ h9 => nomatch h9) d_R_fits_238
      have h := if_f hc9 h
      by_cases hc10 : a1 = 11
      · have h := if_t hc10 h
        refine sw_in (tgt := 184) hx hb d_R_fits_38 hc10 (by decide) (by decide) rfl rfl ?_
        refine lv_iload_n hx hb d_R_fits_184 rfl (lv_at hl 3 rfl) ?_
        refine lv_iconst (v := 0) hx hb d_R_fits_185 (by decide) ?_
        refine lv_iconst (v := 5) hx hb d_R_fits_186 (by decide) ?_
        obtain ⟨r14, hcl, h⟩ := bd_some h
        refine cx_read (va_runS (As := [.int a2, .int 0, .int 5]) (rest := []) ⟨hx, hb, hml, hown, hts⟩ (c_R_in l dC dI q cA σ a2 0 5 _ hcl) (cw_R_72 hts ⟨Nat.le_of_ble_eq_true rfl, Nat.le_of_ble_eq_true rfl⟩) ⟨pxR_B, pxR_U hP hK hD hN hZ hS⟩ rfl rfl hl.1 rfl (lv_room (Nat.le_of_ble_eq_true rfl)) d_R_fits_187 ⟨Nat.zero_le _, Nat.zero_le _⟩) ?_
        obtain ⟨hbo, h⟩ := bo_some h
        obtain rfl := Option.some.inj h
        exact W.zret hx hb hr (bo_nar hbo) (fun t ht hW => ⟨rfl, ht⟩) (fun _ h9 => nomatch h9) d_R_fits_190
      have h := if_f hc10 h
      by_cases hc11 : a1 = 12
      · have h := if_t hc11 h
        refine sw_in (tgt := 191) hx hb d_R_fits_38 hc11 (by decide) (by decide) rfl rfl ?_
        refine lv_iload hx hb d_R_fits_191 (lv_at hl 0 rfl) ?_
        refine lv_if_eq (tgt := 209) hx hb d_R_fits_193 rfl (fun hc => ?_) (fun hc => ?_)
        · have h := if_t hc h
          refine lv_iconst (v := 0) hx hb d_R_fits_209 (by decide) ?_
          obtain rfl := Option.some.inj h
          exact W.zret hx hb hr rfl (fun t ht hW => ⟨rfl, ht⟩) (fun _ h9 => nomatch h9) d_R_fits_210
        · have h := if_f hc h
          refine lv_iload_n hx hb d_R_fits_196 rfl (lv_at hl 4 rfl) ?_
          refine lv_iconst (v := 0) hx hb d_R_fits_197 (by decide) ?_
          refine lv_iconst (v := 3) hx hb d_R_fits_198 (by decide) ?_
          obtain ⟨r15, hcl, h⟩ := bd_some h
          refine cx_read (va_runS (As := [.int a3, .int 0, .int 3]) (rest := []) ⟨hx, hb, hml, hown, hts⟩ (c_R_in l dC dI q cA σ a3 0 3 _ hcl) (cw_R_72 hts ⟨Nat.le_of_ble_eq_true rfl, Nat.le_of_ble_eq_true rfl⟩) ⟨pxR_B, pxR_U hP hK hD hN hZ hS⟩ rfl rfl hl.1 rfl (lv_room (Nat.le_of_ble_eq_true rfl)) d_R_fits_199 ⟨Nat.zero_le _, Nat.zero_le _⟩) ?_
          refine lv_if_eq (tgt := 209) hx hb d_R_fits_202 rfl (fun hc => ?_) (fun hc => ?_)
          · have h := if_t hc h
            refine lv_iconst (v := 0) hx hb d_R_fits_209 (by decide) ?_
            obtain rfl := Option.some.inj h
            exact W.zret hx hb hr rfl (fun t ht hW => ⟨rfl, ht⟩) (fun _ h9 => nomatch h9) d_R_fits_210
          · have h := if_f hc h
            refine lv_iconst (v := 1) hx hb d_R_fits_205 (by decide) ?_
            refine lv_goto (tgt := 210) hx hb d_R_fits_206 rfl ?_
            obtain rfl := Option.some.inj h
            exact W.zret hx hb hr rfl (fun t ht hW => ⟨rfl, ht⟩) (fun _ h9 => nomatch h9) d_R_fits_210
      have h := if_f hc11 h
      by_cases hc12 : a1 = 13
      · have h := if_t hc12 h
        refine sw_in (tgt := 211) hx hb d_R_fits_38 hc12 (by decide) (by decide) rfl rfl ?_
        refine lv_iload_n hx hb d_R_fits_211 rfl (lv_at hl 3 rfl) ?_
        refine lv_iconst (v := 0) hx hb d_R_fits_212 (by decide) ?_
        refine lv_iconst (v := 3) hx hb d_R_fits_213 (by decide) ?_
        obtain ⟨r16, hcl, h⟩ := bd_some h
        refine cx_read (va_runS (As := [.int a2, .int 0, .int 3]) (rest := []) ⟨hx, hb, hml, hown, hts⟩ (c_R_in l dC dI q cA σ a2 0 3 _ hcl) (cw_R_72 hts ⟨Nat.le_of_ble_eq_true rfl, Nat.le_of_ble_eq_true rfl⟩) ⟨pxR_B, pxR_U hP hK hD hN hZ hS⟩ rfl rfl hl.1 rfl (lv_room (Nat.le_of_ble_eq_true rfl)) d_R_fits_214 ⟨Nat.zero_le _, Nat.zero_le _⟩) ?_
        obtain ⟨hbo, h⟩ := bo_some h
        obtain rfl := Option.some.inj h
        exact W.zret hx hb hr (bo_nar hbo) (fun t ht hW => ⟨rfl, ht⟩) (fun _ h9 => nomatch h9) d_R_fits_217
      have h := if_f hc12 h
      refine lv_tableOut (tgt := 218) hx hb d_R_fits_38 (by have q0 := lv_neT hc0 (a := 1) (by decide); have q1 := lv_neT hc1 (a := 2) (by decide); have q2 := lv_neT hc2 (a := 3) (by decide); have q3 := lv_neT hc3 (a := 4) (by decide); have q4 := lv_neT hc4 (a := 5) (by decide); have q5 := lv_neT hc5 (a := 6) (by decide); have q6 := lv_neT hc6 (a := 7) (by decide); have q7 := lv_neT hc7 (a := 8) (by decide); have q8 := lv_neT hc8 (a := 9) (by decide); have q9 := lv_neT hc9 (a := 10) (by decide); have q10 := lv_neT hc10 (a := 11) (by decide); have q11 := lv_neT hc11 (a := 12) (by decide); have q12 := lv_neT hc12 (a := 13) (by decide); omega) rfl ?_
      refine lv_iload_n hx hb d_R_fits_218 rfl (lv_at hl 2 rfl) ?_
      refine lv_iconst (v := 0) hx hb d_R_fits_219 (by decide) ?_
      refine lv_bipush (v := 13) hx hb d_R_fits_220 (by decide) ?_
      obtain ⟨r17, hcl, h⟩ := bd_some h
      refine cx_read (va_runS (As := [.int a1, .int 0, .int 13]) (rest := []) ⟨hx, hb, hml, hown, hts⟩ (c_R_in l dC dI q cA σ a1 0 13 _ hcl) (cw_R_72 hts ⟨Nat.le_of_ble_eq_true rfl, Nat.le_of_ble_eq_true rfl⟩) ⟨pxR_B, pxR_U hP hK hD hN hZ hS⟩ rfl rfl hl.1 rfl (lv_room (Nat.le_of_ble_eq_true rfl)) d_R_fits_222 ⟨Nat.zero_le _, Nat.zero_le _⟩) ?_
      refine lv_if_eq (tgt := 237) hx hb d_R_fits_225 rfl (fun hc => ?_) (fun hc => ?_)
      · have h := if_t hc h
        refine lv_iconst (v := 0) hx hb d_R_fits_237 (by decide) ?_
        obtain rfl := Option.some.inj h
        exact W.zret hx hb hr rfl (fun t ht hW => ⟨rfl, ht⟩) (fun _ h9 => nomatch h9) d_R_fits_238
      · have h := if_f hc h
        refine lv_iload hx hb d_R_fits_228 (lv_at hl 0 rfl) ?_
        refine lv_if_eq (tgt := 237) hx hb d_R_fits_230 rfl (fun hc => ?_) (fun hc => ?_)
        · have h := if_t hc h
          refine lv_iconst (v := 0) hx hb d_R_fits_237 (by decide) ?_
          obtain rfl := Option.some.inj h
          exact W.zret hx hb hr rfl (fun t ht hW => ⟨rfl, ht⟩) (fun _ h9 => nomatch h9) d_R_fits_238
        · have h := if_f hc h
          refine lv_iconst (v := 1) hx hb d_R_fits_233 (by decide) ?_
          refine lv_goto (tgt := 238) hx hb d_R_fits_234 rfl ?_
          obtain rfl := Option.some.inj h
          exact W.zret hx hb hr rfl (fun t ht hW => ⟨rfl, ht⟩) (fun _ h9 => nomatch h9) d_R_fits_238
    · have h := if_f hc h
      refine lv_aload_n hx hb d_R_fits_22 rfl (lv_at hl 0 rfl) ?_
      refine lv_iload_n hx hb d_R_fits_23 rfl (lv_at hl 3 rfl) ?_
      obtain ⟨r18, hcl, h⟩ := bd_some h
      refine cx_read (va_runV (As := [.int a3]) (rest := []) ⟨hx, hb, hml, hown, hts⟩ (c_R_isNode l dC dI q cA σ a3 _ hcl) (cw_R_80 hts ⟨Nat.le_of_ble_eq_true rfl, Nat.le_of_ble_eq_true rfl⟩) ⟨pxR_B, va_recv hK hP (ci := 7) (q0 := 0) rfl rfl, pxR_U hP hK hD hN hZ hS⟩ rfl rfl hl.1 rfl (lv_room (Nat.le_of_ble_eq_true rfl)) d_R_fits_24 ⟨Nat.zero_le _, Nat.zero_le _⟩) ?_
      refine lv_if_eq (tgt := 34) hx hb d_R_fits_27 rfl (fun hc => ?_) (fun hc => ?_)
      · have h := if_t hc h
        refine lv_iconst (v := 0) hx hb d_R_fits_34 (by decide) ?_
        refine lv_istore hx hb d_R_fits_35 hl (by decide) rfl (fun ls hl => ?_)
        have hl : lv_has ls 6 [(5, .int 0), (0, .ref (q 0)), (1, .int a1), (2, .int a2), (3, .int a3), (4, .int a4)] := hl
        refine lv_iload_n hx hb d_R_fits_37 rfl (lv_at hl 2 rfl) ?_
        by_cases hc0 : a1 = 1
        · have h := if_t hc0 h
          refine sw_in (tgt := 104) hx hb d_R_fits_38 hc0 (by decide) (by decide) rfl rfl ?_
          refine lv_iload_n hx hb d_R_fits_104 rfl (lv_at hl 3 rfl) ?_
          refine lv_iconst (v := 0) hx hb d_R_fits_105 (by decide) ?_
          refine lv_sipush (v := 255) hx hb d_R_fits_106 (by decide) ?_
          obtain ⟨r19, hcl, h⟩ := bd_some h
          refine cx_read (va_runS (As := [.int a2, .int 0, .int 255]) (rest := []) ⟨hx, hb, hml, hown, hts⟩ (c_R_in l dC dI q cA σ a2 0 255 _ hcl) (cw_R_72 hts ⟨Nat.le_of_ble_eq_true rfl, Nat.le_of_ble_eq_true rfl⟩) ⟨pxR_B, pxR_U hP hK hD hN hZ hS⟩ rfl rfl hl.1 rfl (lv_room (Nat.le_of_ble_eq_true rfl)) d_R_fits_109 ⟨Nat.zero_le _, Nat.zero_le _⟩) ?_
          obtain ⟨hbo, h⟩ := bo_some h
          obtain rfl := Option.some.inj h
          exact W.zret hx hb hr (bo_nar hbo) (fun t ht hW => ⟨rfl, ht⟩) (fun _ h9 => nomatch h9) d_R_fits_112
        have h := if_f hc0 h
        by_cases hc1 : a1 = 2
        · have h := if_t hc1 h
          refine sw_in (tgt := 113) hx hb d_R_fits_38 hc1 (by decide) (by decide) rfl rfl ?_
          refine lv_iload_n hx hb d_R_fits_113 rfl (lv_at hl 3 rfl) ?_
          refine lv_iconst (v := 0) hx hb d_R_fits_114 (by decide) ?_
          refine lv_sipush (v := 255) hx hb d_R_fits_115 (by decide) ?_
          obtain ⟨r20, hcl, h⟩ := bd_some h
          refine cx_read (va_runS (As := [.int a2, .int 0, .int 255]) (rest := []) ⟨hx, hb, hml, hown, hts⟩ (c_R_in l dC dI q cA σ a2 0 255 _ hcl) (cw_R_72 hts ⟨Nat.le_of_ble_eq_true rfl, Nat.le_of_ble_eq_true rfl⟩) ⟨pxR_B, pxR_U hP hK hD hN hZ hS⟩ rfl rfl hl.1 rfl (lv_room (Nat.le_of_ble_eq_true rfl)) d_R_fits_118 ⟨Nat.zero_le _, Nat.zero_le _⟩) ?_
          refine lv_if_eq (tgt := 139) hx hb d_R_fits_121 rfl (fun hc => ?_) (fun hc => ?_)
          · have h := if_t hc h
            refine lv_iconst (v := 0) hx hb d_R_fits_139 (by decide) ?_
            obtain rfl := Option.some.inj h
            exact W.zret hx hb hr rfl (fun t ht hW => ⟨rfl, ht⟩) (fun _ h9 => nomatch h9) d_R_fits_140
          · have h := if_f hc h
            refine lv_iload_n hx hb d_R_fits_124 rfl (lv_at hl 4 rfl) ?_
            refine lv_iload_n hx hb d_R_fits_125 rfl (lv_at hl 3 rfl) ?_
            refine lv_sipush (v := 255) hx hb d_R_fits_126 (by decide) ?_
            obtain ⟨r21, hcl, h⟩ := bd_some h
            refine cx_read (va_runS (As := [.int a3, .int a2, .int 255]) (rest := []) ⟨hx, hb, hml, hown, hts⟩ (c_R_in l dC dI q cA σ a3 a2 255 _ hcl) (cw_R_72 hts ⟨Nat.le_of_ble_eq_true rfl, Nat.le_of_ble_eq_true rfl⟩) ⟨pxR_B, pxR_U hP hK hD hN hZ hS⟩ rfl rfl hl.1 rfl (lv_room (Nat.le_of_ble_eq_true rfl)) d_R_fits_129 ⟨Nat.zero_le _, Nat.zero_le _⟩) ?_
            refine lv_if_eq (tgt := 139) hx hb d_R_fits_132 rfl (fun hc => ?_) (fun hc => ?_)
            · have h := if_t hc h
              refine lv_iconst (v := 0) hx hb d_R_fits_139 (by decide) ?_
              obtain rfl := Option.some.inj h
              exact W.zret hx hb hr rfl (fun t ht hW => ⟨rfl, ht⟩) (fun _ h9 => nomatch h9) d_R_fits_140
            · have h := if_f hc h
              refine lv_iconst (v := 1) hx hb d_R_fits_135 (by decide) ?_
              refine lv_goto (tgt := 140) hx hb d_R_fits_136 rfl ?_
              obtain rfl := Option.some.inj h
              exact W.zret hx hb hr rfl (fun t ht hW => ⟨rfl, ht⟩) (fun _ h9 => nomatch h9) d_R_fits_140
        have h := if_f hc1 h
        by_cases hc2 : a1 = 3
        · have h := if_t hc2 h
          refine sw_in (tgt := 218) hx hb d_R_fits_38 hc2 (by decide) (by decide) rfl rfl ?_
          refine lv_iload_n hx hb d_R_fits_218 rfl (lv_at hl 2 rfl) ?_
          refine lv_iconst (v := 0) hx hb d_R_fits_219 (by decide) ?_
          refine lv_bipush (v := 13) hx hb d_R_fits_220 (by decide) ?_
          obtain ⟨r22, hcl, h⟩ := bd_some h
          refine cx_read (va_runS (As := [.int a1, .int 0, .int 13]) (rest := []) ⟨hx, hb, hml, hown, hts⟩ (c_R_in l dC dI q cA σ a1 0 13 _ hcl) (cw_R_72 hts ⟨Nat.le_of_ble_eq_true rfl, Nat.le_of_ble_eq_true rfl⟩) ⟨pxR_B, pxR_U hP hK hD hN hZ hS⟩ rfl rfl hl.1 rfl (lv_room (Nat.le_of_ble_eq_true rfl)) d_R_fits_222 ⟨Nat.zero_le _, Nat.zero_le _⟩) ?_
          refine lv_if_eq (tgt := 237) hx hb d_R_fits_225 rfl (fun hc => ?_) (fun hc => ?_)
          · have h := if_t hc h
            refine lv_iconst (v := 0) hx hb d_R_fits_237 (by decide) ?_
            obtain rfl := Option.some.inj h
            exact W.zret hx hb hr rfl (fun t ht hW => ⟨rfl, ht⟩) (fun _ h9 => nomatch h9) d_R_fits_238
          · have h := if_f hc h
            refine lv_iload hx hb d_R_fits_228 (lv_at hl 0 rfl) ?_
            refine lv_if_eq (tgt := 237) hx hb d_R_fits_230 rfl (fun hc => ?_) (fun hc => ?_)
            · have h := if_t hc h
              refine lv_iconst (v := 0) hx hb d_R_fits_237 (by decide) ?_
              obtain rfl := Option.some.inj h
              exact W.zret hx hb hr rfl (fun t ht hW => ⟨rfl, ht⟩) (fun _ h9 => nomatch h9) d_R_fits_238
            · have h := if_f hc h
              refine lv_iconst (v := 1) hx hb d_R_fits_233 (by decide) ?_
              refine lv_goto (tgt := 238) hx hb d_R_fits_234 rfl ?_
              obtain rfl := Option.some.inj h
              exact W.zret hx hb hr rfl (fun t ht hW => ⟨rfl, ht⟩) (fun _ h9 => nomatch h9) d_R_fits_238
        have h := if_f hc2 h
        by_cases hc3 : a1 = 4
        · have h := if_t hc3 h
          refine sw_in (tgt := 141) hx hb d_R_fits_38 hc3 (by decide) (by decide) rfl rfl ?_
          refine lv_iload hx hb d_R_fits_141 (lv_at hl 0 rfl) ?_
          refine lv_if_eq (tgt := 161) hx hb d_R_fits_143 rfl (fun hc => ?_) (fun hc => ?_)
          · have h := if_t hc h
            refine lv_iconst (v := 0) hx hb d_R_fits_161 (by decide) ?_
            obtain rfl := Option.some.inj h
            exact W.zret hx hb hr rfl (fun t ht hW => ⟨rfl, ht⟩) (fun _ h9 => nomatch h9) d_R_fits_162
          · have h := if_f hc h
            refine lv_iload hx hb d_R_fits_146 (lv_at hl 5 rfl) ?_
            refine lv_iconst (v := 0) hx hb d_R_fits_148 (by decide) ?_
            refine lv_bipush (v := 7) hx hb d_R_fits_149 (by decide) ?_
            obtain ⟨r23, hcl, h⟩ := bd_some h
            refine cx_read (va_runS (As := [.int a4, .int 0, .int 7]) (rest := []) ⟨hx, hb, hml, hown, hts⟩ (c_R_in l dC dI q cA σ a4 0 7 _ hcl) (cw_R_72 hts ⟨Nat.le_of_ble_eq_true rfl, Nat.le_of_ble_eq_true rfl⟩) ⟨pxR_B, pxR_U hP hK hD hN hZ hS⟩ rfl rfl hl.1 rfl (lv_room (Nat.le_of_ble_eq_true rfl)) d_R_fits_151 ⟨Nat.zero_le _, Nat.zero_le _⟩) ?_
            refine lv_if_eq (tgt := 161) hx hb d_R_fits_154 rfl (fun hc => ?_) (fun hc => ?_)
            · have h := if_t hc h
              refine lv_iconst (v := 0) hx hb d_R_fits_161 (by decide) ?_
              obtain rfl := Option.some.inj h
              exact W.zret hx hb hr rfl (fun t ht hW => ⟨rfl, ht⟩) (fun _ h9 => nomatch h9) d_R_fits_162
            · have h := if_f hc h
              refine lv_iconst (v := 1) hx hb d_R_fits_157 (by decide) ?_
              refine lv_goto (tgt := 162) hx hb d_R_fits_158 rfl ?_
              obtain rfl := Option.some.inj h
              exact W.zret hx hb hr rfl (fun t ht hW => ⟨rfl, ht⟩) (fun _ h9 => nomatch h9) d_R_fits_162
        have h := if_f hc3 h
        by_cases hc4 : a1 = 5
        · have h := if_t hc4 h
          refine sw_in (tgt := 218) hx hb d_R_fits_38 hc4 (by decide) (by decide) rfl rfl ?_
          refine lv_iload_n hx hb d_R_fits_218 rfl (lv_at hl 2 rfl) ?_
          refine lv_iconst (v := 0) hx hb d_R_fits_219 (by decide) ?_
          refine lv_bipush (v := 13) hx hb d_R_fits_220 (by decide) ?_
          obtain ⟨r24, hcl, h⟩ := bd_some h
          refine cx_read (va_runS (As := [.int a1, .int 0, .int 13]) (rest := []) ⟨hx, hb, hml, hown, hts⟩ (c_R_in l dC dI q cA σ a1 0 13 _ hcl) (cw_R_72 hts ⟨Nat.le_of_ble_eq_true rfl, Nat.le_of_ble_eq_true rfl⟩) ⟨pxR_B, pxR_U hP hK hD hN hZ hS⟩ rfl rfl hl.1 rfl (lv_room (Nat.le_of_ble_eq_true rfl)) d_R_fits_222 ⟨Nat.zero_le _, Nat.zero_le _⟩) ?_
          refine lv_if_eq (tgt := 237) hx hb d_R_fits_225 rfl (fun hc => ?_) (fun hc => ?_)
          · have h := if_t hc h
            refine lv_iconst (v := 0) hx hb d_R_fits_237 (by decide) ?_
            obtain rfl := Option.some.inj h
            exact W.zret hx hb hr rfl (fun t ht hW => ⟨rfl, ht⟩) (fun _ h9 => nomatch h9) d_R_fits_238
          · have h := if_f hc h
            refine lv_iload hx hb d_R_fits_228 (lv_at hl 0 rfl) ?_
            refine lv_if_eq (tgt := 237) hx hb d_R_fits_230 rfl (fun hc => ?_) (fun hc => ?_)
            · have h := if_t hc h
              refine lv_iconst (v := 0) hx hb d_R_fits_237 (by decide) ?_
              obtain rfl := Option.some.inj h
              exact W.zret hx hb hr rfl (fun t ht hW => ⟨rfl, ht⟩) (fun _ h9 => nomatch h9) d_R_fits_238
            · have h := if_f hc h
              refine lv_iconst (v := 1) hx hb d_R_fits_233 (by decide) ?_
              refine lv_goto (tgt := 238) hx hb d_R_fits_234 rfl ?_
              obtain rfl := Option.some.inj h
              exact W.zret hx hb hr rfl (fun t ht hW => ⟨rfl, ht⟩) (fun _ h9 => nomatch h9) d_R_fits_238
        have h := if_f hc4 h
        by_cases hc5 : a1 = 6
        · have h := if_t hc5 h
          refine sw_in (tgt := 218) hx hb d_R_fits_38 hc5 (by decide) (by decide) rfl rfl ?_
          refine lv_iload_n hx hb d_R_fits_218 rfl (lv_at hl 2 rfl) ?_
          refine lv_iconst (v := 0) hx hb d_R_fits_219 (by decide) ?_
          refine lv_bipush (v := 13) hx hb d_R_fits_220 (by decide) ?_
          obtain ⟨r25, hcl, h⟩ := bd_some h
          refine cx_read (va_runS (As := [.int a1, .int 0, .int 13]) (rest := []) ⟨hx, hb, hml, hown, hts⟩ (c_R_in l dC dI q cA σ a1 0 13 _ hcl) (cw_R_72 hts ⟨Nat.le_of_ble_eq_true rfl, Nat.le_of_ble_eq_true rfl⟩) ⟨pxR_B, pxR_U hP hK hD hN hZ hS⟩ rfl rfl hl.1 rfl (lv_room (Nat.le_of_ble_eq_true rfl)) d_R_fits_222 ⟨Nat.zero_le _, Nat.zero_le _⟩) ?_
          refine lv_if_eq (tgt := 237) hx hb d_R_fits_225 rfl (fun hc => ?_) (fun hc => ?_)
          · have h := if_t hc h
            refine lv_iconst (v := 0) hx hb d_R_fits_237 (by decide) ?_
            obtain rfl := Option.some.inj h
            exact W.zret hx hb hr rfl (fun t ht hW => ⟨rfl, ht⟩) (fun _ h9 => nomatch h9) d_R_fits_238
          · have h := if_f hc h
            refine lv_iload hx hb d_R_fits_228 (lv_at hl 0 rfl) ?_
            refine lv_if_eq (tgt := 237) hx hb d_R_fits_230 rfl (fun hc => ?_) (fun hc => ?_)
            · have h := if_t hc h
              refine lv_iconst (v := 0) hx hb d_R_fits_237 (by decide) ?_
              obtain rfl := Option.some.inj h
              exact W.zret hx hb hr rfl (fun t ht hW => ⟨rfl, ht⟩) (fun _ h9 => nomatch h9) d_R_fits_238
            · have h := if_f hc h
              refine lv_iconst (v := 1) hx hb d_R_fits_233 (by decide) ?_
              refine lv_goto (tgt := 238) hx hb d_R_fits_234 rfl ?_
              obtain rfl := Option.some.inj h
              exact W.zret hx hb hr rfl (fun t ht hW => ⟨rfl, ht⟩) (fun _ h9 => nomatch h9) d_R_fits_238
        have h := if_f hc5 h
        by_cases hc6 : a1 = 7
        · have h := if_t hc6 h
          refine sw_in (tgt := 218) hx hb d_R_fits_38 hc6 (by decide) (by decide) rfl rfl ?_
          refine lv_iload_n hx hb d_R_fits_218 rfl (lv_at hl 2 rfl) ?_
          refine lv_iconst (v := 0) hx hb d_R_fits_219 (by decide) ?_
          refine lv_bipush (v := 13) hx hb d_R_fits_220 (by decide) ?_
          obtain ⟨r26, hcl, h⟩ := bd_some h
          refine cx_read (va_runS (As := [.int a1, .int 0, .int 13]) (rest := []) ⟨hx, hb, hml, hown, hts⟩ (c_R_in l dC dI q cA σ a1 0 13 _ hcl) (cw_R_72 hts ⟨Nat.le_of_ble_eq_true rfl, Nat.le_of_ble_eq_true rfl⟩) ⟨pxR_B, pxR_U hP hK hD hN hZ hS⟩ rfl rfl hl.1 rfl (lv_room (Nat.le_of_ble_eq_true rfl)) d_R_fits_222 ⟨Nat.zero_le _, Nat.zero_le _⟩) ?_
          refine lv_if_eq (tgt := 237) hx hb d_R_fits_225 rfl (fun hc => ?_) (fun hc => ?_)
          · have h := if_t hc h
            refine lv_iconst (v := 0) hx hb d_R_fits_237 (by decide) ?_
            obtain rfl := Option.some.inj h
            exact W.zret hx hb hr rfl (fun t ht hW => ⟨rfl, ht⟩) (fun _ h9 => nomatch h9) d_R_fits_238
          · have h := if_f hc h
            refine lv_iload hx hb d_R_fits_228 (lv_at hl 0 rfl) ?_
            refine lv_if_eq (tgt := 237) hx hb d_R_fits_230 rfl (fun hc => ?_) (fun hc => ?_)
            · have h := if_t hc h
              refine lv_iconst (v := 0) hx hb d_R_fits_237 (by decide) ?_
              obtain rfl := Option.some.inj h
              exact W.zret hx hb hr rfl (fun t ht hW => ⟨rfl, ht⟩) (fun _ h9 => nomatch h9) d_R_fits_238
            · have h := if_f hc h
              refine lv_iconst (v := 1) hx hb d_R_fits_233 (by decide) ?_
              refine lv_goto (tgt := 238) hx hb d_R_fits_234 rfl ?_
              obtain rfl := Option.some.inj h
              exact W.zret hx hb hr rfl (fun t ht hW => ⟨rfl, ht⟩) (fun _ h9 => nomatch h9) d_R_fits_238
        have h := if_f hc6 h
        by_cases hc7 : a1 = 8
        · have h := if_t hc7 h
          refine sw_in (tgt := 218) hx hb d_R_fits_38 hc7 (by decide) (by decide) rfl rfl ?_
          refine lv_iload_n hx hb d_R_fits_218 rfl (lv_at hl 2 rfl) ?_
          refine lv_iconst (v := 0) hx hb d_R_fits_219 (by decide) ?_
          refine lv_bipush (v := 13) hx hb d_R_fits_220 (by decide) ?_
          obtain ⟨r27, hcl, h⟩ := bd_some h
          refine cx_read (va_runS (As := [.int a1, .int 0, .int 13]) (rest := []) ⟨hx, hb, hml, hown, hts⟩ (c_R_in l dC dI q cA σ a1 0 13 _ hcl) (cw_R_72 hts ⟨Nat.le_of_ble_eq_true rfl, Nat.le_of_ble_eq_true rfl⟩) ⟨pxR_B, pxR_U hP hK hD hN hZ hS⟩ rfl rfl hl.1 rfl (lv_room (Nat.le_of_ble_eq_true rfl)) d_R_fits_222 ⟨Nat.zero_le _, Nat.zero_le _⟩) ?_
          refine lv_if_eq (tgt := 237) hx hb d_R_fits_225 rfl (fun hc => ?_) (fun hc => ?_)
          · have h := if_t hc h
            refine lv_iconst (v := 0) hx hb d_R_fits_237 (by decide) ?_
            obtain rfl := Option.some.inj h
            exact W.zret hx hb hr rfl (fun t ht hW => ⟨rfl, ht⟩) (fun _ h9 => nomatch h9) d_R_fits_238
          · have h := if_f hc h
            refine lv_iload hx hb d_R_fits_228 (lv_at hl 0 rfl) ?_
            refine lv_if_eq (tgt := 237) hx hb d_R_fits_230 rfl (fun hc => ?_) (fun hc => ?_)
            · have h := if_t hc h
              refine lv_iconst (v := 0) hx hb d_R_fits_237 (by decide) ?_
              obtain rfl := Option.some.inj h
              exact W.zret hx hb hr rfl (fun t ht hW => ⟨rfl, ht⟩) (fun _ h9 => nomatch h9) d_R_fits_238
            · have h := if_f hc h
              refine lv_iconst (v := 1) hx hb d_R_fits_233 (by decide) ?_
              refine lv_goto (tgt := 238) hx hb d_R_fits_234 rfl ?_
              obtain rfl := Option.some.inj h
              exact W.zret hx hb hr rfl (fun t ht hW => ⟨rfl, ht⟩) (fun _ h9 => nomatch h9) d_R_fits_238
        have h := if_f hc7 h
        by_cases hc8 : a1 = 9
        · have h := if_t hc8 h
          refine sw_in (tgt := 163) hx hb d_R_fits_38 hc8 (by decide) (by decide) rfl rfl ?_
          refine lv_iload hx hb d_R_fits_163 (lv_at hl 0 rfl) ?_
          refine lv_if_eq (tgt := 182) hx hb d_R_fits_165 rfl (fun hc => ?_) (fun hc => ?_)
          · have h := if_t hc h
            refine lv_iconst (v := 0) hx hb d_R_fits_182 (by decide) ?_
            obtain rfl := Option.some.inj h
            exact W.zret hx hb hr rfl (fun t ht hW => ⟨rfl, ht⟩) (fun _ h9 => nomatch h9) d_R_fits_183
          · have h := if_f hc h
            refine lv_iload_n hx hb d_R_fits_168 rfl (lv_at hl 4 rfl) ?_
            refine lv_iconst (v := 0) hx hb d_R_fits_169 (by decide) ?_
            refine lv_bipush (v := 7) hx hb d_R_fits_170 (by decide) ?_
            obtain ⟨r28, hcl, h⟩ := bd_some h
            refine cx_read (va_runS (As := [.int a3, .int 0, .int 7]) (rest := []) ⟨hx, hb, hml, hown, hts⟩ (c_R_in l dC dI q cA σ a3 0 7 _ hcl) (cw_R_72 hts ⟨Nat.le_of_ble_eq_true rfl, Nat.le_of_ble_eq_true rfl⟩) ⟨pxR_B, pxR_U hP hK hD hN hZ hS⟩ rfl rfl hl.1 rfl (lv_room (Nat.le_of_ble_eq_true rfl)) d_R_fits_172 ⟨Nat.zero_le _, Nat.zero_le _⟩) ?_
            refine lv_if_eq (tgt := 182) hx hb d_R_fits_175 rfl (fun hc => ?_) (fun hc => ?_)
            · have h := if_t hc h
              refine lv_iconst (v := 0) hx hb d_R_fits_182 (by decide) ?_
              obtain rfl := Option.some.inj h
              exact W.zret hx hb hr rfl (fun t ht hW => ⟨rfl, ht⟩) (fun _ h9 => nomatch h9) d_R_fits_183
            · have h := if_f hc h
              refine lv_iconst (v := 1) hx hb d_R_fits_178 (by decide) ?_
              refine lv_goto (tgt := 183) hx hb d_R_fits_179 rfl ?_
              obtain rfl := Option.some.inj h
              exact W.zret hx hb hr rfl (fun t ht hW => ⟨rfl, ht⟩) (fun _ h9 => nomatch h9) d_R_fits_183
        have h := if_f hc8 h
        by_cases hc9 : a1 = 10
        · have h := if_t hc9 h
          refine sw_in (tgt := 218) hx hb d_R_fits_38 hc9 (by decide) (by decide) rfl rfl ?_
          refine lv_iload_n hx hb d_R_fits_218 rfl (lv_at hl 2 rfl) ?_
          refine lv_iconst (v := 0) hx hb d_R_fits_219 (by decide) ?_
          refine lv_bipush (v := 13) hx hb d_R_fits_220 (by decide) ?_
          obtain ⟨r29, hcl, h⟩ := bd_some h
          refine cx_read (va_runS (As := [.int a1, .int 0, .int 13]) (rest := []) ⟨hx, hb, hml, hown, hts⟩ (c_R_in l dC dI q cA σ a1 0 13 _ hcl) (cw_R_72 hts ⟨Nat.le_of_ble_eq_true rfl, Nat.le_of_ble_eq_true rfl⟩) ⟨pxR_B, pxR_U hP hK hD hN hZ hS⟩ rfl rfl hl.1 rfl (lv_room (Nat.le_of_ble_eq_true rfl)) d_R_fits_222 ⟨Nat.zero_le _, Nat.zero_le _⟩) ?_
          refine lv_if_eq (tgt := 237) hx hb d_R_fits_225 rfl (fun hc => ?_) (fun hc => ?_)
          · have h := if_t hc h
            refine lv_iconst (v := 0) hx hb d_R_fits_237 (by decide) ?_
            obtain rfl := Option.some.inj h
            exact W.zret hx hb hr rfl (fun t ht hW => ⟨rfl, ht⟩) (fun _ h9 => nomatch h9) d_R_fits_238
          · have h := if_f hc h
            refine lv_iload hx hb d_R_fits_228 (lv_at hl 0 rfl) ?_
            refine lv_if_eq (tgt := 237) hx hb d_R_fits_230 rfl (fun hc => ?_) (fun hc => ?_)
            · have h := if_t hc h
              refine lv_iconst (v := 0) hx hb d_R_fits_237 (by decide) ?_
              obtain rfl := Option.some.inj h
              exact W.zret hx hb hr rfl (fun t ht hW => ⟨rfl, ht⟩) (fun _ h9 => nomatch h9) d_R_fits_238
            · have h := if_f hc h
              refine lv_iconst (v := 1) hx hb d_R_fits_233 (by decide) ?_
              refine lv_goto (tgt := 238) hx hb d_R_fits_234 rfl ?_
              obtain rfl := Option.some.inj h
              exact W.zret hx hb hr rfl (fun t ht hW => ⟨rfl, ht⟩) (fun _ h9 => nomatch h9) d_R_fits_238
        have h := if_f hc9 h
        by_cases hc10 : a1 = 11
        · have h := if_t hc10 h
          refine sw_in (tgt := 184) hx hb d_R_fits_38 hc10 (by decide) (by decide) rfl rfl ?_
          refine lv_iload_n hx hb d_R_fits_184 rfl (lv_at hl 3 rfl) ?_
          refine lv_iconst (v := 0) hx hb d_R_fits_185 (by decide) ?_
          refine lv_iconst (v := 5) hx hb d_R_fits_186 (by decide) ?_
          obtain ⟨r30, hcl, h⟩ := bd_some h
          refine cx_read (va_runS (As := [.int a2, .int 0, .int 5]) (rest := []) ⟨hx, hb, hml, hown, hts⟩ (c_R_in l dC dI q cA σ a2 0 5 _ hcl) (cw_R_72 hts ⟨Nat.le_of_ble_eq_true rfl, Nat.le_of_ble_eq_true rfl⟩) ⟨pxR_B, pxR_U hP hK hD hN hZ hS⟩ rfl rfl hl.1 rfl (lv_room (Nat.le_of_ble_eq_true rfl)) d_R_fits_187 ⟨Nat.zero_le _, Nat.zero_le _⟩) ?_
          obtain ⟨hbo, h⟩ := bo_some h
          obtain rfl := Option.some.inj h
          exact W.zret hx hb hr (bo_nar hbo) (fun t ht hW => ⟨rfl, ht⟩) (fun _ h9 => nomatch h9) d_R_fits_190
        have h := if_f hc10 h
        by_cases hc11 : a1 = 12
        · have h := if_t hc11 h
          refine sw_in (tgt := 191) hx hb d_R_fits_38 hc11 (by decide) (by decide) rfl rfl ?_
          refine lv_iload hx hb d_R_fits_191 (lv_at hl 0 rfl) ?_
          refine lv_if_eq (tgt := 209) hx hb d_R_fits_193 rfl (fun hc => ?_) (fun hc => ?_)
          · have h := if_t hc h
            refine lv_iconst (v := 0) hx hb d_R_fits_209 (by decide) ?_
            obtain rfl := Option.some.inj h
            exact W.zret hx hb hr rfl (fun t ht hW => ⟨rfl, ht⟩) (fun _ h9 => nomatch h9) d_R_fits_210
          · have h := if_f hc h
            refine lv_iload_n hx hb d_R_fits_196 rfl (lv_at hl 4 rfl) ?_
            refine lv_iconst (v := 0) hx hb d_R_fits_197 (by decide) ?_
            refine lv_iconst (v := 3) hx hb d_R_fits_198 (by decide) ?_
            obtain ⟨r31, hcl, h⟩ := bd_some h
            refine cx_read (va_runS (As := [.int a3, .int 0, .int 3]) (rest := []) ⟨hx, hb, hml, hown, hts⟩ (c_R_in l dC dI q cA σ a3 0 3 _ hcl) (cw_R_72 hts ⟨Nat.le_of_ble_eq_true rfl, Nat.le_of_ble_eq_true rfl⟩) ⟨pxR_B, pxR_U hP hK hD hN hZ hS⟩ rfl rfl hl.1 rfl (lv_room (Nat.le_of_ble_eq_true rfl)) d_R_fits_199 ⟨Nat.zero_le _, Nat.zero_le _⟩) ?_
            refine lv_if_eq (tgt := 209) hx hb d_R_fits_202 rfl (fun hc => ?_) (fun hc => ?_)
            · have h := if_t hc h
              refine lv_iconst (v := 0) hx hb d_R_fits_209 (by decide) ?_
              obtain rfl := Option.some.inj h
              exact W.zret hx hb hr rfl (fun t ht hW => ⟨rfl, ht⟩) (fun _ h9 => nomatch h9) d_R_fits_210
            · have h := if_f hc h
              refine lv_iconst (v := 1) hx hb d_R_fits_205 (by decide) ?_
              refine lv_goto (tgt := 210) hx hb d_R_fits_206 rfl ?_
              obtain rfl := Option.some.inj h
              exact W.zret hx hb hr rfl (fun t ht hW => ⟨rfl, ht⟩) (fun _ h9 => nomatch h9) d_R_fits_210
        have h := if_f hc11 h
        by_cases hc12 : a1 = 13
        · have h := if_t hc12 h
          refine sw_in (tgt := 211) hx hb d_R_fits_38 hc12 (by decide) (by decide) rfl rfl ?_
          refine lv_iload_n hx hb d_R_fits_211 rfl (lv_at hl 3 rfl) ?_
          refine lv_iconst (v := 0) hx hb d_R_fits_212 (by decide) ?_
          refine lv_iconst (v := 3) hx hb d_R_fits_213 (by decide) ?_
          obtain ⟨r32, hcl, h⟩ := bd_some h
          refine cx_read (va_runS (As := [.int a2, .int 0, .int 3]) (rest := []) ⟨hx, hb, hml, hown, hts⟩ (c_R_in l dC dI q cA σ a2 0 3 _ hcl) (cw_R_72 hts ⟨Nat.le_of_ble_eq_true rfl, Nat.le_of_ble_eq_true rfl⟩) ⟨pxR_B, pxR_U hP hK hD hN hZ hS⟩ rfl rfl hl.1 rfl (lv_room (Nat.le_of_ble_eq_true rfl)) d_R_fits_214 ⟨Nat.zero_le _, Nat.zero_le _⟩) ?_
          obtain ⟨hbo, h⟩ := bo_some h
          obtain rfl := Option.some.inj h
          exact W.zret hx hb hr (bo_nar hbo) (fun t ht hW => ⟨rfl, ht⟩) (fun _ h9 => nomatch h9) d_R_fits_217
        have h := if_f hc12 h
        refine lv_tableOut (tgt := 218) hx hb d_R_fits_38 (by have q0 := lv_neT hc0 (a := 1) (by decide); have q1 := lv_neT hc1 (a := 2) (by decide); have q2 := lv_neT hc2 (a := 3) (by decide); have q3 := lv_neT hc3 (a := 4) (by decide); have q4 := lv_neT hc4 (a := 5) (by decide); have q5 := lv_neT hc5 (a := 6) (by decide); have q6 := lv_neT hc6 (a := 7) (by decide); have q7 := lv_neT hc7 (a := 8) (by decide); have q8 := lv_neT hc8 (a := 9) (by decide); have q9 := lv_neT hc9 (a := 10) (by decide); have q10 := lv_neT hc10 (a := 11) (by decide); have q11 := lv_neT hc11 (a := 12) (by decide); have q12 := lv_neT hc12 (a := 13) (by decide); omega) rfl ?_
        refine lv_iload_n hx hb d_R_fits_218 rfl (lv_at hl 2 rfl) ?_
        refine lv_iconst (v := 0) hx hb d_R_fits_219 (by decide) ?_
        refine lv_bipush (v := 13) hx hb d_R_fits_220 (by decide) ?_
        obtain ⟨r33, hcl, h⟩ := bd_some h
        refine cx_read (va_runS (As := [.int a1, .int 0, .int 13]) (rest := []) ⟨hx, hb, hml, hown, hts⟩ (c_R_in l dC dI q cA σ a1 0 13 _ hcl) (cw_R_72 hts ⟨Nat.le_of_ble_eq_true rfl, Nat.le_of_ble_eq_true rfl⟩) ⟨pxR_B, pxR_U hP hK hD hN hZ hS⟩ rfl rfl hl.1 rfl (lv_room (Nat.le_of_ble_eq_true rfl)) d_R_fits_222 ⟨Nat.zero_le _, Nat.zero_le _⟩) ?_
        refine lv_if_eq (tgt := 237) hx hb d_R_fits_225 rfl (fun hc => ?_) (fun hc => ?_)
        · have h := if_t hc h
          refine lv_iconst (v := 0) hx hb d_R_fits_237 (by decide) ?_
          obtain rfl := Option.some.inj h
          exact W.zret hx hb hr rfl (fun t ht hW => ⟨rfl, ht⟩) (fun _ h9 => nomatch h9) d_R_fits_238
        · have h := if_f hc h
          refine lv_iload hx hb d_R_fits_228 (lv_at hl 0 rfl) ?_
          refine lv_if_eq (tgt := 237) hx hb d_R_fits_230 rfl (fun hc => ?_) (fun hc => ?_)
          · have h := if_t hc h
            refine lv_iconst (v := 0) hx hb d_R_fits_237 (by decide) ?_
            obtain rfl := Option.some.inj h
            exact W.zret hx hb hr rfl (fun t ht hW => ⟨rfl, ht⟩) (fun _ h9 => nomatch h9) d_R_fits_238
          · have h := if_f hc h
            refine lv_iconst (v := 1) hx hb d_R_fits_233 (by decide) ?_
            refine lv_goto (tgt := 238) hx hb d_R_fits_234 rfl ?_
            obtain rfl := Option.some.inj h
            exact W.zret hx hb hr rfl (fun t ht hW => ⟨rfl, ht⟩) (fun _ h9 => nomatch h9) d_R_fits_238
      · have h := if_f hc h
        refine lv_iconst (v := 1) hx hb d_R_fits_30 (by decide) ?_
        refine lv_goto (tgt := 35) hx hb d_R_fits_31 rfl ?_
        refine lv_istore hx hb d_R_fits_35 hl (by decide) rfl (fun ls hl => ?_)
        have hl : lv_has ls 6 [(5, .int 1), (0, .ref (q 0)), (1, .int a1), (2, .int a2), (3, .int a3), (4, .int a4)] := hl
        refine lv_iload_n hx hb d_R_fits_37 rfl (lv_at hl 2 rfl) ?_
        by_cases hc0 : a1 = 1
        · have h := if_t hc0 h
          refine sw_in (tgt := 104) hx hb d_R_fits_38 hc0 (by decide) (by decide) rfl rfl ?_
          refine lv_iload_n hx hb d_R_fits_104 rfl (lv_at hl 3 rfl) ?_
          refine lv_iconst (v := 0) hx hb d_R_fits_105 (by decide) ?_
          refine lv_sipush (v := 255) hx hb d_R_fits_106 (by decide) ?_
          obtain ⟨r34, hcl, h⟩ := bd_some h
          refine cx_read (va_runS (As := [.int a2, .int 0, .int 255]) (rest := []) ⟨hx, hb, hml, hown, hts⟩ (c_R_in l dC dI q cA σ a2 0 255 _ hcl) (cw_R_72 hts ⟨Nat.le_of_ble_eq_true rfl, Nat.le_of_ble_eq_true rfl⟩) ⟨pxR_B, pxR_U hP hK hD hN hZ hS⟩ rfl rfl hl.1 rfl (lv_room (Nat.le_of_ble_eq_true rfl)) d_R_fits_109 ⟨Nat.zero_le _, Nat.zero_le _⟩) ?_
          obtain ⟨hbo, h⟩ := bo_some h
          obtain rfl := Option.some.inj h
          exact W.zret hx hb hr (bo_nar hbo) (fun t ht hW => ⟨rfl, ht⟩) (fun _ h9 => nomatch h9) d_R_fits_112
        have h := if_f hc0 h
        by_cases hc1 : a1 = 2
        · have h := if_t hc1 h
          refine sw_in (tgt := 113) hx hb d_R_fits_38 hc1 (by decide) (by decide) rfl rfl ?_
          refine lv_iload_n hx hb d_R_fits_113 rfl (lv_at hl 3 rfl) ?_
          refine lv_iconst (v := 0) hx hb d_R_fits_114 (by decide) ?_
          refine lv_sipush (v := 255) hx hb d_R_fits_115 (by decide) ?_
          obtain ⟨r35, hcl, h⟩ := bd_some h
          refine cx_read (va_runS (As := [.int a2, .int 0, .int 255]) (rest := []) ⟨hx, hb, hml, hown, hts⟩ (c_R_in l dC dI q cA σ a2 0 255 _ hcl) (cw_R_72 hts ⟨Nat.le_of_ble_eq_true rfl, Nat.le_of_ble_eq_true rfl⟩) ⟨pxR_B, pxR_U hP hK hD hN hZ hS⟩ rfl rfl hl.1 rfl (lv_room (Nat.le_of_ble_eq_true rfl)) d_R_fits_118 ⟨Nat.zero_le _, Nat.zero_le _⟩) ?_
          refine lv_if_eq (tgt := 139) hx hb d_R_fits_121 rfl (fun hc => ?_) (fun hc => ?_)
          · have h := if_t hc h
            refine lv_iconst (v := 0) hx hb d_R_fits_139 (by decide) ?_
            obtain rfl := Option.some.inj h
            exact W.zret hx hb hr rfl (fun t ht hW => ⟨rfl, ht⟩) (fun _ h9 => nomatch h9) d_R_fits_140
          · have h := if_f hc h
            refine lv_iload_n hx hb d_R_fits_124 rfl (lv_at hl 4 rfl) ?_
            refine lv_iload_n hx hb d_R_fits_125 rfl (lv_at hl 3 rfl) ?_
            refine lv_sipush (v := 255) hx hb d_R_fits_126 (by decide) ?_
            obtain ⟨r36, hcl, h⟩ := bd_some h
            refine cx_read (va_runS (As := [.int a3, .int a2, .int 255]) (rest := []) ⟨hx, hb, hml, hown, hts⟩ (c_R_in l dC dI q cA σ a3 a2 255 _ hcl) (cw_R_72 hts ⟨Nat.le_of_ble_eq_true rfl, Nat.le_of_ble_eq_true rfl⟩) ⟨pxR_B, pxR_U hP hK hD hN hZ hS⟩ rfl rfl hl.1 rfl (lv_room (Nat.le_of_ble_eq_true rfl)) d_R_fits_129 ⟨Nat.zero_le _, Nat.zero_le _⟩) ?_
            refine lv_if_eq (tgt := 139) hx hb d_R_fits_132 rfl (fun hc => ?_) (fun hc => ?_)
            · have h := if_t hc h
              refine lv_iconst (v := 0) hx hb d_R_fits_139 (by decide) ?_
              obtain rfl := Option.some.inj h
              exact W.zret hx hb hr rfl (fun t ht hW => ⟨rfl, ht⟩) (fun _ h9 => nomatch h9) d_R_fits_140
            · have h := if_f hc h
              refine lv_iconst (v := 1) hx hb d_R_fits_135 (by decide) ?_
              refine lv_goto (tgt := 140) hx hb d_R_fits_136 rfl ?_
              obtain rfl := Option.some.inj h
              exact W.zret hx hb hr rfl (fun t ht hW => ⟨rfl, ht⟩) (fun _ h9 => nomatch h9) d_R_fits_140
        have h := if_f hc1 h
        by_cases hc2 : a1 = 3
        · have h := if_t hc2 h
          refine sw_in (tgt := 218) hx hb d_R_fits_38 hc2 (by decide) (by decide) rfl rfl ?_
          refine lv_iload_n hx hb d_R_fits_218 rfl (lv_at hl 2 rfl) ?_
          refine lv_iconst (v := 0) hx hb d_R_fits_219 (by decide) ?_
          refine lv_bipush (v := 13) hx hb d_R_fits_220 (by decide) ?_
          obtain ⟨r37, hcl, h⟩ := bd_some h
          refine cx_read (va_runS (As := [.int a1, .int 0, .int 13]) (rest := []) ⟨hx, hb, hml, hown, hts⟩ (c_R_in l dC dI q cA σ a1 0 13 _ hcl) (cw_R_72 hts ⟨Nat.le_of_ble_eq_true rfl, Nat.le_of_ble_eq_true rfl⟩) ⟨pxR_B, pxR_U hP hK hD hN hZ hS⟩ rfl rfl hl.1 rfl (lv_room (Nat.le_of_ble_eq_true rfl)) d_R_fits_222 ⟨Nat.zero_le _, Nat.zero_le _⟩) ?_
          refine lv_if_eq (tgt := 237) hx hb d_R_fits_225 rfl (fun hc => ?_) (fun hc => ?_)
          · have h := if_t hc h
            refine lv_iconst (v := 0) hx hb d_R_fits_237 (by decide) ?_
            obtain rfl := Option.some.inj h
            exact W.zret hx hb hr rfl (fun t ht hW => ⟨rfl, ht⟩) (fun _ h9 => nomatch h9) d_R_fits_238
          · have h := if_f hc h
            refine lv_iload hx hb d_R_fits_228 (lv_at hl 0 rfl) ?_
            refine lv_if_eq (tgt := 237) hx hb d_R_fits_230 rfl (fun hc => ?_) (fun hc => ?_)
            · have h := if_t hc h
              refine lv_iconst (v := 0) hx hb d_R_fits_237 (by decide) ?_
              obtain rfl := Option.some.inj h
              exact W.zret hx hb hr rfl (fun t ht hW => ⟨rfl, ht⟩) (fun _ h9 => nomatch h9) d_R_fits_238
            · have h := if_f hc h
              refine lv_iconst (v := 1) hx hb d_R_fits_233 (by decide) ?_
              refine lv_goto (tgt := 238) hx hb d_R_fits_234 rfl ?_
              obtain rfl := Option.some.inj h
              exact W.zret hx hb hr rfl (fun t ht hW => ⟨rfl, ht⟩) (fun _ h9 => nomatch h9) d_R_fits_238
        have h := if_f hc2 h
        by_cases hc3 : a1 = 4
        · have h := if_t hc3 h
          refine sw_in (tgt := 141) hx hb d_R_fits_38 hc3 (by decide) (by decide) rfl rfl ?_
          refine lv_iload hx hb d_R_fits_141 (lv_at hl 0 rfl) ?_
          refine lv_if_eq (tgt := 161) hx hb d_R_fits_143 rfl (fun hc => ?_) (fun hc => ?_)
          · have h := if_t hc h
            refine lv_iconst (v := 0) hx hb d_R_fits_161 (by decide) ?_
            obtain rfl := Option.some.inj h
            exact W.zret hx hb hr rfl (fun t ht hW => ⟨rfl, ht⟩) (fun _ h9 => nomatch h9) d_R_fits_162
          · have h := if_f hc h
            refine lv_iload hx hb d_R_fits_146 (lv_at hl 5 rfl) ?_
            refine lv_iconst (v := 0) hx hb d_R_fits_148 (by decide) ?_
            refine lv_bipush (v := 7) hx hb d_R_fits_149 (by decide) ?_
            obtain ⟨r38, hcl, h⟩ := bd_some h
            refine cx_read (va_runS (As := [.int a4, .int 0, .int 7]) (rest := []) ⟨hx, hb, hml, hown, hts⟩ (c_R_in l dC dI q cA σ a4 0 7 _ hcl) (cw_R_72 hts ⟨Nat.le_of_ble_eq_true rfl, Nat.le_of_ble_eq_true rfl⟩) ⟨pxR_B, pxR_U hP hK hD hN hZ hS⟩ rfl rfl hl.1 rfl (lv_room (Nat.le_of_ble_eq_true rfl)) d_R_fits_151 ⟨Nat.zero_le _, Nat.zero_le _⟩) ?_
            refine lv_if_eq (tgt := 161) hx hb d_R_fits_154 rfl (fun hc => ?_) (fun hc => ?_)
            · have h := if_t hc h
              refine lv_iconst (v := 0) hx hb d_R_fits_161 (by decide) ?_
              obtain rfl := Option.some.inj h
              exact W.zret hx hb hr rfl (fun t ht hW => ⟨rfl, ht⟩) (fun _ h9 => nomatch h9) d_R_fits_162
            · have h := if_f hc h
              refine lv_iconst (v := 1) hx hb d_R_fits_157 (by decide) ?_
              refine lv_goto (tgt := 162) hx hb d_R_fits_158 rfl ?_
              obtain rfl := Option.some.inj h
              exact W.zret hx hb hr rfl (fun t ht hW => ⟨rfl, ht⟩) (fun _ h9 => nomatch h9) d_R_fits_162
        have h := if_f hc3 h
        by_cases hc4 : a1 = 5
        · have h := if_t hc4 h
          refine sw_in (tgt := 218) hx hb d_R_fits_38 hc4 (by decide) (by decide) rfl rfl ?_
          refine lv_iload_n hx hb d_R_fits_218 rfl (lv_at hl 2 rfl) ?_
          refine lv_iconst (v := 0) hx hb d_R_fits_219 (by decide) ?_
          refine lv_bipush (v := 13) hx hb d_R_fits_220 (by decide) ?_
          obtain ⟨r39, hcl, h⟩ := bd_some h
          refine cx_read (va_runS (As := [.int a1, .int 0, .int 13]) (rest := []) ⟨hx, hb, hml, hown, hts⟩ (c_R_in l dC dI q cA σ a1 0 13 _ hcl) (cw_R_72 hts ⟨Nat.le_of_ble_eq_true rfl, Nat.le_of_ble_eq_true rfl⟩) ⟨pxR_B, pxR_U hP hK hD hN hZ hS⟩ rfl rfl hl.1 rfl (lv_room (Nat.le_of_ble_eq_true rfl)) d_R_fits_222 ⟨Nat.zero_le _, Nat.zero_le _⟩) ?_
          refine lv_if_eq (tgt := 237) hx hb d_R_fits_225 rfl (fun hc => ?_) (fun hc => ?_)
          · have h := if_t hc h
            refine lv_iconst (v := 0) hx hb d_R_fits_237 (by decide) ?_
            obtain rfl := Option.some.inj h
            exact W.zret hx hb hr rfl (fun t ht hW => ⟨rfl, ht⟩) (fun _ h9 => nomatch h9) d_R_fits_238
          · have h := if_f hc h
            refine lv_iload hx hb d_R_fits_228 (lv_at hl 0 rfl) ?_
            refine lv_if_eq (tgt := 237) hx hb d_R_fits_230 rfl (fun hc => ?_) (fun hc => ?_)
            · have h := if_t hc h
              refine lv_iconst (v := 0) hx hb d_R_fits_237 (by decide) ?_
              obtain rfl := Option.some.inj h
              exact W.zret hx hb hr rfl (fun t ht hW => ⟨rfl, ht⟩) (fun _ h9 => nomatch h9) d_R_fits_238
            · have h := if_f hc h
              refine lv_iconst (v := 1) hx hb d_R_fits_233 (by decide) ?_
              refine lv_goto (tgt := 238) hx hb d_R_fits_234 rfl ?_
              obtain rfl := Option.some.inj h
              exact W.zret hx hb hr rfl (fun t ht hW => ⟨rfl, ht⟩) (fun _ h9 => nomatch h9) d_R_fits_238
        have h := if_f hc4 h
        by_cases hc5 : a1 = 6
        · have h := if_t hc5 h
          refine sw_in (tgt := 218) hx hb d_R_fits_38 hc5 (by decide) (by decide) rfl rfl ?_
          refine lv_iload_n hx hb d_R_fits_218 rfl (lv_at hl 2 rfl) ?_
          refine lv_iconst (v := 0) hx hb d_R_fits_219 (by decide) ?_
          refine lv_bipush (v := 13) hx hb d_R_fits_220 (by decide) ?_
          obtain ⟨r40, hcl, h⟩ := bd_some h
          refine cx_read (va_runS (As := [.int a1, .int 0, .int 13]) (rest := []) ⟨hx, hb, hml, hown, hts⟩ (c_R_in l dC dI q cA σ a1 0 13 _ hcl) (cw_R_72 hts ⟨Nat.le_of_ble_eq_true rfl, Nat.le_of_ble_eq_true rfl⟩) ⟨pxR_B, pxR_U hP hK hD hN hZ hS⟩ rfl rfl hl.1 rfl (lv_room (Nat.le_of_ble_eq_true rfl)) d_R_fits_222 ⟨Nat.zero_le _, Nat.zero_le _⟩) ?_
          refine lv_if_eq (tgt := 237) hx hb d_R_fits_225 rfl (fun hc => ?_) (fun hc => ?_)
          · have h := if_t hc h
            refine lv_iconst (v := 0) hx hb d_R_fits_237 (by decide) ?_
            obtain rfl := Option.some.inj h
            exact W.zret hx hb hr rfl (fun t ht hW => ⟨rfl, ht⟩) (fun _ h9 => nomatch h9) d_R_fits_238
          · have h := if_f hc h
            refine lv_iload hx hb d_R_fits_228 (lv_at hl 0 rfl) ?_
            refine lv_if_eq (tgt := 237) hx hb d_R_fits_230 rfl (fun hc => ?_) (fun hc => ?_)
            · have h := if_t hc h
              refine lv_iconst (v := 0) hx hb d_R_fits_237 (by decide) ?_
              obtain rfl := Option.some.inj h
              exact W.zret hx hb hr rfl (fun t ht hW => ⟨rfl, ht⟩) (fun _ h9 => nomatch h9) d_R_fits_238
            · have h := if_f hc h
              refine lv_iconst (v := 1) hx hb d_R_fits_233 (by decide) ?_
              refine lv_goto (tgt := 238) hx hb d_R_fits_234 rfl ?_
              obtain rfl := Option.some.inj h
              exact W.zret hx hb hr rfl (fun t ht hW => ⟨rfl, ht⟩) (fun _ h9 => nomatch h9) d_R_fits_238
        have h := if_f hc5 h
        by_cases hc6 : a1 = 7
        · have h := if_t hc6 h
          refine sw_in (tgt := 218) hx hb d_R_fits_38 hc6 (by decide) (by decide) rfl rfl ?_
          refine lv_iload_n hx hb d_R_fits_218 rfl (lv_at hl 2 rfl) ?_
          refine lv_iconst (v := 0) hx hb d_R_fits_219 (by decide) ?_
          refine lv_bipush (v := 13) hx hb d_R_fits_220 (by decide) ?_
          obtain ⟨r41, hcl, h⟩ := bd_some h
          refine cx_read (va_runS (As := [.int a1, .int 0, .int 13]) (rest := []) ⟨hx, hb, hml, hown, hts⟩ (c_R_in l dC dI q cA σ a1 0 13 _ hcl) (cw_R_72 hts ⟨Nat.le_of_ble_eq_true rfl, Nat.le_of_ble_eq_true rfl⟩) ⟨pxR_B, pxR_U hP hK hD hN hZ hS⟩ rfl rfl hl.1 rfl (lv_room (Nat.le_of_ble_eq_true rfl)) d_R_fits_222 ⟨Nat.zero_le _, Nat.zero_le _⟩) ?_
          refine lv_if_eq (tgt := 237) hx hb d_R_fits_225 rfl (fun hc => ?_) (fun hc => ?_)
          · have h := if_t hc h
            refine lv_iconst (v := 0) hx hb d_R_fits_237 (by decide) ?_
            obtain rfl := Option.some.inj h
            exact W.zret hx hb hr rfl (fun t ht hW => ⟨rfl, ht⟩) (fun _ h9 => nomatch h9) d_R_fits_238
          · have h := if_f hc h
            refine lv_iload hx hb d_R_fits_228 (lv_at hl 0 rfl) ?_
            refine lv_if_eq (tgt := 237) hx hb d_R_fits_230 rfl (fun hc => ?_) (fun hc => ?_)
            · have h := if_t hc h
              refine lv_iconst (v := 0) hx hb d_R_fits_237 (by decide) ?_
              obtain rfl := Option.some.inj h
              exact W.zret hx hb hr rfl (fun t ht hW => ⟨rfl, ht⟩) (fun _ h9 => nomatch h9) d_R_fits_238
            · have h := if_f hc h
              refine lv_iconst (v := 1) hx hb d_R_fits_233 (by decide) ?_
              refine lv_goto (tgt := 238) hx hb d_R_fits_234 rfl ?_
              obtain rfl := Option.some.inj h
              exact W.zret hx hb hr rfl (fun t ht hW => ⟨rfl, ht⟩) (fun _ h9 => nomatch h9) d_R_fits_238
        have h := if_f hc6 h
        by_cases hc7 : a1 = 8
        · have h := if_t hc7 h
          refine sw_in (tgt := 218) hx hb d_R_fits_38 hc7 (by decide) (by decide) rfl rfl ?_
          refine lv_iload_n hx hb d_R_fits_218 rfl (lv_at hl 2 rfl) ?_
          refine lv_iconst (v := 0) hx hb d_R_fits_219 (by decide) ?_
          refine lv_bipush (v := 13) hx hb d_R_fits_220 (by decide) ?_
          obtain ⟨r42, hcl, h⟩ := bd_some h
          refine cx_read (va_runS (As := [.int a1, .int 0, .int 13]) (rest := []) ⟨hx, hb, hml, hown, hts⟩ (c_R_in l dC dI q cA σ a1 0 13 _ hcl) (cw_R_72 hts ⟨Nat.le_of_ble_eq_true rfl, Nat.le_of_ble_eq_true rfl⟩) ⟨pxR_B, pxR_U hP hK hD hN hZ hS⟩ rfl rfl hl.1 rfl (lv_room (Nat.le_of_ble_eq_true rfl)) d_R_fits_222 ⟨Nat.zero_le _, Nat.zero_le _⟩) ?_
          refine lv_if_eq (tgt := 237) hx hb d_R_fits_225 rfl (fun hc => ?_) (fun hc => ?_)
          · have h := if_t hc h
            refine lv_iconst (v := 0) hx hb d_R_fits_237 (by decide) ?_
            obtain rfl := Option.some.inj h
            exact W.zret hx hb hr rfl (fun t ht hW => ⟨rfl, ht⟩) (fun _ h9 => nomatch h9) d_R_fits_238
          · have h := if_f hc h
            refine lv_iload hx hb d_R_fits_228 (lv_at hl 0 rfl) ?_
            refine lv_if_eq (tgt := 237) hx hb d_R_fits_230 rfl (fun hc => ?_) (fun hc => ?_)
            · have h := if_t hc h
              refine lv_iconst (v := 0) hx hb d_R_fits_237 (by decide) ?_
              obtain rfl := Option.some.inj h
              exact W.zret hx hb hr rfl (fun t ht hW => ⟨rfl, ht⟩) (fun _ h9 => nomatch h9) d_R_fits_238
            · have h := if_f hc h
              refine lv_iconst (v := 1) hx hb d_R_fits_233 (by decide) ?_
              refine lv_goto (tgt := 238) hx hb d_R_fits_234 rfl ?_
              obtain rfl := Option.some.inj h
              exact W.zret hx hb hr rfl (fun t ht hW => ⟨rfl, ht⟩) (fun _ h9 => nomatch h9) d_R_fits_238
        have h := if_f hc7 h
        by_cases hc8 : a1 = 9
        · have h := if_t hc8 h
          refine sw_in (tgt := 163) hx hb d_R_fits_38 hc8 (by decide) (by decide) rfl rfl ?_
          refine lv_iload hx hb d_R_fits_163 (lv_at hl 0 rfl) ?_
          refine lv_if_eq (tgt := 182) hx hb d_R_fits_165 rfl (fun hc => ?_) (fun hc => ?_)
          · have h := if_t hc h
            refine lv_iconst (v := 0) hx hb d_R_fits_182 (by decide) ?_
            obtain rfl := Option.some.inj h
            exact W.zret hx hb hr rfl (fun t ht hW => ⟨rfl, ht⟩) (fun _ h9 => nomatch h9) d_R_fits_183
          · have h := if_f hc h
            refine lv_iload_n hx hb d_R_fits_168 rfl (lv_at hl 4 rfl) ?_
            refine lv_iconst (v := 0) hx hb d_R_fits_169 (by decide) ?_
            refine lv_bipush (v := 7) hx hb d_R_fits_170 (by decide) ?_
            obtain ⟨r43, hcl, h⟩ := bd_some h
            refine cx_read (va_runS (As := [.int a3, .int 0, .int 7]) (rest := []) ⟨hx, hb, hml, hown, hts⟩ (c_R_in l dC dI q cA σ a3 0 7 _ hcl) (cw_R_72 hts ⟨Nat.le_of_ble_eq_true rfl, Nat.le_of_ble_eq_true rfl⟩) ⟨pxR_B, pxR_U hP hK hD hN hZ hS⟩ rfl rfl hl.1 rfl (lv_room (Nat.le_of_ble_eq_true rfl)) d_R_fits_172 ⟨Nat.zero_le _, Nat.zero_le _⟩) ?_
            refine lv_if_eq (tgt := 182) hx hb d_R_fits_175 rfl (fun hc => ?_) (fun hc => ?_)
            · have h := if_t hc h
              refine lv_iconst (v := 0) hx hb d_R_fits_182 (by decide) ?_
              obtain rfl := Option.some.inj h
              exact W.zret hx hb hr rfl (fun t ht hW => ⟨rfl, ht⟩) (fun _ h9 => nomatch h9) d_R_fits_183
            · have h := if_f hc h
              refine lv_iconst (v := 1) hx hb d_R_fits_178 (by decide) ?_
              refine lv_goto (tgt := 183) hx hb d_R_fits_179 rfl ?_
              obtain rfl := Option.some.inj h
              exact W.zret hx hb hr rfl (fun t ht hW => ⟨rfl, ht⟩) (fun _ h9 => nomatch h9) d_R_fits_183
        have h := if_f hc8 h
        by_cases hc9 : a1 = 10
        · have h := if_t hc9 h
          refine sw_in (tgt := 218) hx hb d_R_fits_38 hc9 (by decide) (by decide) rfl rfl ?_
          refine lv_iload_n hx hb d_R_fits_218 rfl (lv_at hl 2 rfl) ?_
          refine lv_iconst (v := 0) hx hb d_R_fits_219 (by decide) ?_
          refine lv_bipush (v := 13) hx hb d_R_fits_220 (by decide) ?_
          obtain ⟨r44, hcl, h⟩ := bd_some h
          refine cx_read (va_runS (As := [.int a1, .int 0, .int 13]) (rest := []) ⟨hx, hb, hml, hown, hts⟩ (c_R_in l dC dI q cA σ a1 0 13 _ hcl) (cw_R_72 hts ⟨Nat.le_of_ble_eq_true rfl, Nat.le_of_ble_eq_true rfl⟩) ⟨pxR_B, pxR_U hP hK hD hN hZ hS⟩ rfl rfl hl.1 rfl (lv_room (Nat.le_of_ble_eq_true rfl)) d_R_fits_222 ⟨Nat.zero_le _, Nat.zero_le _⟩) ?_
          refine lv_if_eq (tgt := 237) hx hb d_R_fits_225 rfl (fun hc => ?_) (fun hc => ?_)
          · have h := if_t hc h
            refine lv_iconst (v := 0) hx hb d_R_fits_237 (by decide) ?_
            obtain rfl := Option.some.inj h
            exact W.zret hx hb hr rfl (fun t ht hW => ⟨rfl, ht⟩) (fun _ h9 => nomatch h9) d_R_fits_238
          · have h := if_f hc h
            refine lv_iload hx hb d_R_fits_228 (lv_at hl 0 rfl) ?_
            refine lv_if_eq (tgt := 237) hx hb d_R_fits_230 rfl (fun hc => ?_) (fun hc => ?_)
            · have h := if_t hc h
              refine lv_iconst (v := 0) hx hb d_R_fits_237 (by decide) ?_
              obtain rfl := Option.some.inj h
              exact W.zret hx hb hr rfl (fun t ht hW => ⟨rfl, ht⟩) (fun _ h9 => nomatch h9) d_R_fits_238
            · have h := if_f hc h
              refine lv_iconst (v := 1) hx hb d_R_fits_233 (by decide) ?_
              refine lv_goto (tgt := 238) hx hb d_R_fits_234 rfl ?_
              obtain rfl := Option.some.inj h
              exact W.zret hx hb hr rfl (fun t ht hW => ⟨rfl, ht⟩) (fun _ h9 => nomatch h9) d_R_fits_238
        have h := if_f hc9 h
        by_cases hc10 : a1 = 11
        · have h := if_t hc10 h
          refine sw_in (tgt := 184) hx hb d_R_fits_38 hc10 (by decide) (by decide) rfl rfl ?_
          refine lv_iload_n hx hb d_R_fits_184 rfl (lv_at hl 3 rfl) ?_
          refine lv_iconst (v := 0) hx hb d_R_fits_185 (by decide) ?_
          refine lv_iconst (v := 5) hx hb d_R_fits_186 (by decide) ?_
          obtain ⟨r45, hcl, h⟩ := bd_some h
          refine cx_read (va_runS (As := [.int a2, .int 0, .int 5]) (rest := []) ⟨hx, hb, hml, hown, hts⟩ (c_R_in l dC dI q cA σ a2 0 5 _ hcl) (cw_R_72 hts ⟨Nat.le_of_ble_eq_true rfl, Nat.le_of_ble_eq_true rfl⟩) ⟨pxR_B, pxR_U hP hK hD hN hZ hS⟩ rfl rfl hl.1 rfl (lv_room (Nat.le_of_ble_eq_true rfl)) d_R_fits_187 ⟨Nat.zero_le _, Nat.zero_le _⟩) ?_
          obtain ⟨hbo, h⟩ := bo_some h
          obtain rfl := Option.some.inj h
          exact W.zret hx hb hr (bo_nar hbo) (fun t ht hW => ⟨rfl, ht⟩) (fun _ h9 => nomatch h9) d_R_fits_190
        have h := if_f hc10 h
        by_cases hc11 : a1 = 12
        · have h := if_t hc11 h
          refine sw_in (tgt := 191) hx hb d_R_fits_38 hc11 (by decide) (by decide) rfl rfl ?_
          refine lv_iload hx hb d_R_fits_191 (lv_at hl 0 rfl) ?_
          refine lv_if_eq (tgt := 209) hx hb d_R_fits_193 rfl (fun hc => ?_) (fun hc => ?_)
          · have h := if_t hc h
            refine lv_iconst (v := 0) hx hb d_R_fits_209 (by decide) ?_
            obtain rfl := Option.some.inj h
            exact W.zret hx hb hr rfl (fun t ht hW => ⟨rfl, ht⟩) (fun _ h9 => nomatch h9) d_R_fits_210
          · have h := if_f hc h
            refine lv_iload_n hx hb d_R_fits_196 rfl (lv_at hl 4 rfl) ?_
            refine lv_iconst (v := 0) hx hb d_R_fits_197 (by decide) ?_
            refine lv_iconst (v := 3) hx hb d_R_fits_198 (by decide) ?_
            obtain ⟨r46, hcl, h⟩ := bd_some h
            refine cx_read (va_runS (As := [.int a3, .int 0, .int 3]) (rest := []) ⟨hx, hb, hml, hown, hts⟩ (c_R_in l dC dI q cA σ a3 0 3 _ hcl) (cw_R_72 hts ⟨Nat.le_of_ble_eq_true rfl, Nat.le_of_ble_eq_true rfl⟩) ⟨pxR_B, pxR_U hP hK hD hN hZ hS⟩ rfl rfl hl.1 rfl (lv_room (Nat.le_of_ble_eq_true rfl)) d_R_fits_199 ⟨Nat.zero_le _, Nat.zero_le _⟩) ?_
            refine lv_if_eq (tgt := 209) hx hb d_R_fits_202 rfl (fun hc => ?_) (fun hc => ?_)
            · have h := if_t hc h
              refine lv_iconst (v := 0) hx hb d_R_fits_209 (by decide) ?_
              obtain rfl := Option.some.inj h
              exact W.zret hx hb hr rfl (fun t ht hW => ⟨rfl, ht⟩) (fun _ h9 => nomatch h9) d_R_fits_210
            · have h := if_f hc h
              refine lv_iconst (v := 1) hx hb d_R_fits_205 (by decide) ?_
              refine lv_goto (tgt := 210) hx hb d_R_fits_206 rfl ?_
              obtain rfl := Option.some.inj h
              exact W.zret hx hb hr rfl (fun t ht hW => ⟨rfl, ht⟩) (fun _ h9 => nomatch h9) d_R_fits_210
        have h := if_f hc11 h
        by_cases hc12 : a1 = 13
        · have h := if_t hc12 h
          refine sw_in (tgt := 211) hx hb d_R_fits_38 hc12 (by decide) (by decide) rfl rfl ?_
          refine lv_iload_n hx hb d_R_fits_211 rfl (lv_at hl 3 rfl) ?_
          refine lv_iconst (v := 0) hx hb d_R_fits_212 (by decide) ?_
          refine lv_iconst (v := 3) hx hb d_R_fits_213 (by decide) ?_
          obtain ⟨r47, hcl, h⟩ := bd_some h
          refine cx_read (va_runS (As := [.int a2, .int 0, .int 3]) (rest := []) ⟨hx, hb, hml, hown, hts⟩ (c_R_in l dC dI q cA σ a2 0 3 _ hcl) (cw_R_72 hts ⟨Nat.le_of_ble_eq_true rfl, Nat.le_of_ble_eq_true rfl⟩) ⟨pxR_B, pxR_U hP hK hD hN hZ hS⟩ rfl rfl hl.1 rfl (lv_room (Nat.le_of_ble_eq_true rfl)) d_R_fits_214 ⟨Nat.zero_le _, Nat.zero_le _⟩) ?_
          obtain ⟨hbo, h⟩ := bo_some h
          obtain rfl := Option.some.inj h
          exact W.zret hx hb hr (bo_nar hbo) (fun t ht hW => ⟨rfl, ht⟩) (fun _ h9 => nomatch h9) d_R_fits_217
        have h := if_f hc12 h
        refine lv_tableOut (tgt := 218) hx hb d_R_fits_38 (by have q0 := lv_neT hc0 (a := 1) (by decide); have q1 := lv_neT hc1 (a := 2) (by decide); have q2 := lv_neT hc2 (a := 3) (by decide); have q3 := lv_neT hc3 (a := 4) (by decide); have q4 := lv_neT hc4 (a := 5) (by decide); have q5 := lv_neT hc5 (a := 6) (by decide); have q6 := lv_neT hc6 (a := 7) (by decide); have q7 := lv_neT hc7 (a := 8) (by decide); have q8 := lv_neT hc8 (a := 9) (by decide); have q9 := lv_neT hc9 (a := 10) (by decide); have q10 := lv_neT hc10 (a := 11) (by decide); have q11 := lv_neT hc11 (a := 12) (by decide); have q12 := lv_neT hc12 (a := 13) (by decide); omega) rfl ?_
        refine lv_iload_n hx hb d_R_fits_218 rfl (lv_at hl 2 rfl) ?_
        refine lv_iconst (v := 0) hx hb d_R_fits_219 (by decide) ?_
        refine lv_bipush (v := 13) hx hb d_R_fits_220 (by decide) ?_
        obtain ⟨r48, hcl, h⟩ := bd_some h
        refine cx_read (va_runS (As := [.int a1, .int 0, .int 13]) (rest := []) ⟨hx, hb, hml, hown, hts⟩ (c_R_in l dC dI q cA σ a1 0 13 _ hcl) (cw_R_72 hts ⟨Nat.le_of_ble_eq_true rfl, Nat.le_of_ble_eq_true rfl⟩) ⟨pxR_B, pxR_U hP hK hD hN hZ hS⟩ rfl rfl hl.1 rfl (lv_room (Nat.le_of_ble_eq_true rfl)) d_R_fits_222 ⟨Nat.zero_le _, Nat.zero_le _⟩) ?_
        refine lv_if_eq (tgt := 237) hx hb d_R_fits_225 rfl (fun hc => ?_) (fun hc => ?_)
        · have h := if_t hc h
          refine lv_iconst (v := 0) hx hb d_R_fits_237 (by decide) ?_
          obtain rfl := Option.some.inj h
          exact W.zret hx hb hr rfl (fun t ht hW => ⟨rfl, ht⟩) (fun _ h9 => nomatch h9) d_R_fits_238
        · have h := if_f hc h
          refine lv_iload hx hb d_R_fits_228 (lv_at hl 0 rfl) ?_
          refine lv_if_eq (tgt := 237) hx hb d_R_fits_230 rfl (fun hc => ?_) (fun hc => ?_)
          · have h := if_t hc h
            refine lv_iconst (v := 0) hx hb d_R_fits_237 (by decide) ?_
            obtain rfl := Option.some.inj h
            exact W.zret hx hb hr rfl (fun t ht hW => ⟨rfl, ht⟩) (fun _ h9 => nomatch h9) d_R_fits_238
          · have h := if_f hc h
            refine lv_iconst (v := 1) hx hb d_R_fits_233 (by decide) ?_
            refine lv_goto (tgt := 238) hx hb d_R_fits_234 rfl ?_
            obtain rfl := Option.some.inj h
            exact W.zret hx hb hr rfl (fun t ht hW => ⟨rfl, ht⟩) (fun _ h9 => nomatch h9) d_R_fits_238
  · have h := if_f hc h
    refine lv_aload_n hx hb d_R_fits_7 rfl (lv_at hl 0 rfl) ?_
    refine lv_iload_n hx hb d_R_fits_8 rfl (lv_at hl 2 rfl) ?_
    obtain ⟨r49, hcl, h⟩ := bd_some h
    refine cx_read (va_runV (As := [.int a2]) (rest := []) ⟨hx, hb, hml, hown, hts⟩ (c_R_isNode l dC dI q cA σ a2 _ hcl) (cw_R_80 hts ⟨Nat.le_of_ble_eq_true rfl, Nat.le_of_ble_eq_true rfl⟩) ⟨pxR_B, va_recv hK hP (ci := 7) (q0 := 0) rfl rfl, pxR_U hP hK hD hN hZ hS⟩ rfl rfl hl.1 rfl (lv_room (Nat.le_of_ble_eq_true rfl)) d_R_fits_9 ⟨Nat.zero_le _, Nat.zero_le _⟩) ?_
    refine lv_if_eq (tgt := 34) hx hb d_R_fits_12 rfl (fun hc => ?_) (fun hc => ?_)
    · have h := if_t hc h
      refine lv_iconst (v := 0) hx hb d_R_fits_34 (by decide) ?_
      refine lv_istore hx hb d_R_fits_35 hl (by decide) rfl (fun ls hl => ?_)
      have hl : lv_has ls 6 [(5, .int 0), (0, .ref (q 0)), (1, .int a1), (2, .int a2), (3, .int a3), (4, .int a4)] := hl
      refine lv_iload_n hx hb d_R_fits_37 rfl (lv_at hl 2 rfl) ?_
      by_cases hc0 : a1 = 1
      · have h := if_t hc0 h
        refine sw_in (tgt := 104) hx hb d_R_fits_38 hc0 (by decide) (by decide) rfl rfl ?_
        refine lv_iload_n hx hb d_R_fits_104 rfl (lv_at hl 3 rfl) ?_
        refine lv_iconst (v := 0) hx hb d_R_fits_105 (by decide) ?_
        refine lv_sipush (v := 255) hx hb d_R_fits_106 (by decide) ?_
        obtain ⟨r50, hcl, h⟩ := bd_some h
        refine cx_read (va_runS (As := [.int a2, .int 0, .int 255]) (rest := []) ⟨hx, hb, hml, hown, hts⟩ (c_R_in l dC dI q cA σ a2 0 255 _ hcl) (cw_R_72 hts ⟨Nat.le_of_ble_eq_true rfl, Nat.le_of_ble_eq_true rfl⟩) ⟨pxR_B, pxR_U hP hK hD hN hZ hS⟩ rfl rfl hl.1 rfl (lv_room (Nat.le_of_ble_eq_true rfl)) d_R_fits_109 ⟨Nat.zero_le _, Nat.zero_le _⟩) ?_
        obtain ⟨hbo, h⟩ := bo_some h
        obtain rfl := Option.some.inj h
        exact W.zret hx hb hr (bo_nar hbo) (fun t ht hW => ⟨rfl, ht⟩) (fun _ h9 => nomatch h9) d_R_fits_112
      have h := if_f hc0 h
      by_cases hc1 : a1 = 2
      · have h := if_t hc1 h
        refine sw_in (tgt := 113) hx hb d_R_fits_38 hc1 (by decide) (by decide) rfl rfl ?_
        refine lv_iload_n hx hb d_R_fits_113 rfl (lv_at hl 3 rfl) ?_
        refine lv_iconst (v := 0) hx hb d_R_fits_114 (by decide) ?_
        refine lv_sipush (v := 255) hx hb d_R_fits_115 (by decide) ?_
        obtain ⟨r51, hcl, h⟩ := bd_some h
        refine cx_read (va_runS (As := [.int a2, .int 0, .int 255]) (rest := []) ⟨hx, hb, hml, hown, hts⟩ (c_R_in l dC dI q cA σ a2 0 255 _ hcl) (cw_R_72 hts ⟨Nat.le_of_ble_eq_true rfl, Nat.le_of_ble_eq_true rfl⟩) ⟨pxR_B, pxR_U hP hK hD hN hZ hS⟩ rfl rfl hl.1 rfl (lv_room (Nat.le_of_ble_eq_true rfl)) d_R_fits_118 ⟨Nat.zero_le _, Nat.zero_le _⟩) ?_
        refine lv_if_eq (tgt := 139) hx hb d_R_fits_121 rfl (fun hc => ?_) (fun hc => ?_)
        · have h := if_t hc h
          refine lv_iconst (v := 0) hx hb d_R_fits_139 (by decide) ?_
          obtain rfl := Option.some.inj h
          exact W.zret hx hb hr rfl (fun t ht hW => ⟨rfl, ht⟩) (fun _ h9 => nomatch h9) d_R_fits_140
        · have h := if_f hc h
          refine lv_iload_n hx hb d_R_fits_124 rfl (lv_at hl 4 rfl) ?_
          refine lv_iload_n hx hb d_R_fits_125 rfl (lv_at hl 3 rfl) ?_
          refine lv_sipush (v := 255) hx hb d_R_fits_126 (by decide) ?_
          obtain ⟨r52, hcl, h⟩ := bd_some h
          refine cx_read (va_runS (As := [.int a3, .int a2, .int 255]) (rest := []) ⟨hx, hb, hml, hown, hts⟩ (c_R_in l dC dI q cA σ a3 a2 255 _ hcl) (cw_R_72 hts ⟨Nat.le_of_ble_eq_true rfl, Nat.le_of_ble_eq_true rfl⟩) ⟨pxR_B, pxR_U hP hK hD hN hZ hS⟩ rfl rfl hl.1 rfl (lv_room (Nat.le_of_ble_eq_true rfl)) d_R_fits_129 ⟨Nat.zero_le _, Nat.zero_le _⟩) ?_
          refine lv_if_eq (tgt := 139) hx hb d_R_fits_132 rfl (fun hc => ?_) (fun hc => ?_)
          · have h := if_t hc h
            refine lv_iconst (v := 0) hx hb d_R_fits_139 (by decide) ?_
            obtain rfl := Option.some.inj h
            exact W.zret hx hb hr rfl (fun t ht hW => ⟨rfl, ht⟩) (fun _ h9 => nomatch h9) d_R_fits_140
          · have h := if_f hc h
            refine lv_iconst (v := 1) hx hb d_R_fits_135 (by decide) ?_
            refine lv_goto (tgt := 140) hx hb d_R_fits_136 rfl ?_
            obtain rfl := Option.some.inj h
            exact W.zret hx hb hr rfl (fun t ht hW => ⟨rfl, ht⟩) (fun _ h9 => nomatch h9) d_R_fits_140
      have h := if_f hc1 h
      by_cases hc2 : a1 = 3
      · have h := if_t hc2 h
        refine sw_in (tgt := 218) hx hb d_R_fits_38 hc2 (by decide) (by decide) rfl rfl ?_
        refine lv_iload_n hx hb d_R_fits_218 rfl (lv_at hl 2 rfl) ?_
        refine lv_iconst (v := 0) hx hb d_R_fits_219 (by decide) ?_
        refine lv_bipush (v := 13) hx hb d_R_fits_220 (by decide) ?_
        obtain ⟨r53, hcl, h⟩ := bd_some h
        refine cx_read (va_runS (As := [.int a1, .int 0, .int 13]) (rest := []) ⟨hx, hb, hml, hown, hts⟩ (c_R_in l dC dI q cA σ a1 0 13 _ hcl) (cw_R_72 hts ⟨Nat.le_of_ble_eq_true rfl, Nat.le_of_ble_eq_true rfl⟩) ⟨pxR_B, pxR_U hP hK hD hN hZ hS⟩ rfl rfl hl.1 rfl (lv_room (Nat.le_of_ble_eq_true rfl)) d_R_fits_222 ⟨Nat.zero_le _, Nat.zero_le _⟩) ?_
        refine lv_if_eq (tgt := 237) hx hb d_R_fits_225 rfl (fun hc => ?_) (fun hc => ?_)
        · have h := if_t hc h
          refine lv_iconst (v := 0) hx hb d_R_fits_237 (by decide) ?_
          obtain rfl := Option.some.inj h
          exact W.zret hx hb hr rfl (fun t ht hW => ⟨rfl, ht⟩) (fun _ h9 => nomatch h9) d_R_fits_238
        · have h := if_f hc h
          refine lv_iload hx hb d_R_fits_228 (lv_at hl 0 rfl) ?_
          refine lv_if_eq (tgt := 237) hx hb d_R_fits_230 rfl (fun hc => ?_) (fun hc => ?_)
          · have h := if_t hc h
            refine lv_iconst (v := 0) hx hb d_R_fits_237 (by decide) ?_
            obtain rfl := Option.some.inj h
            exact W.zret hx hb hr rfl (fun t ht hW => ⟨rfl, ht⟩) (fun _ h9 => nomatch h9) d_R_fits_238
          · have h := if_f hc h
            refine lv_iconst (v := 1) hx hb d_R_fits_233 (by decide) ?_
            refine lv_goto (tgt := 238) hx hb d_R_fits_234 rfl ?_
            obtain rfl := Option.some.inj h
            exact W.zret hx hb hr rfl (fun t ht hW => ⟨rfl, ht⟩) (fun _ h9 => nomatch h9) d_R_fits_238
      have h := if_f hc2 h
      by_cases hc3 : a1 = 4
      · have h := if_t hc3 h
        refine sw_in (tgt := 141) hx hb d_R_fits_38 hc3 (by decide) (by decide) rfl rfl ?_
        refine lv_iload hx hb d_R_fits_141 (lv_at hl 0 rfl) ?_
        refine lv_if_eq (tgt := 161) hx hb d_R_fits_143 rfl (fun hc => ?_) (fun hc => ?_)
        · have h := if_t hc h
          refine lv_iconst (v := 0) hx hb d_R_fits_161 (by decide) ?_
          obtain rfl := Option.some.inj h
          exact W.zret hx hb hr rfl (fun t ht hW => ⟨rfl, ht⟩) (fun _ h9 => nomatch h9) d_R_fits_162
        · have h := if_f hc h
          refine lv_iload hx hb d_R_fits_146 (lv_at hl 5 rfl) ?_
          refine lv_iconst (v := 0) hx hb d_R_fits_148 (by decide) ?_
          refine lv_bipush (v := 7) hx hb d_R_fits_149 (by decide) ?_
          obtain ⟨r54, hcl, h⟩ := bd_some h
          refine cx_read (va_runS (As := [.int a4, .int 0, .int 7]) (rest := []) ⟨hx, hb, hml, hown, hts⟩ (c_R_in l dC dI q cA σ a4 0 7 _ hcl) (cw_R_72 hts ⟨Nat.le_of_ble_eq_true rfl, Nat.le_of_ble_eq_true rfl⟩) ⟨pxR_B, pxR_U hP hK hD hN hZ hS⟩ rfl rfl hl.1 rfl (lv_room (Nat.le_of_ble_eq_true rfl)) d_R_fits_151 ⟨Nat.zero_le _, Nat.zero_le _⟩) ?_
          refine lv_if_eq (tgt := 161) hx hb d_R_fits_154 rfl (fun hc => ?_) (fun hc => ?_)
          · have h := if_t hc h
            refine lv_iconst (v := 0) hx hb d_R_fits_161 (by decide) ?_
            obtain rfl := Option.some.inj h
            exact W.zret hx hb hr rfl (fun t ht hW => ⟨rfl, ht⟩) (fun _ h9 => nomatch h9) d_R_fits_162
          · have h := if_f hc h
            refine lv_iconst (v := 1) hx hb d_R_fits_157 (by decide) ?_
            refine lv_goto (tgt := 162) hx hb d_R_fits_158 rfl ?_
            obtain rfl := Option.some.inj h
            exact W.zret hx hb hr rfl (fun t ht hW => ⟨rfl, ht⟩) (fun _ h9 => nomatch h9) d_R_fits_162
      have h := if_f hc3 h
      by_cases hc4 : a1 = 5
      · have h := if_t hc4 h
        refine sw_in (tgt := 218) hx hb d_R_fits_38 hc4 (by decide) (by decide) rfl rfl ?_
        refine lv_iload_n hx hb d_R_fits_218 rfl (lv_at hl 2 rfl) ?_
        refine lv_iconst (v := 0) hx hb d_R_fits_219 (by decide) ?_
        refine lv_bipush (v := 13) hx hb d_R_fits_220 (by decide) ?_
        obtain ⟨r55, hcl, h⟩ := bd_some h
        refine cx_read (va_runS (As := [.int a1, .int 0, .int 13]) (rest := []) ⟨hx, hb, hml, hown, hts⟩ (c_R_in l dC dI q cA σ a1 0 13 _ hcl) (cw_R_72 hts ⟨Nat.le_of_ble_eq_true rfl, Nat.le_of_ble_eq_true rfl⟩) ⟨pxR_B, pxR_U hP hK hD hN hZ hS⟩ rfl rfl hl.1 rfl (lv_room (Nat.le_of_ble_eq_true rfl)) d_R_fits_222 ⟨Nat.zero_le _, Nat.zero_le _⟩) ?_
        refine lv_if_eq (tgt := 237) hx hb d_R_fits_225 rfl (fun hc => ?_) (fun hc => ?_)
        · have h := if_t hc h
          refine lv_iconst (v := 0) hx hb d_R_fits_237 (by decide) ?_
          obtain rfl := Option.some.inj h
          exact W.zret hx hb hr rfl (fun t ht hW => ⟨rfl, ht⟩) (fun _ h9 => nomatch h9) d_R_fits_238
        · have h := if_f hc h
          refine lv_iload hx hb d_R_fits_228 (lv_at hl 0 rfl) ?_
          refine lv_if_eq (tgt := 237) hx hb d_R_fits_230 rfl (fun hc => ?_) (fun hc => ?_)
          · have h := if_t hc h
            refine lv_iconst (v := 0) hx hb d_R_fits_237 (by decide) ?_
            obtain rfl := Option.some.inj h
            exact W.zret hx hb hr rfl (fun t ht hW => ⟨rfl, ht⟩) (fun _ h9 => nomatch h9) d_R_fits_238
          · have h := if_f hc h
            refine lv_iconst (v := 1) hx hb d_R_fits_233 (by decide) ?_
            refine lv_goto (tgt := 238) hx hb d_R_fits_234 rfl ?_
            obtain rfl := Option.some.inj h
            exact W.zret hx hb hr rfl (fun t ht hW => ⟨rfl, ht⟩) (fun _ h9 => nomatch h9) d_R_fits_238
      have h := if_f hc4 h
      by_cases hc5 : a1 = 6
      · have h := if_t hc5 h
        refine sw_in (tgt := 218) hx hb d_R_fits_38 hc5 (by decide) (by decide) rfl rfl ?_
        refine lv_iload_n hx hb d_R_fits_218 rfl (lv_at hl 2 rfl) ?_
        refine lv_iconst (v := 0) hx hb d_R_fits_219 (by decide) ?_
        refine lv_bipush (v := 13) hx hb d_R_fits_220 (by decide) ?_
        obtain ⟨r56, hcl, h⟩ := bd_some h
        refine cx_read (va_runS (As := [.int a1, .int 0, .int 13]) (rest := []) ⟨hx, hb, hml, hown, hts⟩ (c_R_in l dC dI q cA σ a1 0 13 _ hcl) (cw_R_72 hts ⟨Nat.le_of_ble_eq_true rfl, Nat.le_of_ble_eq_true rfl⟩) ⟨pxR_B, pxR_U hP hK hD hN hZ hS⟩ rfl rfl hl.1 rfl (lv_room (Nat.le_of_ble_eq_true rfl)) d_R_fits_222 ⟨Nat.zero_le _, Nat.zero_le _⟩) ?_
        refine lv_if_eq (tgt := 237) hx hb d_R_fits_225 rfl (fun hc => ?_) (fun hc => ?_)
        · have h := if_t hc h
          refine lv_iconst (v := 0) hx hb d_R_fits_237 (by decide) ?_
          obtain rfl := Option.some.inj h
          exact W.zret hx hb hr rfl (fun t ht hW => ⟨rfl, ht⟩) (fun _ h9 => nomatch h9) d_R_fits_238
        · have h := if_f hc h
          refine lv_iload hx hb d_R_fits_228 (lv_at hl 0 rfl) ?_
          refine lv_if_eq (tgt := 237) hx hb d_R_fits_230 rfl (fun hc => ?_) (fun hc => ?_)
          · have h := if_t hc h
            refine lv_iconst (v := 0) hx hb d_R_fits_237 (by decide) ?_
            obtain rfl := Option.some.inj h
            exact W.zret hx hb hr rfl (fun t ht hW => ⟨rfl, ht⟩) (fun _ h9 => nomatch h9) d_R_fits_238
          · have h := if_f hc h
            refine lv_iconst (v := 1) hx hb d_R_fits_233 (by decide) ?_
            refine lv_goto (tgt := 238) hx hb d_R_fits_234 rfl ?_
            obtain rfl := Option.some.inj h
            exact W.zret hx hb hr rfl (fun t ht hW => ⟨rfl, ht⟩) (fun _ h9 => nomatch h9) d_R_fits_238
      have h := if_f hc5 h
      by_cases hc6 : a1 = 7
      · have h := if_t hc6 h
        refine sw_in (tgt := 218) hx hb d_R_fits_38 hc6 (by decide) (by decide) rfl rfl ?_
        refine lv_iload_n hx hb d_R_fits_218 rfl (lv_at hl 2 rfl) ?_
        refine lv_iconst (v := 0) hx hb d_R_fits_219 (by decide) ?_
        refine lv_bipush (v := 13) hx hb d_R_fits_220 (by decide) ?_
        obtain ⟨r57, hcl, h⟩ := bd_some h
        refine cx_read (va_runS (As := [.int a1, .int 0, .int 13]) (rest := []) ⟨hx, hb, hml, hown, hts⟩ (c_R_in l dC dI q cA σ a1 0 13 _ hcl) (cw_R_72 hts ⟨Nat.le_of_ble_eq_true rfl, Nat.le_of_ble_eq_true rfl⟩) ⟨pxR_B, pxR_U hP hK hD hN hZ hS⟩ rfl rfl hl.1 rfl (lv_room (Nat.le_of_ble_eq_true rfl)) d_R_fits_222 ⟨Nat.zero_le _, Nat.zero_le _⟩) ?_
        refine lv_if_eq (tgt := 237) hx hb d_R_fits_225 rfl (fun hc => ?_) (fun hc => ?_)
        · have h := if_t hc h
          refine lv_iconst (v := 0) hx hb d_R_fits_237 (by decide) ?_
          obtain rfl := Option.some.inj h
          exact W.zret hx hb hr rfl (fun t ht hW => ⟨rfl, ht⟩) (fun _ h9 => nomatch h9) d_R_fits_238
        · have h := if_f hc h
          refine lv_iload hx hb d_R_fits_228 (lv_at hl 0 rfl) ?_
          refine lv_if_eq (tgt := 237) hx hb d_R_fits_230 rfl (fun hc => ?_) (fun hc => ?_)
          · have h := if_t hc h
            refine lv_iconst (v := 0) hx hb d_R_fits_237 (by decide) ?_
            obtain rfl := Option.some.inj h
            exact W.zret hx hb hr rfl (fun t ht hW => ⟨rfl, ht⟩) (fun _ h9 => nomatch h9) d_R_fits_238
          · have h := if_f hc h
            refine lv_iconst (v := 1) hx hb d_R_fits_233 (by decide) ?_
            refine lv_goto (tgt := 238) hx hb d_R_fits_234 rfl ?_
            obtain rfl := Option.some.inj h
            exact W.zret hx hb hr rfl (fun t ht hW => ⟨rfl, ht⟩) (fun _ h9 => nomatch h9) d_R_fits_238
      have h := if_f hc6 h
      by_cases hc7 : a1 = 8
      · have h := if_t hc7 h
        refine sw_in (tgt := 218) hx hb d_R_fits_38 hc7 (by decide) (by decide) rfl rfl ?_
        refine lv_iload_n hx hb d_R_fits_218 rfl (lv_at hl 2 rfl) ?_
        refine lv_iconst (v := 0) hx hb d_R_fits_219 (by decide) ?_
        refine lv_bipush (v := 13) hx hb d_R_fits_220 (by decide) ?_
        obtain ⟨r58, hcl, h⟩ := bd_some h
        refine cx_read (va_runS (As := [.int a1, .int 0, .int 13]) (rest := []) ⟨hx, hb, hml, hown, hts⟩ (c_R_in l dC dI q cA σ a1 0 13 _ hcl) (cw_R_72 hts ⟨Nat.le_of_ble_eq_true rfl, Nat.le_of_ble_eq_true rfl⟩) ⟨pxR_B, pxR_U hP hK hD hN hZ hS⟩ rfl rfl hl.1 rfl (lv_room (Nat.le_of_ble_eq_true rfl)) d_R_fits_222 ⟨Nat.zero_le _, Nat.zero_le _⟩) ?_
        refine lv_if_eq (tgt := 237) hx hb d_R_fits_225 rfl (fun hc => ?_) (fun hc => ?_)
        · have h := if_t hc h
          refine lv_iconst (v := 0) hx hb d_R_fits_237 (by decide) ?_
          obtain rfl := Option.some.inj h
          exact W.zret hx hb hr rfl (fun t ht hW => ⟨rfl, ht⟩) (fun _ h9 => nomatch h9) d_R_fits_238
        · have h := if_f hc h
          refine lv_iload hx hb d_R_fits_228 (lv_at hl 0 rfl) ?_
          refine lv_if_eq (tgt := 237) hx hb d_R_fits_230 rfl (fun hc => ?_) (fun hc => ?_)
          · have h := if_t hc h
            refine lv_iconst (v := 0) hx hb d_R_fits_237 (by decide) ?_
            obtain rfl := Option.some.inj h
            exact W.zret hx hb hr rfl (fun t ht hW => ⟨rfl, ht⟩) (fun _ h9 => nomatch h9) d_R_fits_238
          · have h := if_f hc h
            refine lv_iconst (v := 1) hx hb d_R_fits_233 (by decide) ?_
            refine lv_goto (tgt := 238) hx hb d_R_fits_234 rfl ?_
            obtain rfl := Option.some.inj h
            exact W.zret hx hb hr rfl (fun t ht hW => ⟨rfl, ht⟩) (fun _ h9 => nomatch h9) d_R_fits_238
      have h := if_f hc7 h
      by_cases hc8 : a1 = 9
      · have h := if_t hc8 h
        refine sw_in (tgt := 163) hx hb d_R_fits_38 hc8 (by decide) (by decide) rfl rfl ?_
        refine lv_iload hx hb d_R_fits_163 (lv_at hl 0 rfl) ?_
        refine lv_if_eq (tgt := 182) hx hb d_R_fits_165 rfl (fun hc => ?_) (fun hc => ?_)
        · have h := if_t hc h
          refine lv_iconst (v := 0) hx hb d_R_fits_182 (by decide) ?_
          obtain rfl := Option.some.inj h
          exact W.zret hx hb hr rfl (fun t ht hW => ⟨rfl, ht⟩) (fun _ h9 => nomatch h9) d_R_fits_183
        · have h := if_f hc h
          refine lv_iload_n hx hb d_R_fits_168 rfl (lv_at hl 4 rfl) ?_
          refine lv_iconst (v := 0) hx hb d_R_fits_169 (by decide) ?_
          refine lv_bipush (v := 7) hx hb d_R_fits_170 (by decide) ?_
          obtain ⟨r59, hcl, h⟩ := bd_some h
          refine cx_read (va_runS (As := [.int a3, .int 0, .int 7]) (rest := []) ⟨hx, hb, hml, hown, hts⟩ (c_R_in l dC dI q cA σ a3 0 7 _ hcl) (cw_R_72 hts ⟨Nat.le_of_ble_eq_true rfl, Nat.le_of_ble_eq_true rfl⟩) ⟨pxR_B, pxR_U hP hK hD hN hZ hS⟩ rfl rfl hl.1 rfl (lv_room (Nat.le_of_ble_eq_true rfl)) d_R_fits_172 ⟨Nat.zero_le _, Nat.zero_le _⟩) ?_
          refine lv_if_eq (tgt := 182) hx hb d_R_fits_175 rfl (fun hc => ?_) (fun hc => ?_)
          · have h := if_t hc h
            refine lv_iconst (v := 0) hx hb d_R_fits_182 (by decide) ?_
            obtain rfl := Option.some.inj h
            exact W.zret hx hb hr rfl (fun t ht hW => ⟨rfl, ht⟩) (fun _ h9 => nomatch h9) d_R_fits_183
          · have h := if_f hc h
            refine lv_iconst (v := 1) hx hb d_R_fits_178 (by decide) ?_
            refine lv_goto (tgt := 183) hx hb d_R_fits_179 rfl ?_
            obtain rfl := Option.some.inj h
            exact W.zret hx hb hr rfl (fun t ht hW => ⟨rfl, ht⟩) (fun _ h9 => nomatch h9) d_R_fits_183
      have h := if_f hc8 h
      by_cases hc9 : a1 = 10
      · have h := if_t hc9 h
        refine sw_in (tgt := 218) hx hb d_R_fits_38 hc9 (by decide) (by decide) rfl rfl ?_
        refine lv_iload_n hx hb d_R_fits_218 rfl (lv_at hl 2 rfl) ?_
        refine lv_iconst (v := 0) hx hb d_R_fits_219 (by decide) ?_
        refine lv_bipush (v := 13) hx hb d_R_fits_220 (by decide) ?_
        obtain ⟨r60, hcl, h⟩ := bd_some h
        refine cx_read (va_runS (As := [.int a1, .int 0, .int 13]) (rest := []) ⟨hx, hb, hml, hown, hts⟩ (c_R_in l dC dI q cA σ a1 0 13 _ hcl) (cw_R_72 hts ⟨Nat.le_of_ble_eq_true rfl, Nat.le_of_ble_eq_true rfl⟩) ⟨pxR_B, pxR_U hP hK hD hN hZ hS⟩ rfl rfl hl.1 rfl (lv_room (Nat.le_of_ble_eq_true rfl)) d_R_fits_222 ⟨Nat.zero_le _, Nat.zero_le _⟩) ?_
        refine lv_if_eq (tgt := 237) hx hb d_R_fits_225 rfl (fun hc => ?_) (fun hc => ?_)
        · have h := if_t hc h
          refine lv_iconst (v := 0) hx hb d_R_fits_237 (by decide) ?_
          obtain rfl := Option.some.inj h
          exact W.zret hx hb hr rfl (fun t ht hW => ⟨rfl, ht⟩) (fun _ h9 => nomatch h9) d_R_fits_238
        · have h := if_f hc h
          refine lv_iload hx hb d_R_fits_228 (lv_at hl 0 rfl) ?_
          refine lv_if_eq (tgt := 237) hx hb d_R_fits_230 rfl (fun hc => ?_) (fun hc => ?_)
          · have h := if_t hc h
            refine lv_iconst (v := 0) hx hb d_R_fits_237 (by decide) ?_
            obtain rfl := Option.some.inj h
            exact W.zret hx hb hr rfl (fun t ht hW => ⟨rfl, ht⟩) (fun _ h9 => nomatch h9) d_R_fits_238
          · have h := if_f hc h
            refine lv_iconst (v := 1) hx hb d_R_fits_233 (by decide) ?_
            refine lv_goto (tgt := 238) hx hb d_R_fits_234 rfl ?_
            obtain rfl := Option.some.inj h
            exact W.zret hx hb hr rfl (fun t ht hW => ⟨rfl, ht⟩) (fun _ h9 => nomatch h9) d_R_fits_238
      have h := if_f hc9 h
      by_cases hc10 : a1 = 11
      · have h := if_t hc10 h
        refine sw_in (tgt := 184) hx hb d_R_fits_38 hc10 (by decide) (by decide) rfl rfl ?_
        refine lv_iload_n hx hb d_R_fits_184 rfl (lv_at hl 3 rfl) ?_
        refine lv_iconst (v := 0) hx hb d_R_fits_185 (by decide) ?_
        refine lv_iconst (v := 5) hx hb d_R_fits_186 (by decide) ?_
        obtain ⟨r61, hcl, h⟩ := bd_some h
        refine cx_read (va_runS (As := [.int a2, .int 0, .int 5]) (rest := []) ⟨hx, hb, hml, hown, hts⟩ (c_R_in l dC dI q cA σ a2 0 5 _ hcl) (cw_R_72 hts ⟨Nat.le_of_ble_eq_true rfl, Nat.le_of_ble_eq_true rfl⟩) ⟨pxR_B, pxR_U hP hK hD hN hZ hS⟩ rfl rfl hl.1 rfl (lv_room (Nat.le_of_ble_eq_true rfl)) d_R_fits_187 ⟨Nat.zero_le _, Nat.zero_le _⟩) ?_
        obtain ⟨hbo, h⟩ := bo_some h
        obtain rfl := Option.some.inj h
        exact W.zret hx hb hr (bo_nar hbo) (fun t ht hW => ⟨rfl, ht⟩) (fun _ h9 => nomatch h9) d_R_fits_190
      have h := if_f hc10 h
      by_cases hc11 : a1 = 12
      · have h := if_t hc11 h
        refine sw_in (tgt := 191) hx hb d_R_fits_38 hc11 (by decide) (by decide) rfl rfl ?_
        refine lv_iload hx hb d_R_fits_191 (lv_at hl 0 rfl) ?_
        refine lv_if_eq (tgt := 209) hx hb d_R_fits_193 rfl (fun hc => ?_) (fun hc => ?_)
        · have h := if_t hc h
          refine lv_iconst (v := 0) hx hb d_R_fits_209 (by decide) ?_
          obtain rfl := Option.some.inj h
          exact W.zret hx hb hr rfl (fun t ht hW => ⟨rfl, ht⟩) (fun _ h9 => nomatch h9) d_R_fits_210
        · have h := if_f hc h
          refine lv_iload_n hx hb d_R_fits_196 rfl (lv_at hl 4 rfl) ?_
          refine lv_iconst (v := 0) hx hb d_R_fits_197 (by decide) ?_
          refine lv_iconst (v := 3) hx hb d_R_fits_198 (by decide) ?_
          obtain ⟨r62, hcl, h⟩ := bd_some h
          refine cx_read (va_runS (As := [.int a3, .int 0, .int 3]) (rest := []) ⟨hx, hb, hml, hown, hts⟩ (c_R_in l dC dI q cA σ a3 0 3 _ hcl) (cw_R_72 hts ⟨Nat.le_of_ble_eq_true rfl, Nat.le_of_ble_eq_true rfl⟩) ⟨pxR_B, pxR_U hP hK hD hN hZ hS⟩ rfl rfl hl.1 rfl (lv_room (Nat.le_of_ble_eq_true rfl)) d_R_fits_199 ⟨Nat.zero_le _, Nat.zero_le _⟩) ?_
          refine lv_if_eq (tgt := 209) hx hb d_R_fits_202 rfl (fun hc => ?_) (fun hc => ?_)
          · have h := if_t hc h
            refine lv_iconst (v := 0) hx hb d_R_fits_209 (by decide) ?_
            obtain rfl := Option.some.inj h
            exact W.zret hx hb hr rfl (fun t ht hW => ⟨rfl, ht⟩) (fun _ h9 => nomatch h9) d_R_fits_210
          · have h := if_f hc h
            refine lv_iconst (v := 1) hx hb d_R_fits_205 (by decide) ?_
            refine lv_goto (tgt := 210) hx hb d_R_fits_206 rfl ?_
            obtain rfl := Option.some.inj h
            exact W.zret hx hb hr rfl (fun t ht hW => ⟨rfl, ht⟩) (fun _ h9 => nomatch h9) d_R_fits_210
      have h := if_f hc11 h
      by_cases hc12 : a1 = 13
      · have h := if_t hc12 h
        refine sw_in (tgt := 211) hx hb d_R_fits_38 hc12 (by decide) (by decide) rfl rfl ?_
        refine lv_iload_n hx hb d_R_fits_211 rfl (lv_at hl 3 rfl) ?_
        refine lv_iconst (v := 0) hx hb d_R_fits_212 (by decide) ?_
        refine lv_iconst (v := 3) hx hb d_R_fits_213 (by decide) ?_
        obtain ⟨r63, hcl, h⟩ := bd_some h
        refine cx_read (va_runS (As := [.int a2, .int 0, .int 3]) (rest := []) ⟨hx, hb, hml, hown, hts⟩ (c_R_in l dC dI q cA σ a2 0 3 _ hcl) (cw_R_72 hts ⟨Nat.le_of_ble_eq_true rfl, Nat.le_of_ble_eq_true rfl⟩) ⟨pxR_B, pxR_U hP hK hD hN hZ hS⟩ rfl rfl hl.1 rfl (lv_room (Nat.le_of_ble_eq_true rfl)) d_R_fits_214 ⟨Nat.zero_le _, Nat.zero_le _⟩) ?_
        obtain ⟨hbo, h⟩ := bo_some h
        obtain rfl := Option.some.inj h
        exact W.zret hx hb hr (bo_nar hbo) (fun t ht hW => ⟨rfl, ht⟩) (fun _ h9 => nomatch h9) d_R_fits_217
      have h := if_f hc12 h
      refine lv_tableOut (tgt := 218) hx hb d_R_fits_38 (by have q0 := lv_neT hc0 (a := 1) (by decide); have q1 := lv_neT hc1 (a := 2) (by decide); have q2 := lv_neT hc2 (a := 3) (by decide); have q3 := lv_neT hc3 (a := 4) (by decide); have q4 := lv_neT hc4 (a := 5) (by decide); have q5 := lv_neT hc5 (a := 6) (by decide); have q6 := lv_neT hc6 (a := 7) (by decide); have q7 := lv_neT hc7 (a := 8) (by decide); have q8 := lv_neT hc8 (a := 9) (by decide); have q9 := lv_neT hc9 (a := 10) (by decide); have q10 := lv_neT hc10 (a := 11) (by decide); have q11 := lv_neT hc11 (a := 12) (by decide); have q12 := lv_neT hc12 (a := 13) (by decide); omega) rfl ?_
      refine lv_iload_n hx hb d_R_fits_218 rfl (lv_at hl 2 rfl) ?_
      refine lv_iconst (v := 0) hx hb d_R_fits_219 (by decide) ?_
      refine lv_bipush (v := 13) hx hb d_R_fits_220 (by decide) ?_
      obtain ⟨r64, hcl, h⟩ := bd_some h
      refine cx_read (va_runS (As := [.int a1, .int 0, .int 13]) (rest := []) ⟨hx, hb, hml, hown, hts⟩ (c_R_in l dC dI q cA σ a1 0 13 _ hcl) (cw_R_72 hts ⟨Nat.le_of_ble_eq_true rfl, Nat.le_of_ble_eq_true rfl⟩) ⟨pxR_B, pxR_U hP hK hD hN hZ hS⟩ rfl rfl hl.1 rfl (lv_room (Nat.le_of_ble_eq_true rfl)) d_R_fits_222 ⟨Nat.zero_le _, Nat.zero_le _⟩) ?_
      refine lv_if_eq (tgt := 237) hx hb d_R_fits_225 rfl (fun hc => ?_) (fun hc => ?_)
      · have h := if_t hc h
        refine lv_iconst (v := 0) hx hb d_R_fits_237 (by decide) ?_
        obtain rfl := Option.some.inj h
        exact W.zret hx hb hr rfl (fun t ht hW => ⟨rfl, ht⟩) (fun _ h9 => nomatch h9) d_R_fits_238
      · have h := if_f hc h
        refine lv_iload hx hb d_R_fits_228 (lv_at hl 0 rfl) ?_
        refine lv_if_eq (tgt := 237) hx hb d_R_fits_230 rfl (fun hc => ?_) (fun hc => ?_)
        · have h := if_t hc h
          refine lv_iconst (v := 0) hx hb d_R_fits_237 (by decide) ?_
          obtain rfl := Option.some.inj h
          exact W.zret hx hb hr rfl (fun t ht hW => ⟨rfl, ht⟩) (fun _ h9 => nomatch h9) d_R_fits_238
        · have h := if_f hc h
          refine lv_iconst (v := 1) hx hb d_R_fits_233 (by decide) ?_
          refine lv_goto (tgt := 238) hx hb d_R_fits_234 rfl ?_
          obtain rfl := Option.some.inj h
          exact W.zret hx hb hr rfl (fun t ht hW => ⟨rfl, ht⟩) (fun _ h9 => nomatch h9) d_R_fits_238
    · have h := if_f hc h
      refine lv_iload_n hx hb d_R_fits_15 rfl (lv_at hl 1 rfl) ?_
      obtain ⟨r65, hcl, h⟩ := bd_some h
      refine cx_read (va_runS (As := [.int a1]) (rest := []) ⟨hx, hb, hml, hown, hts⟩ (c_R_hasSecond l dC dI q cA σ a1 _ hcl) (cw_R_83 hts ⟨Nat.le_of_ble_eq_true rfl, Nat.le_of_ble_eq_true rfl⟩) ⟨pxR_B, pxR_U hP hK hD hN hZ hS⟩ rfl rfl hl.1 rfl (lv_room (Nat.le_of_ble_eq_true rfl)) d_R_fits_16 ⟨Nat.zero_le _, Nat.zero_le _⟩) ?_
      refine lv_if_eq (tgt := 30) hx hb d_R_fits_19 rfl (fun hc => ?_) (fun hc => ?_)
      · have h := if_t hc h
        refine lv_iconst (v := 1) hx hb d_R_fits_30 (by decide) ?_
        refine lv_goto (tgt := 35) hx hb d_R_fits_31 rfl ?_
        refine lv_istore hx hb d_R_fits_35 hl (by decide) rfl (fun ls hl => ?_)
        have hl : lv_has ls 6 [(5, .int 1), (0, .ref (q 0)), (1, .int a1), (2, .int a2), (3, .int a3), (4, .int a4)] := hl
        refine lv_iload_n hx hb d_R_fits_37 rfl (lv_at hl 2 rfl) ?_
        by_cases hc0 : a1 = 1
        · have h := if_t hc0 h
          refine sw_in (tgt := 104) hx hb d_R_fits_38 hc0 (by decide) (by decide) rfl rfl ?_
          refine lv_iload_n hx hb d_R_fits_104 rfl (lv_at hl 3 rfl) ?_
          refine lv_iconst (v := 0) hx hb d_R_fits_105 (by decide) ?_
          refine lv_sipush (v := 255) hx hb d_R_fits_106 (by decide) ?_
          obtain ⟨r66, hcl, h⟩ := bd_some h
          refine cx_read (va_runS (As := [.int a2, .int 0, .int 255]) (rest := []) ⟨hx, hb, hml, hown, hts⟩ (c_R_in l dC dI q cA σ a2 0 255 _ hcl) (cw_R_72 hts ⟨Nat.le_of_ble_eq_true rfl, Nat.le_of_ble_eq_true rfl⟩) ⟨pxR_B, pxR_U hP hK hD hN hZ hS⟩ rfl rfl hl.1 rfl (lv_room (Nat.le_of_ble_eq_true rfl)) d_R_fits_109 ⟨Nat.zero_le _, Nat.zero_le _⟩) ?_
          obtain ⟨hbo, h⟩ := bo_some h
          obtain rfl := Option.some.inj h
          exact W.zret hx hb hr (bo_nar hbo) (fun t ht hW => ⟨rfl, ht⟩) (fun _ h9 => nomatch h9) d_R_fits_112
        have h := if_f hc0 h
        by_cases hc1 : a1 = 2
        · have h := if_t hc1 h
          refine sw_in (tgt := 113) hx hb d_R_fits_38 hc1 (by decide) (by decide) rfl rfl ?_
          refine lv_iload_n hx hb d_R_fits_113 rfl (lv_at hl 3 rfl) ?_
          refine lv_iconst (v := 0) hx hb d_R_fits_114 (by decide) ?_
          refine lv_sipush (v := 255) hx hb d_R_fits_115 (by decide) ?_
          obtain ⟨r67, hcl, h⟩ := bd_some h
          refine cx_read (va_runS (As := [.int a2, .int 0, .int 255]) (rest := []) ⟨hx, hb, hml, hown, hts⟩ (c_R_in l dC dI q cA σ a2 0 255 _ hcl) (cw_R_72 hts ⟨Nat.le_of_ble_eq_true rfl, Nat.le_of_ble_eq_true rfl⟩) ⟨pxR_B, pxR_U hP hK hD hN hZ hS⟩ rfl rfl hl.1 rfl (lv_room (Nat.le_of_ble_eq_true rfl)) d_R_fits_118 ⟨Nat.zero_le _, Nat.zero_le _⟩) ?_
          refine lv_if_eq (tgt := 139) hx hb d_R_fits_121 rfl (fun hc => ?_) (fun hc => ?_)
          · have h := if_t hc h
            refine lv_iconst (v := 0) hx hb d_R_fits_139 (by decide) ?_
            obtain rfl := Option.some.inj h
            exact W.zret hx hb hr rfl (fun t ht hW => ⟨rfl, ht⟩) (fun _ h9 => nomatch h9) d_R_fits_140
          · have h := if_f hc h
            refine lv_iload_n hx hb d_R_fits_124 rfl (lv_at hl 4 rfl) ?_
            refine lv_iload_n hx hb d_R_fits_125 rfl (lv_at hl 3 rfl) ?_
            refine lv_sipush (v := 255) hx hb d_R_fits_126 (by decide) ?_
            obtain ⟨r68, hcl, h⟩ := bd_some h
            refine cx_read (va_runS (As := [.int a3, .int a2, .int 255]) (rest := []) ⟨hx, hb, hml, hown, hts⟩ (c_R_in l dC dI q cA σ a3 a2 255 _ hcl) (cw_R_72 hts ⟨Nat.le_of_ble_eq_true rfl, Nat.le_of_ble_eq_true rfl⟩) ⟨pxR_B, pxR_U hP hK hD hN hZ hS⟩ rfl rfl hl.1 rfl (lv_room (Nat.le_of_ble_eq_true rfl)) d_R_fits_129 ⟨Nat.zero_le _, Nat.zero_le _⟩) ?_
            refine lv_if_eq (tgt := 139) hx hb d_R_fits_132 rfl (fun hc => ?_) (fun hc => ?_)
            · have h := if_t hc h
              refine lv_iconst (v := 0) hx hb d_R_fits_139 (by decide) ?_
              obtain rfl := Option.some.inj h
              exact W.zret hx hb hr rfl (fun t ht hW => ⟨rfl, ht⟩) (fun _ h9 => nomatch h9) d_R_fits_140
            · have h := if_f hc h
              refine lv_iconst (v := 1) hx hb d_R_fits_135 (by decide) ?_
              refine lv_goto (tgt := 140) hx hb d_R_fits_136 rfl ?_
              obtain rfl := Option.some.inj h
              exact W.zret hx hb hr rfl (fun t ht hW => ⟨rfl, ht⟩) (fun _ h9 => nomatch h9) d_R_fits_140
        have h := if_f hc1 h
        by_cases hc2 : a1 = 3
        · have h := if_t hc2 h
          refine sw_in (tgt := 218) hx hb d_R_fits_38 hc2 (by decide) (by decide) rfl rfl ?_
          refine lv_iload_n hx hb d_R_fits_218 rfl (lv_at hl 2 rfl) ?_
          refine lv_iconst (v := 0) hx hb d_R_fits_219 (by decide) ?_
          refine lv_bipush (v := 13) hx hb d_R_fits_220 (by decide) ?_
          obtain ⟨r69, hcl, h⟩ := bd_some h
          refine cx_read (va_runS (As := [.int a1, .int 0, .int 13]) (rest := []) ⟨hx, hb, hml, hown, hts⟩ (c_R_in l dC dI q cA σ a1 0 13 _ hcl) (cw_R_72 hts ⟨Nat.le_of_ble_eq_true rfl, Nat.le_of_ble_eq_true rfl⟩) ⟨pxR_B, pxR_U hP hK hD hN hZ hS⟩ rfl rfl hl.1 rfl (lv_room (Nat.le_of_ble_eq_true rfl)) d_R_fits_222 ⟨Nat.zero_le _, Nat.zero_le _⟩) ?_
          refine lv_if_eq (tgt := 237) hx hb d_R_fits_225 rfl (fun hc => ?_) (fun hc => ?_)
          · have h := if_t hc h
            refine lv_iconst (v := 0) hx hb d_R_fits_237 (by decide) ?_
            obtain rfl := Option.some.inj h
            exact W.zret hx hb hr rfl (fun t ht hW => ⟨rfl, ht⟩) (fun _ h9 => nomatch h9) d_R_fits_238
          · have h := if_f hc h
            refine lv_iload hx hb d_R_fits_228 (lv_at hl 0 rfl) ?_
            refine lv_if_eq (tgt := 237) hx hb d_R_fits_230 rfl (fun hc => ?_) (fun hc => ?_)
            · have h := if_t hc h
              refine lv_iconst (v := 0) hx hb d_R_fits_237 (by decide) ?_
              obtain rfl := Option.some.inj h
              exact W.zret hx hb hr rfl (fun t ht hW => ⟨rfl, ht⟩) (fun _ h9 => nomatch h9) d_R_fits_238
            · have h := if_f hc h
              refine lv_iconst (v := 1) hx hb d_R_fits_233 (by decide) ?_
              refine lv_goto (tgt := 238) hx hb d_R_fits_234 rfl ?_
              obtain rfl := Option.some.inj h
              exact W.zret hx hb hr rfl (fun t ht hW => ⟨rfl, ht⟩) (fun _ h9 => nomatch h9) d_R_fits_238
        have h := if_f hc2 h
        by_cases hc3 : a1 = 4
        · have h := if_t hc3 h
          refine sw_in (tgt := 141) hx hb d_R_fits_38 hc3 (by decide) (by decide) rfl rfl ?_
          refine lv_iload hx hb d_R_fits_141 (lv_at hl 0 rfl) ?_
          refine lv_if_eq (tgt := 161) hx hb d_R_fits_143 rfl (fun hc => ?_) (fun hc => ?_)
          · have h := if_t hc h
            refine lv_iconst (v := 0) hx hb d_R_fits_161 (by decide) ?_
            obtain rfl := Option.some.inj h
            exact W.zret hx hb hr rfl (fun t ht hW => ⟨rfl, ht⟩) (fun _ h9 => nomatch h9) d_R_fits_162
          · have h := if_f hc h
            refine lv_iload hx hb d_R_fits_146 (lv_at hl 5 rfl) ?_
            refine lv_iconst (v := 0) hx hb d_R_fits_148 (by decide) ?_
            refine lv_bipush (v := 7) hx hb d_R_fits_149 (by decide) ?_
            obtain ⟨r70, hcl, h⟩ := bd_some h
            refine cx_read (va_runS (As := [.int a4, .int 0, .int 7]) (rest := []) ⟨hx, hb, hml, hown, hts⟩ (c_R_in l dC dI q cA σ a4 0 7 _ hcl) (cw_R_72 hts ⟨Nat.le_of_ble_eq_true rfl, Nat.le_of_ble_eq_true rfl⟩) ⟨pxR_B, pxR_U hP hK hD hN hZ hS⟩ rfl rfl hl.1 rfl (lv_room (Nat.le_of_ble_eq_true rfl)) d_R_fits_151 ⟨Nat.zero_le _, Nat.zero_le _⟩) ?_
            refine lv_if_eq (tgt := 161) hx hb d_R_fits_154 rfl (fun hc => ?_) (fun hc => ?_)
            · have h := if_t hc h
              refine lv_iconst (v := 0) hx hb d_R_fits_161 (by decide) ?_
              obtain rfl := Option.some.inj h
              exact W.zret hx hb hr rfl (fun t ht hW => ⟨rfl, ht⟩) (fun _ h9 => nomatch h9) d_R_fits_162
            · have h := if_f hc h
              refine lv_iconst (v := 1) hx hb d_R_fits_157 (by decide) ?_
              refine lv_goto (tgt := 162) hx hb d_R_fits_158 rfl ?_
              obtain rfl := Option.some.inj h
              exact W.zret hx hb hr rfl (fun t ht hW => ⟨rfl, ht⟩) (fun _ h9 => nomatch h9) d_R_fits_162
        have h := if_f hc3 h
        by_cases hc4 : a1 = 5
        · have h := if_t hc4 h
          refine sw_in (tgt := 218) hx hb d_R_fits_38 hc4 (by decide) (by decide) rfl rfl ?_
          refine lv_iload_n hx hb d_R_fits_218 rfl (lv_at hl 2 rfl) ?_
          refine lv_iconst (v := 0) hx hb d_R_fits_219 (by decide) ?_
          refine lv_bipush (v := 13) hx hb d_R_fits_220 (by decide) ?_
          obtain ⟨r71, hcl, h⟩ := bd_some h
          refine cx_read (va_runS (As := [.int a1, .int 0, .int 13]) (rest := []) ⟨hx, hb, hml, hown, hts⟩ (c_R_in l dC dI q cA σ a1 0 13 _ hcl) (cw_R_72 hts ⟨Nat.le_of_ble_eq_true rfl, Nat.le_of_ble_eq_true rfl⟩) ⟨pxR_B, pxR_U hP hK hD hN hZ hS⟩ rfl rfl hl.1 rfl (lv_room (Nat.le_of_ble_eq_true rfl)) d_R_fits_222 ⟨Nat.zero_le _, Nat.zero_le _⟩) ?_
          refine lv_if_eq (tgt := 237) hx hb d_R_fits_225 rfl (fun hc => ?_) (fun hc => ?_)
          · have h := if_t hc h
            refine lv_iconst (v := 0) hx hb d_R_fits_237 (by decide) ?_
            obtain rfl := Option.some.inj h
            exact W.zret hx hb hr rfl (fun t ht hW => ⟨rfl, ht⟩) (fun _ h9 => nomatch h9) d_R_fits_238
          · have h := if_f hc h
            refine lv_iload hx hb d_R_fits_228 (lv_at hl 0 rfl) ?_
            refine lv_if_eq (tgt := 237) hx hb d_R_fits_230 rfl (fun hc => ?_) (fun hc => ?_)
            · have h := if_t hc h
              refine lv_iconst (v := 0) hx hb d_R_fits_237 (by decide) ?_
              obtain rfl := Option.some.inj h
              exact W.zret hx hb hr rfl (fun t ht hW => ⟨rfl, ht⟩) (fun _ h9 => nomatch h9) d_R_fits_238
            · have h := if_f hc h
              refine lv_iconst (v := 1) hx hb d_R_fits_233 (by decide) ?_
              refine lv_goto (tgt := 238) hx hb d_R_fits_234 rfl ?_
              obtain rfl := Option.some.inj h
              exact W.zret hx hb hr rfl (fun t ht hW => ⟨rfl, ht⟩) (fun _ h9 => nomatch h9) d_R_fits_238
        have h := if_f hc4 h
        by_cases hc5 : a1 = 6
        · have h := if_t hc5 h
          refine sw_in (tgt := 218) hx hb d_R_fits_38 hc5 (by decide) (by decide) rfl rfl ?_
          refine lv_iload_n hx hb d_R_fits_218 rfl (lv_at hl 2 rfl) ?_
          refine lv_iconst (v := 0) hx hb d_R_fits_219 (by decide) ?_
          refine lv_bipush (v := 13) hx hb d_R_fits_220 (by decide) ?_
          obtain ⟨r72, hcl, h⟩ := bd_some h
          refine cx_read (va_runS (As := [.int a1, .int 0, .int 13]) (rest := []) ⟨hx, hb, hml, hown, hts⟩ (c_R_in l dC dI q cA σ a1 0 13 _ hcl) (cw_R_72 hts ⟨Nat.le_of_ble_eq_true rfl, Nat.le_of_ble_eq_true rfl⟩) ⟨pxR_B, pxR_U hP hK hD hN hZ hS⟩ rfl rfl hl.1 rfl (lv_room (Nat.le_of_ble_eq_true rfl)) d_R_fits_222 ⟨Nat.zero_le _, Nat.zero_le _⟩) ?_
          refine lv_if_eq (tgt := 237) hx hb d_R_fits_225 rfl (fun hc => ?_) (fun hc => ?_)
          · have h := if_t hc h
            refine lv_iconst (v := 0) hx hb d_R_fits_237 (by decide) ?_
            obtain rfl := Option.some.inj h
            exact W.zret hx hb hr rfl (fun t ht hW => ⟨rfl, ht⟩) (fun _ h9 => nomatch h9) d_R_fits_238
          · have h := if_f hc h
            refine lv_iload hx hb d_R_fits_228 (lv_at hl 0 rfl) ?_
            refine lv_if_eq (tgt := 237) hx hb d_R_fits_230 rfl (fun hc => ?_) (fun hc => ?_)
            · have h := if_t hc h
              refine lv_iconst (v := 0) hx hb d_R_fits_237 (by decide) ?_
              obtain rfl := Option.some.inj h
              exact W.zret hx hb hr rfl (fun t ht hW => ⟨rfl, ht⟩) (fun _ h9 => nomatch h9) d_R_fits_238
            · have h := if_f hc h
              refine lv_iconst (v := 1) hx hb d_R_fits_233 (by decide) ?_
              refine lv_goto (tgt := 238) hx hb d_R_fits_234 rfl ?_
              obtain rfl := Option.some.inj h
              exact W.zret hx hb hr rfl (fun t ht hW => ⟨rfl, ht⟩) (fun _ h9 => nomatch h9) d_R_fits_238
        have h := if_f hc5 h
        by_cases hc6 : a1 = 7
        · have h := if_t hc6 h
          refine sw_in (tgt := 218) hx hb d_R_fits_38 hc6 (by decide) (by decide) rfl rfl ?_
          refine lv_iload_n hx hb d_R_fits_218 rfl (lv_at hl 2 rfl) ?_
          refine lv_iconst (v := 0) hx hb d_R_fits_219 (by decide) ?_
          refine lv_bipush (v := 13) hx hb d_R_fits_220 (by decide) ?_
          obtain ⟨r73, hcl, h⟩ := bd_some h
          refine cx_read (va_runS (As := [.int a1, .int 0, .int 13]) (rest := []) ⟨hx, hb, hml, hown, hts⟩ (c_R_in l dC dI q cA σ a1 0 13 _ hcl) (cw_R_72 hts ⟨Nat.le_of_ble_eq_true rfl, Nat.le_of_ble_eq_true rfl⟩) ⟨pxR_B, pxR_U hP hK hD hN hZ hS⟩ rfl rfl hl.1 rfl (lv_room (Nat.le_of_ble_eq_true rfl)) d_R_fits_222 ⟨Nat.zero_le _, Nat.zero_le _⟩) ?_
          refine lv_if_eq (tgt := 237) hx hb d_R_fits_225 rfl (fun hc => ?_) (fun hc => ?_)
          · have h := if_t hc h
            refine lv_iconst (v := 0) hx hb d_R_fits_237 (by decide) ?_
            obtain rfl := Option.some.inj h
            exact W.zret hx hb hr rfl (fun t ht hW => ⟨rfl, ht⟩) (fun _ h9 => nomatch h9) d_R_fits_238
          · have h := if_f hc h
            refine lv_iload hx hb d_R_fits_228 (lv_at hl 0 rfl) ?_
            refine lv_if_eq (tgt := 237) hx hb d_R_fits_230 rfl (fun hc => ?_) (fun hc => ?_)
            · have h := if_t hc h
              refine lv_iconst (v := 0) hx hb d_R_fits_237 (by decide) ?_
              obtain rfl := Option.some.inj h
              exact W.zret hx hb hr rfl (fun t ht hW => ⟨rfl, ht⟩) (fun _ h9 => nomatch h9) d_R_fits_238
            · have h := if_f hc h
              refine lv_iconst (v := 1) hx hb d_R_fits_233 (by decide) ?_
              refine lv_goto (tgt := 238) hx hb d_R_fits_234 rfl ?_
              obtain rfl := Option.some.inj h
              exact W.zret hx hb hr rfl (fun t ht hW => ⟨rfl, ht⟩) (fun _ h9 => nomatch h9) d_R_fits_238
        have h := if_f hc6 h
        by_cases hc7 : a1 = 8
        · have h := if_t hc7 h
          refine sw_in (tgt := 218) hx hb d_R_fits_38 hc7 (by decide) (by decide) rfl rfl ?_
          refine lv_iload_n hx hb d_R_fits_218 rfl (lv_at hl 2 rfl) ?_
          refine lv_iconst (v := 0) hx hb d_R_fits_219 (by decide) ?_
          refine lv_bipush (v := 13) hx hb d_R_fits_220 (by decide) ?_
          obtain ⟨r74, hcl, h⟩ := bd_some h
          refine cx_read (va_runS (As := [.int a1, .int 0, .int 13]) (rest := []) ⟨hx, hb, hml, hown, hts⟩ (c_R_in l dC dI q cA σ a1 0 13 _ hcl) (cw_R_72 hts ⟨Nat.le_of_ble_eq_true rfl, Nat.le_of_ble_eq_true rfl⟩) ⟨pxR_B, pxR_U hP hK hD hN hZ hS⟩ rfl rfl hl.1 rfl (lv_room (Nat.le_of_ble_eq_true rfl)) d_R_fits_222 ⟨Nat.zero_le _, Nat.zero_le _⟩) ?_
          refine lv_if_eq (tgt := 237) hx hb d_R_fits_225 rfl (fun hc => ?_) (fun hc => ?_)
          · have h := if_t hc h
            refine lv_iconst (v := 0) hx hb d_R_fits_237 (by decide) ?_
            obtain rfl := Option.some.inj h
            exact W.zret hx hb hr rfl (fun t ht hW => ⟨rfl, ht⟩) (fun _ h9 => nomatch h9) d_R_fits_238
          · have h := if_f hc h
            refine lv_iload hx hb d_R_fits_228 (lv_at hl 0 rfl) ?_
            refine lv_if_eq (tgt := 237) hx hb d_R_fits_230 rfl (fun hc => ?_) (fun hc => ?_)
            · have h := if_t hc h
              refine lv_iconst (v := 0) hx hb d_R_fits_237 (by decide) ?_
              obtain rfl := Option.some.inj h
              exact W.zret hx hb hr rfl (fun t ht hW => ⟨rfl, ht⟩) (fun _ h9 => nomatch h9) d_R_fits_238
            · have h := if_f hc h
              refine lv_iconst (v := 1) hx hb d_R_fits_233 (by decide) ?_
              refine lv_goto (tgt := 238) hx hb d_R_fits_234 rfl ?_
              obtain rfl := Option.some.inj h
              exact W.zret hx hb hr rfl (fun t ht hW => ⟨rfl, ht⟩) (fun _ h9 => nomatch h9) d_R_fits_238
        have h := if_f hc7 h
        by_cases hc8 : a1 = 9
        · have h := if_t hc8 h
          refine sw_in (tgt := 163) hx hb d_R_fits_38 hc8 (by decide) (by decide) rfl rfl ?_
          refine lv_iload hx hb d_R_fits_163 (lv_at hl 0 rfl) ?_
          refine lv_if_eq (tgt := 182) hx hb d_R_fits_165 rfl (fun hc => ?_) (fun hc => ?_)
          · have h := if_t hc h
            refine lv_iconst (v := 0) hx hb d_R_fits_182 (by decide) ?_
            obtain rfl := Option.some.inj h
            exact W.zret hx hb hr rfl (fun t ht hW => ⟨rfl, ht⟩) (fun _ h9 => nomatch h9) d_R_fits_183
          · have h := if_f hc h
            refine lv_iload_n hx hb d_R_fits_168 rfl (lv_at hl 4 rfl) ?_
            refine lv_iconst (v := 0) hx hb d_R_fits_169 (by decide) ?_
            refine lv_bipush (v := 7) hx hb d_R_fits_170 (by decide) ?_
            obtain ⟨r75, hcl, h⟩ := bd_some h
            refine cx_read (va_runS (As := [.int a3, .int 0, .int 7]) (rest := []) ⟨hx, hb, hml, hown, hts⟩ (c_R_in l dC dI q cA σ a3 0 7 _ hcl) (cw_R_72 hts ⟨Nat.le_of_ble_eq_true rfl, Nat.le_of_ble_eq_true rfl⟩) ⟨pxR_B, pxR_U hP hK hD hN hZ hS⟩ rfl rfl hl.1 rfl (lv_room (Nat.le_of_ble_eq_true rfl)) d_R_fits_172 ⟨Nat.zero_le _, Nat.zero_le _⟩) ?_
            refine lv_if_eq (tgt := 182) hx hb d_R_fits_175 rfl (fun hc => ?_) (fun hc => ?_)
            · have h := if_t hc h
              refine lv_iconst (v := 0) hx hb d_R_fits_182 (by decide) ?_
              obtain rfl := Option.some.inj h
              exact W.zret hx hb hr rfl (fun t ht hW => ⟨rfl, ht⟩) (fun _ h9 => nomatch h9) d_R_fits_183
            · have h := if_f hc h
              refine lv_iconst (v := 1) hx hb d_R_fits_178 (by decide) ?_
              refine lv_goto (tgt := 183) hx hb d_R_fits_179 rfl ?_
              obtain rfl := Option.some.inj h
              exact W.zret hx hb hr rfl (fun t ht hW => ⟨rfl, ht⟩) (fun _ h9 => nomatch h9) d_R_fits_183
        have h := if_f hc8 h
        by_cases hc9 : a1 = 10
        · have h := if_t hc9 h
          refine sw_in (tgt := 218) hx hb d_R_fits_38 hc9 (by decide) (by decide) rfl rfl ?_
          refine lv_iload_n hx hb d_R_fits_218 rfl (lv_at hl 2 rfl) ?_
          refine lv_iconst (v := 0) hx hb d_R_fits_219 (by decide) ?_
          refine lv_bipush (v := 13) hx hb d_R_fits_220 (by decide) ?_
          obtain ⟨r76, hcl, h⟩ := bd_some h
          refine cx_read (va_runS (As := [.int a1, .int 0, .int 13]) (rest := []) ⟨hx, hb, hml, hown, hts⟩ (c_R_in l dC dI q cA σ a1 0 13 _ hcl) (cw_R_72 hts ⟨Nat.le_of_ble_eq_true rfl, Nat.le_of_ble_eq_true rfl⟩) ⟨pxR_B, pxR_U hP hK hD hN hZ hS⟩ rfl rfl hl.1 rfl (lv_room (Nat.le_of_ble_eq_true rfl)) d_R_fits_222 ⟨Nat.zero_le _, Nat.zero_le _⟩) ?_
          refine lv_if_eq (tgt := 237) hx hb d_R_fits_225 rfl (fun hc => ?_) (fun hc => ?_)
          · have h := if_t hc h
            refine lv_iconst (v := 0) hx hb d_R_fits_237 (by decide) ?_
            obtain rfl := Option.some.inj h
            exact W.zret hx hb hr rfl (fun t ht hW => ⟨rfl, ht⟩) (fun _ h9 => nomatch h9) d_R_fits_238
          · have h := if_f hc h
            refine lv_iload hx hb d_R_fits_228 (lv_at hl 0 rfl) ?_
            refine lv_if_eq (tgt := 237) hx hb d_R_fits_230 rfl (fun hc => ?_) (fun hc => ?_)
            · have h := if_t hc h
              refine lv_iconst (v := 0) hx hb d_R_fits_237 (by decide) ?_
              obtain rfl := Option.some.inj h
              exact W.zret hx hb hr rfl (fun t ht hW => ⟨rfl, ht⟩) (fun _ h9 => nomatch h9) d_R_fits_238
            · have h := if_f hc h
              refine lv_iconst (v := 1) hx hb d_R_fits_233 (by decide) ?_
              refine lv_goto (tgt := 238) hx hb d_R_fits_234 rfl ?_
              obtain rfl := Option.some.inj h
              exact W.zret hx hb hr rfl (fun t ht hW => ⟨rfl, ht⟩) (fun _ h9 => nomatch h9) d_R_fits_238
        have h := if_f hc9 h
        by_cases hc10 : a1 = 11
        · have h := if_t hc10 h
          refine sw_in (tgt := 184) hx hb d_R_fits_38 hc10 (by decide) (by decide) rfl rfl ?_
          refine lv_iload_n hx hb d_R_fits_184 rfl (lv_at hl 3 rfl) ?_
          refine lv_iconst (v := 0) hx hb d_R_fits_185 (by decide) ?_
          refine lv_iconst (v := 5) hx hb d_R_fits_186 (by decide) ?_
          obtain ⟨r77, hcl, h⟩ := bd_some h
          refine cx_read (va_runS (As := [.int a2, .int 0, .int 5]) (rest := []) ⟨hx, hb, hml, hown, hts⟩ (c_R_in l dC dI q cA σ a2 0 5 _ hcl) (cw_R_72 hts ⟨Nat.le_of_ble_eq_true rfl, Nat.le_of_ble_eq_true rfl⟩) ⟨pxR_B, pxR_U hP hK hD hN hZ hS⟩ rfl rfl hl.1 rfl (lv_room (Nat.le_of_ble_eq_true rfl)) d_R_fits_187 ⟨Nat.zero_le _, Nat.zero_le _⟩) ?_
          obtain ⟨hbo, h⟩ := bo_some h
          obtain rfl := Option.some.inj h
          exact W.zret hx hb hr (bo_nar hbo) (fun t ht hW => ⟨rfl, ht⟩) (fun _ h9 => nomatch h9) d_R_fits_190
        have h := if_f hc10 h
        by_cases hc11 : a1 = 12
        · have h := if_t hc11 h
          refine sw_in (tgt := 191) hx hb d_R_fits_38 hc11 (by decide) (by decide) rfl rfl ?_
          refine lv_iload hx hb d_R_fits_191 (lv_at hl 0 rfl) ?_
          refine lv_if_eq (tgt := 209) hx hb d_R_fits_193 rfl (fun hc => ?_) (fun hc => ?_)
          · have h := if_t hc h
            refine lv_iconst (v := 0) hx hb d_R_fits_209 (by decide) ?_
            obtain rfl := Option.some.inj h
            exact W.zret hx hb hr rfl (fun t ht hW => ⟨rfl, ht⟩) (fun _ h9 => nomatch h9) d_R_fits_210
          · have h := if_f hc h
            refine lv_iload_n hx hb d_R_fits_196 rfl (lv_at hl 4 rfl) ?_
            refine lv_iconst (v := 0) hx hb d_R_fits_197 (by decide) ?_
            refine lv_iconst (v := 3) hx hb d_R_fits_198 (by decide) ?_
            obtain ⟨r78, hcl, h⟩ := bd_some h
            refine cx_read (va_runS (As := [.int a3, .int 0, .int 3]) (rest := []) ⟨hx, hb, hml, hown, hts⟩ (c_R_in l dC dI q cA σ a3 0 3 _ hcl) (cw_R_72 hts ⟨Nat.le_of_ble_eq_true rfl, Nat.le_of_ble_eq_true rfl⟩) ⟨pxR_B, pxR_U hP hK hD hN hZ hS⟩ rfl rfl hl.1 rfl (lv_room (Nat.le_of_ble_eq_true rfl)) d_R_fits_199 ⟨Nat.zero_le _, Nat.zero_le _⟩) ?_
            refine lv_if_eq (tgt := 209) hx hb d_R_fits_202 rfl (fun hc => ?_) (fun hc => ?_)
            · have h := if_t hc h
              refine lv_iconst (v := 0) hx hb d_R_fits_209 (by decide) ?_
              obtain rfl := Option.some.inj h
              exact W.zret hx hb hr rfl (fun t ht hW => ⟨rfl, ht⟩) (fun _ h9 => nomatch h9) d_R_fits_210
            · have h := if_f hc h
              refine lv_iconst (v := 1) hx hb d_R_fits_205 (by decide) ?_
              refine lv_goto (tgt := 210) hx hb d_R_fits_206 rfl ?_
              obtain rfl := Option.some.inj h
              exact W.zret hx hb hr rfl (fun t ht hW => ⟨rfl, ht⟩) (fun _ h9 => nomatch h9) d_R_fits_210
        have h := if_f hc11 h
        by_cases hc12 : a1 = 13
        · have h := if_t hc12 h
          refine sw_in (tgt := 211) hx hb d_R_fits_38 hc12 (by decide) (by decide) rfl rfl ?_
          refine lv_iload_n hx hb d_R_fits_211 rfl (lv_at hl 3 rfl) ?_
          refine lv_iconst (v := 0) hx hb d_R_fits_212 (by decide) ?_
          refine lv_iconst (v := 3) hx hb d_R_fits_213 (by decide) ?_
          obtain ⟨r79, hcl, h⟩ := bd_some h
          refine cx_read (va_runS (As := [.int a2, .int 0, .int 3]) (rest := []) ⟨hx, hb, hml, hown, hts⟩ (c_R_in l dC dI q cA σ a2 0 3 _ hcl) (cw_R_72 hts ⟨Nat.le_of_ble_eq_true rfl, Nat.le_of_ble_eq_true rfl⟩) ⟨pxR_B, pxR_U hP hK hD hN hZ hS⟩ rfl rfl hl.1 rfl (lv_room (Nat.le_of_ble_eq_true rfl)) d_R_fits_214 ⟨Nat.zero_le _, Nat.zero_le _⟩) ?_
          obtain ⟨hbo, h⟩ := bo_some h
          obtain rfl := Option.some.inj h
          exact W.zret hx hb hr (bo_nar hbo) (fun t ht hW => ⟨rfl, ht⟩) (fun _ h9 => nomatch h9) d_R_fits_217
        have h := if_f hc12 h
        refine lv_tableOut (tgt := 218) hx hb d_R_fits_38 (by have q0 := lv_neT hc0 (a := 1) (by decide); have q1 := lv_neT hc1 (a := 2) (by decide); have q2 := lv_neT hc2 (a := 3) (by decide); have q3 := lv_neT hc3 (a := 4) (by decide); have q4 := lv_neT hc4 (a := 5) (by decide); have q5 := lv_neT hc5 (a := 6) (by decide); have q6 := lv_neT hc6 (a := 7) (by decide); have q7 := lv_neT hc7 (a := 8) (by decide); have q8 := lv_neT hc8 (a := 9) (by decide); have q9 := lv_neT hc9 (a := 10) (by decide); have q10 := lv_neT hc10 (a := 11) (by decide); have q11 := lv_neT hc11 (a := 12) (by decide); have q12 := lv_neT hc12 (a := 13) (by decide); omega) rfl ?_
        refine lv_iload_n hx hb d_R_fits_218 rfl (lv_at hl 2 rfl) ?_
        refine lv_iconst (v := 0) hx hb d_R_fits_219 (by decide) ?_
        refine lv_bipush (v := 13) hx hb d_R_fits_220 (by decide) ?_
        obtain ⟨r80, hcl, h⟩ := bd_some h
        refine cx_read (va_runS (As := [.int a1, .int 0, .int 13]) (rest := []) ⟨hx, hb, hml, hown, hts⟩ (c_R_in l dC dI q cA σ a1 0 13 _ hcl) (cw_R_72 hts ⟨Nat.le_of_ble_eq_true rfl, Nat.le_of_ble_eq_true rfl⟩) ⟨pxR_B, pxR_U hP hK hD hN hZ hS⟩ rfl rfl hl.1 rfl (lv_room (Nat.le_of_ble_eq_true rfl)) d_R_fits_222 ⟨Nat.zero_le _, Nat.zero_le _⟩) ?_
        refine lv_if_eq (tgt := 237) hx hb d_R_fits_225 rfl (fun hc => ?_) (fun hc => ?_)
        · have h := if_t hc h
          refine lv_iconst (v := 0) hx hb d_R_fits_237 (by decide) ?_
          obtain rfl := Option.some.inj h
          exact W.zret hx hb hr rfl (fun t ht hW => ⟨rfl, ht⟩) (fun _ h9 => nomatch h9) d_R_fits_238
        · have h := if_f hc h
          refine lv_iload hx hb d_R_fits_228 (lv_at hl 0 rfl) ?_
          refine lv_if_eq (tgt := 237) hx hb d_R_fits_230 rfl (fun hc => ?_) (fun hc => ?_)
          · have h := if_t hc h
            refine lv_iconst (v := 0) hx hb d_R_fits_237 (by decide) ?_
            obtain rfl := Option.some.inj h
            exact W.zret hx hb hr rfl (fun t ht hW => ⟨rfl, ht⟩) (fun _ h9 => nomatch h9) d_R_fits_238
          · have h := if_f hc h
            refine lv_iconst (v := 1) hx hb d_R_fits_233 (by decide) ?_
            refine lv_goto (tgt := 238) hx hb d_R_fits_234 rfl ?_
            obtain rfl := Option.some.inj h
            exact W.zret hx hb hr rfl (fun t ht hW => ⟨rfl, ht⟩) (fun _ h9 => nomatch h9) d_R_fits_238
      · have h := if_f hc h
        refine lv_aload_n hx hb d_R_fits_22 rfl (lv_at hl 0 rfl) ?_
        refine lv_iload_n hx hb d_R_fits_23 rfl (lv_at hl 3 rfl) ?_
        obtain ⟨r81, hcl, h⟩ := bd_some h
        refine cx_read (va_runV (As := [.int a3]) (rest := []) ⟨hx, hb, hml, hown, hts⟩ (c_R_isNode l dC dI q cA σ a3 _ hcl) (cw_R_80 hts ⟨Nat.le_of_ble_eq_true rfl, Nat.le_of_ble_eq_true rfl⟩) ⟨pxR_B, va_recv hK hP (ci := 7) (q0 := 0) rfl rfl, pxR_U hP hK hD hN hZ hS⟩ rfl rfl hl.1 rfl (lv_room (Nat.le_of_ble_eq_true rfl)) d_R_fits_24 ⟨Nat.zero_le _, Nat.zero_le _⟩) ?_
        refine lv_if_eq (tgt := 34) hx hb d_R_fits_27 rfl (fun hc => ?_) (fun hc => ?_)
        · have h := if_t hc h
          refine lv_iconst (v := 0) hx hb d_R_fits_34 (by decide) ?_
          refine lv_istore hx hb d_R_fits_35 hl (by decide) rfl (fun ls hl => ?_)
          have hl : lv_has ls 6 [(5, .int 0), (0, .ref (q 0)), (1, .int a1), (2, .int a2), (3, .int a3), (4, .int a4)] := hl
          refine lv_iload_n hx hb d_R_fits_37 rfl (lv_at hl 2 rfl) ?_
          by_cases hc0 : a1 = 1
          · have h := if_t hc0 h
            refine sw_in (tgt := 104) hx hb d_R_fits_38 hc0 (by decide) (by decide) rfl rfl ?_
            refine lv_iload_n hx hb d_R_fits_104 rfl (lv_at hl 3 rfl) ?_
            refine lv_iconst (v := 0) hx hb d_R_fits_105 (by decide) ?_
            refine lv_sipush (v := 255) hx hb d_R_fits_106 (by decide) ?_
            obtain ⟨r82, hcl, h⟩ := bd_some h
            refine cx_read (va_runS (As := [.int a2, .int 0, .int 255]) (rest := []) ⟨hx, hb, hml, hown, hts⟩ (c_R_in l dC dI q cA σ a2 0 255 _ hcl) (cw_R_72 hts ⟨Nat.le_of_ble_eq_true rfl, Nat.le_of_ble_eq_true rfl⟩) ⟨pxR_B, pxR_U hP hK hD hN hZ hS⟩ rfl rfl hl.1 rfl (lv_room (Nat.le_of_ble_eq_true rfl)) d_R_fits_109 ⟨Nat.zero_le _, Nat.zero_le _⟩) ?_
            obtain ⟨hbo, h⟩ := bo_some h
            obtain rfl := Option.some.inj h
            exact W.zret hx hb hr (bo_nar hbo) (fun t ht hW => ⟨rfl, ht⟩) (fun _ h9 => nomatch h9) d_R_fits_112
          have h := if_f hc0 h
          by_cases hc1 : a1 = 2
          · have h := if_t hc1 h
            refine sw_in (tgt := 113) hx hb d_R_fits_38 hc1 (by decide) (by decide) rfl rfl ?_
            refine lv_iload_n hx hb d_R_fits_113 rfl (lv_at hl 3 rfl) ?_
            refine lv_iconst (v := 0) hx hb d_R_fits_114 (by decide) ?_
            refine lv_sipush (v := 255) hx hb d_R_fits_115 (by decide) ?_
            obtain ⟨r83, hcl, h⟩ := bd_some h
            refine cx_read (va_runS (As := [.int a2, .int 0, .int 255]) (rest := []) ⟨hx, hb, hml, hown, hts⟩ (c_R_in l dC dI q cA σ a2 0 255 _ hcl) (cw_R_72 hts ⟨Nat.le_of_ble_eq_true rfl, Nat.le_of_ble_eq_true rfl⟩) ⟨pxR_B, pxR_U hP hK hD hN hZ hS⟩ rfl rfl hl.1 rfl (lv_room (Nat.le_of_ble_eq_true rfl)) d_R_fits_118 ⟨Nat.zero_le _, Nat.zero_le _⟩) ?_
            refine lv_if_eq (tgt := 139) hx hb d_R_fits_121 rfl (fun hc => ?_) (fun hc => ?_)
            · have h := if_t hc h
              refine lv_iconst (v := 0) hx hb d_R_fits_139 (by decide) ?_
              obtain rfl := Option.some.inj h
              exact W.zret hx hb hr rfl (fun t ht hW => ⟨rfl, ht⟩) (fun _ h9 => nomatch h9) d_R_fits_140
            · have h := if_f hc h
              refine lv_iload_n hx hb d_R_fits_124 rfl (lv_at hl 4 rfl) ?_
              refine lv_iload_n hx hb d_R_fits_125 rfl (lv_at hl 3 rfl) ?_
              refine lv_sipush (v := 255) hx hb d_R_fits_126 (by decide) ?_
              obtain ⟨r84, hcl, h⟩ := bd_some h
              refine cx_read (va_runS (As := [.int a3, .int a2, .int 255]) (rest := []) ⟨hx, hb, hml, hown, hts⟩ (c_R_in l dC dI q cA σ a3 a2 255 _ hcl) (cw_R_72 hts ⟨Nat.le_of_ble_eq_true rfl, Nat.le_of_ble_eq_true rfl⟩) ⟨pxR_B, pxR_U hP hK hD hN hZ hS⟩ rfl rfl hl.1 rfl (lv_room (Nat.le_of_ble_eq_true rfl)) d_R_fits_129 ⟨Nat.zero_le _, Nat.zero_le _⟩) ?_
              refine lv_if_eq (tgt := 139) hx hb d_R_fits_132 rfl (fun hc => ?_) (fun hc => ?_)
              · have h := if_t hc h
                refine lv_iconst (v := 0) hx hb d_R_fits_139 (by decide) ?_
                obtain rfl := Option.some.inj h
                exact W.zret hx hb hr rfl (fun t ht hW => ⟨rfl, ht⟩) (fun _ h9 => nomatch h9) d_R_fits_140
              · have h := if_f hc h
                refine lv_iconst (v := 1) hx hb d_R_fits_135 (by decide) ?_
                refine lv_goto (tgt := 140) hx hb d_R_fits_136 rfl ?_
                obtain rfl := Option.some.inj h
                exact W.zret hx hb hr rfl (fun t ht hW => ⟨rfl, ht⟩) (fun _ h9 => nomatch h9) d_R_fits_140
          have h := if_f hc1 h
          by_cases hc2 : a1 = 3
          · have h := if_t hc2 h
            refine sw_in (tgt := 218) hx hb d_R_fits_38 hc2 (by decide) (by decide) rfl rfl ?_
            refine lv_iload_n hx hb d_R_fits_218 rfl (lv_at hl 2 rfl) ?_
            refine lv_iconst (v := 0) hx hb d_R_fits_219 (by decide) ?_
            refine lv_bipush (v := 13) hx hb d_R_fits_220 (by decide) ?_
            obtain ⟨r85, hcl, h⟩ := bd_some h
            refine cx_read (va_runS (As := [.int a1, .int 0, .int 13]) (rest := []) ⟨hx, hb, hml, hown, hts⟩ (c_R_in l dC dI q cA σ a1 0 13 _ hcl) (cw_R_72 hts ⟨Nat.le_of_ble_eq_true rfl, Nat.le_of_ble_eq_true rfl⟩) ⟨pxR_B, pxR_U hP hK hD hN hZ hS⟩ rfl rfl hl.1 rfl (lv_room (Nat.le_of_ble_eq_true rfl)) d_R_fits_222 ⟨Nat.zero_le _, Nat.zero_le _⟩) ?_
            refine lv_if_eq (tgt := 237) hx hb d_R_fits_225 rfl (fun hc => ?_) (fun hc => ?_)
            · have h := if_t hc h
              refine lv_iconst (v := 0) hx hb d_R_fits_237 (by decide) ?_
              obtain rfl := Option.some.inj h
              exact W.zret hx hb hr rfl (fun t ht hW => ⟨rfl, ht⟩) (fun _ h9 => nomatch h9) d_R_fits_238
            · have h := if_f hc h
              refine lv_iload hx hb d_R_fits_228 (lv_at hl 0 rfl) ?_
              refine lv_if_eq (tgt := 237) hx hb d_R_fits_230 rfl (fun hc => ?_) (fun hc => ?_)
              · have h := if_t hc h
                refine lv_iconst (v := 0) hx hb d_R_fits_237 (by decide) ?_
                obtain rfl := Option.some.inj h
                exact W.zret hx hb hr rfl (fun t ht hW => ⟨rfl, ht⟩) (fun _ h9 => nomatch h9) d_R_fits_238
              · have h := if_f hc h
                refine lv_iconst (v := 1) hx hb d_R_fits_233 (by decide) ?_
                refine lv_goto (tgt := 238) hx hb d_R_fits_234 rfl ?_
                obtain rfl := Option.some.inj h
                exact W.zret hx hb hr rfl (fun t ht hW => ⟨rfl, ht⟩) (fun _ h9 => nomatch h9) d_R_fits_238
          have h := if_f hc2 h
          by_cases hc3 : a1 = 4
          · have h := if_t hc3 h
            refine sw_in (tgt := 141) hx hb d_R_fits_38 hc3 (by decide) (by decide) rfl rfl ?_
            refine lv_iload hx hb d_R_fits_141 (lv_at hl 0 rfl) ?_
            refine lv_if_eq (tgt := 161) hx hb d_R_fits_143 rfl (fun hc => ?_) (fun hc => ?_)
            · have h := if_t hc h
              refine lv_iconst (v := 0) hx hb d_R_fits_161 (by decide) ?_
              obtain rfl := Option.some.inj h
              exact W.zret hx hb hr rfl (fun t ht hW => ⟨rfl, ht⟩) (fun _ h9 => nomatch h9) d_R_fits_162
            · have h := if_f hc h
              refine lv_iload hx hb d_R_fits_146 (lv_at hl 5 rfl) ?_
              refine lv_iconst (v := 0) hx hb d_R_fits_148 (by decide) ?_
              refine lv_bipush (v := 7) hx hb d_R_fits_149 (by decide) ?_
              obtain ⟨r86, hcl, h⟩ := bd_some h
              refine cx_read (va_runS (As := [.int a4, .int 0, .int 7]) (rest := []) ⟨hx, hb, hml, hown, hts⟩ (c_R_in l dC dI q cA σ a4 0 7 _ hcl) (cw_R_72 hts ⟨Nat.le_of_ble_eq_true rfl, Nat.le_of_ble_eq_true rfl⟩) ⟨pxR_B, pxR_U hP hK hD hN hZ hS⟩ rfl rfl hl.1 rfl (lv_room (Nat.le_of_ble_eq_true rfl)) d_R_fits_151 ⟨Nat.zero_le _, Nat.zero_le _⟩) ?_
              refine lv_if_eq (tgt := 161) hx hb d_R_fits_154 rfl (fun hc => ?_) (fun hc => ?_)
              · have h := if_t hc h
                refine lv_iconst (v := 0) hx hb d_R_fits_161 (by decide) ?_
                obtain rfl := Option.some.inj h
                exact W.zret hx hb hr rfl (fun t ht hW => ⟨rfl, ht⟩) (fun _ h9 => nomatch h9) d_R_fits_162
              · have h := if_f hc h
                refine lv_iconst (v := 1) hx hb d_R_fits_157 (by decide) ?_
                refine lv_goto (tgt := 162) hx hb d_R_fits_158 rfl ?_
                obtain rfl := Option.some.inj h
                exact W.zret hx hb hr rfl (fun t ht hW => ⟨rfl, ht⟩) (fun _ h9 => nomatch h9) d_R_fits_162
          have h := if_f hc3 h
          by_cases hc4 : a1 = 5
          · have h := if_t hc4 h
            refine sw_in (tgt := 218) hx hb d_R_fits_38 hc4 (by decide) (by decide) rfl rfl ?_
            refine lv_iload_n hx hb d_R_fits_218 rfl (lv_at hl 2 rfl) ?_
            refine lv_iconst (v := 0) hx hb d_R_fits_219 (by decide) ?_
            refine lv_bipush (v := 13) hx hb d_R_fits_220 (by decide) ?_
            obtain ⟨r87, hcl, h⟩ := bd_some h
            refine cx_read (va_runS (As := [.int a1, .int 0, .int 13]) (rest := []) ⟨hx, hb, hml, hown, hts⟩ (c_R_in l dC dI q cA σ a1 0 13 _ hcl) (cw_R_72 hts ⟨Nat.le_of_ble_eq_true rfl, Nat.le_of_ble_eq_true rfl⟩) ⟨pxR_B, pxR_U hP hK hD hN hZ hS⟩ rfl rfl hl.1 rfl (lv_room (Nat.le_of_ble_eq_true rfl)) d_R_fits_222 ⟨Nat.zero_le _, Nat.zero_le _⟩) ?_
            refine lv_if_eq (tgt := 237) hx hb d_R_fits_225 rfl (fun hc => ?_) (fun hc => ?_)
            · have h := if_t hc h
              refine lv_iconst (v := 0) hx hb d_R_fits_237 (by decide) ?_
              obtain rfl := Option.some.inj h
              exact W.zret hx hb hr rfl (fun t ht hW => ⟨rfl, ht⟩) (fun _ h9 => nomatch h9) d_R_fits_238
            · have h := if_f hc h
              refine lv_iload hx hb d_R_fits_228 (lv_at hl 0 rfl) ?_
              refine lv_if_eq (tgt := 237) hx hb d_R_fits_230 rfl (fun hc => ?_) (fun hc => ?_)
              · have h := if_t hc h
                refine lv_iconst (v := 0) hx hb d_R_fits_237 (by decide) ?_
                obtain rfl := Option.some.inj h
                exact W.zret hx hb hr rfl (fun t ht hW => ⟨rfl, ht⟩) (fun _ h9 => nomatch h9) d_R_fits_238
              · have h := if_f hc h
                refine lv_iconst (v := 1) hx hb d_R_fits_233 (by decide) ?_
                refine lv_goto (tgt := 238) hx hb d_R_fits_234 rfl ?_
                obtain rfl := Option.some.inj h
                exact W.zret hx hb hr rfl (fun t ht hW => ⟨rfl, ht⟩) (fun _ h9 => nomatch h9) d_R_fits_238
          have h := if_f hc4 h
          by_cases hc5 : a1 = 6
          · have h := if_t hc5 h
            refine sw_in (tgt := 218) hx hb d_R_fits_38 hc5 (by decide) (by decide) rfl rfl ?_
            refine lv_iload_n hx hb d_R_fits_218 rfl (lv_at hl 2 rfl) ?_
            refine lv_iconst (v := 0) hx hb d_R_fits_219 (by decide) ?_
            refine lv_bipush (v := 13) hx hb d_R_fits_220 (by decide) ?_
            obtain ⟨r88, hcl, h⟩ := bd_some h
            refine cx_read (va_runS (As := [.int a1, .int 0, .int 13]) (rest := []) ⟨hx, hb, hml, hown, hts⟩ (c_R_in l dC dI q cA σ a1 0 13 _ hcl) (cw_R_72 hts ⟨Nat.le_of_ble_eq_true rfl, Nat.le_of_ble_eq_true rfl⟩) ⟨pxR_B, pxR_U hP hK hD hN hZ hS⟩ rfl rfl hl.1 rfl (lv_room (Nat.le_of_ble_eq_true rfl)) d_R_fits_222 ⟨Nat.zero_le _, Nat.zero_le _⟩) ?_
            refine lv_if_eq (tgt := 237) hx hb d_R_fits_225 rfl (fun hc => ?_) (fun hc => ?_)
            · have h := if_t hc h
              refine lv_iconst (v := 0) hx hb d_R_fits_237 (by decide) ?_
              obtain rfl := Option.some.inj h
              exact W.zret hx hb hr rfl (fun t ht hW => ⟨rfl, ht⟩) (fun _ h9 => nomatch h9) d_R_fits_238
            · have h := if_f hc h
              refine lv_iload hx hb d_R_fits_228 (lv_at hl 0 rfl) ?_
              refine lv_if_eq (tgt := 237) hx hb d_R_fits_230 rfl (fun hc => ?_) (fun hc => ?_)
              · have h := if_t hc h
                refine lv_iconst (v := 0) hx hb d_R_fits_237 (by decide) ?_
                obtain rfl := Option.some.inj h
                exact W.zret hx hb hr rfl (fun t ht hW => ⟨rfl, ht⟩) (fun _ h9 => nomatch h9) d_R_fits_238
              · have h := if_f hc h
                refine lv_iconst (v := 1) hx hb d_R_fits_233 (by decide) ?_
                refine lv_goto (tgt := 238) hx hb d_R_fits_234 rfl ?_
                obtain rfl := Option.some.inj h
                exact W.zret hx hb hr rfl (fun t ht hW => ⟨rfl, ht⟩) (fun _ h9 => nomatch h9) d_R_fits_238
          have h := if_f hc5 h
          by_cases hc6 : a1 = 7
          · have h := if_t hc6 h
            refine sw_in (tgt := 218) hx hb d_R_fits_38 hc6 (by decide) (by decide) rfl rfl ?_
            refine lv_iload_n hx hb d_R_fits_218 rfl (lv_at hl 2 rfl) ?_
            refine lv_iconst (v := 0) hx hb d_R_fits_219 (by decide) ?_
            refine lv_bipush (v := 13) hx hb d_R_fits_220 (by decide) ?_
            obtain ⟨r89, hcl, h⟩ := bd_some h
            refine cx_read (va_runS (As := [.int a1, .int 0, .int 13]) (rest := []) ⟨hx, hb, hml, hown, hts⟩ (c_R_in l dC dI q cA σ a1 0 13 _ hcl) (cw_R_72 hts ⟨Nat.le_of_ble_eq_true rfl, Nat.le_of_ble_eq_true rfl⟩) ⟨pxR_B, pxR_U hP hK hD hN hZ hS⟩ rfl rfl hl.1 rfl (lv_room (Nat.le_of_ble_eq_true rfl)) d_R_fits_222 ⟨Nat.zero_le _, Nat.zero_le _⟩) ?_
            refine lv_if_eq (tgt := 237) hx hb d_R_fits_225 rfl (fun hc => ?_) (fun hc => ?_)
            · have h := if_t hc h
              refine lv_iconst (v := 0) hx hb d_R_fits_237 (by decide) ?_
              obtain rfl := Option.some.inj h
              exact W.zret hx hb hr rfl (fun t ht hW => ⟨rfl, ht⟩) (fun _ h9 => nomatch h9) d_R_fits_238
            · have h := if_f hc h
              refine lv_iload hx hb d_R_fits_228 (lv_at hl 0 rfl) ?_
              refine lv_if_eq (tgt := 237) hx hb d_R_fits_230 rfl (fun hc => ?_) (fun hc => ?_)
              · have h := if_t hc h
                refine lv_iconst (v := 0) hx hb d_R_fits_237 (by decide) ?_
                obtain rfl := Option.some.inj h
                exact W.zret hx hb hr rfl (fun t ht hW => ⟨rfl, ht⟩) (fun _ h9 => nomatch h9) d_R_fits_238
              · have h := if_f hc h
                refine lv_iconst (v := 1) hx hb d_R_fits_233 (by decide) ?_
                refine lv_goto (tgt := 238) hx hb d_R_fits_234 rfl ?_
                obtain rfl := Option.some.inj h
                exact W.zret hx hb hr rfl (fun t ht hW => ⟨rfl, ht⟩) (fun _ h9 => nomatch h9) d_R_fits_238
          have h := if_f hc6 h
          by_cases hc7 : a1 = 8
          · have h := if_t hc7 h
            refine sw_in (tgt := 218) hx hb d_R_fits_38 hc7 (by decide) (by decide) rfl rfl ?_
            refine lv_iload_n hx hb d_R_fits_218 rfl (lv_at hl 2 rfl) ?_
            refine lv_iconst (v := 0) hx hb d_R_fits_219 (by decide) ?_
            refine lv_bipush (v := 13) hx hb d_R_fits_220 (by decide) ?_
            obtain ⟨r90, hcl, h⟩ := bd_some h
            refine cx_read (va_runS (As := [.int a1, .int 0, .int 13]) (rest := []) ⟨hx, hb, hml, hown, hts⟩ (c_R_in l dC dI q cA σ a1 0 13 _ hcl) (cw_R_72 hts ⟨Nat.le_of_ble_eq_true rfl, Nat.le_of_ble_eq_true rfl⟩) ⟨pxR_B, pxR_U hP hK hD hN hZ hS⟩ rfl rfl hl.1 rfl (lv_room (Nat.le_of_ble_eq_true rfl)) d_R_fits_222 ⟨Nat.zero_le _, Nat.zero_le _⟩) ?_
            refine lv_if_eq (tgt := 237) hx hb d_R_fits_225 rfl (fun hc => ?_) (fun hc => ?_)
            · have h := if_t hc h
              refine lv_iconst (v := 0) hx hb d_R_fits_237 (by decide) ?_
              obtain rfl := Option.some.inj h
              exact W.zret hx hb hr rfl (fun t ht hW => ⟨rfl, ht⟩) (fun _ h9 => nomatch h9) d_R_fits_238
            · have h := if_f hc h
              refine lv_iload hx hb d_R_fits_228 (lv_at hl 0 rfl) ?_
              refine lv_if_eq (tgt := 237) hx hb d_R_fits_230 rfl (fun hc => ?_) (fun hc => ?_)
              · have h := if_t hc h
                refine lv_iconst (v := 0) hx hb d_R_fits_237 (by decide) ?_
                obtain rfl := Option.some.inj h
                exact W.zret hx hb hr rfl (fun t ht hW => ⟨rfl, ht⟩) (fun _ h9 => nomatch h9) d_R_fits_238
              · have h := if_f hc h
                refine lv_iconst (v := 1) hx hb d_R_fits_233 (by decide) ?_
                refine lv_goto (tgt := 238) hx hb d_R_fits_234 rfl ?_
                obtain rfl := Option.some.inj h
                exact W.zret hx hb hr rfl (fun t ht hW => ⟨rfl, ht⟩) (fun _ h9 => nomatch h9) d_R_fits_238
          have h := if_f hc7 h
          by_cases hc8 : a1 = 9
          · have h := if_t hc8 h
            refine sw_in (tgt := 163) hx hb d_R_fits_38 hc8 (by decide) (by decide) rfl rfl ?_
            refine lv_iload hx hb d_R_fits_163 (lv_at hl 0 rfl) ?_
            refine lv_if_eq (tgt := 182) hx hb d_R_fits_165 rfl (fun hc => ?_) (fun hc => ?_)
            · have h := if_t hc h
              refine lv_iconst (v := 0) hx hb d_R_fits_182 (by decide) ?_
              obtain rfl := Option.some.inj h
              exact W.zret hx hb hr rfl (fun t ht hW => ⟨rfl, ht⟩) (fun _ h9 => nomatch h9) d_R_fits_183
            · have h := if_f hc h
              refine lv_iload_n hx hb d_R_fits_168 rfl (lv_at hl 4 rfl) ?_
              refine lv_iconst (v := 0) hx hb d_R_fits_169 (by decide) ?_
              refine lv_bipush (v := 7) hx hb d_R_fits_170 (by decide) ?_
              obtain ⟨r91, hcl, h⟩ := bd_some h
              refine cx_read (va_runS (As := [.int a3, .int 0, .int 7]) (rest := []) ⟨hx, hb, hml, hown, hts⟩ (c_R_in l dC dI q cA σ a3 0 7 _ hcl) (cw_R_72 hts ⟨Nat.le_of_ble_eq_true rfl, Nat.le_of_ble_eq_true rfl⟩) ⟨pxR_B, pxR_U hP hK hD hN hZ hS⟩ rfl rfl hl.1 rfl (lv_room (Nat.le_of_ble_eq_true rfl)) d_R_fits_172 ⟨Nat.zero_le _, Nat.zero_le _⟩) ?_
              refine lv_if_eq (tgt := 182) hx hb d_R_fits_175 rfl (fun hc => ?_) (fun hc => ?_)
              · have h := if_t hc h
                refine lv_iconst (v := 0) hx hb d_R_fits_182 (by decide) ?_
                obtain rfl := Option.some.inj h
                exact W.zret hx hb hr rfl (fun t ht hW => ⟨rfl, ht⟩) (fun _ h9 => nomatch h9) d_R_fits_183
              · have h := if_f hc h
                refine lv_iconst (v := 1) hx hb d_R_fits_178 (by decide) ?_
                refine lv_goto (tgt := 183) hx hb d_R_fits_179 rfl ?_
                obtain rfl := Option.some.inj h
                exact W.zret hx hb hr rfl (fun t ht hW => ⟨rfl, ht⟩) (fun _ h9 => nomatch h9) d_R_fits_183
          have h := if_f hc8 h
          by_cases hc9 : a1 = 10
          · have h := if_t hc9 h
            refine sw_in (tgt := 218) hx hb d_R_fits_38 hc9 (by decide) (by decide) rfl rfl ?_
            refine lv_iload_n hx hb d_R_fits_218 rfl (lv_at hl 2 rfl) ?_
            refine lv_iconst (v := 0) hx hb d_R_fits_219 (by decide) ?_
            refine lv_bipush (v := 13) hx hb d_R_fits_220 (by decide) ?_
            obtain ⟨r92, hcl, h⟩ := bd_some h
            refine cx_read (va_runS (As := [.int a1, .int 0, .int 13]) (rest := []) ⟨hx, hb, hml, hown, hts⟩ (c_R_in l dC dI q cA σ a1 0 13 _ hcl) (cw_R_72 hts ⟨Nat.le_of_ble_eq_true rfl, Nat.le_of_ble_eq_true rfl⟩) ⟨pxR_B, pxR_U hP hK hD hN hZ hS⟩ rfl rfl hl.1 rfl (lv_room (Nat.le_of_ble_eq_true rfl)) d_R_fits_222 ⟨Nat.zero_le _, Nat.zero_le _⟩) ?_
            refine lv_if_eq (tgt := 237) hx hb d_R_fits_225 rfl (fun hc => ?_) (fun hc => ?_)
            · have h := if_t hc h
              refine lv_iconst (v := 0) hx hb d_R_fits_237 (by decide) ?_
              obtain rfl := Option.some.inj h
              exact W.zret hx hb hr rfl (fun t ht hW => ⟨rfl, ht⟩) (fun _ h9 => nomatch h9) d_R_fits_238
            · have h := if_f hc h
              refine lv_iload hx hb d_R_fits_228 (lv_at hl 0 rfl) ?_
              refine lv_if_eq (tgt := 237) hx hb d_R_fits_230 rfl (fun hc => ?_) (fun hc => ?_)
              · have h := if_t hc h
                refine lv_iconst (v := 0) hx hb d_R_fits_237 (by decide) ?_
                obtain rfl := Option.some.inj h
                exact W.zret hx hb hr rfl (fun t ht hW => ⟨rfl, ht⟩) (fun _ h9 => nomatch h9) d_R_fits_238
              · have h := if_f hc h
                refine lv_iconst (v := 1) hx hb d_R_fits_233 (by decide) ?_
                refine lv_goto (tgt := 238) hx hb d_R_fits_234 rfl ?_
                obtain rfl := Option.some.inj h
                exact W.zret hx hb hr rfl (fun t ht hW => ⟨rfl, ht⟩) (fun _ h9 => nomatch h9) d_R_fits_238
          have h := if_f hc9 h
          by_cases hc10 : a1 = 11
          · have h := if_t hc10 h
            refine sw_in (tgt := 184) hx hb d_R_fits_38 hc10 (by decide) (by decide) rfl rfl ?_
            refine lv_iload_n hx hb d_R_fits_184 rfl (lv_at hl 3 rfl) ?_
            refine lv_iconst (v := 0) hx hb d_R_fits_185 (by decide) ?_
            refine lv_iconst (v := 5) hx hb d_R_fits_186 (by decide) ?_
            obtain ⟨r93, hcl, h⟩ := bd_some h
            refine cx_read (va_runS (As := [.int a2, .int 0, .int 5]) (rest := []) ⟨hx, hb, hml, hown, hts⟩ (c_R_in l dC dI q cA σ a2 0 5 _ hcl) (cw_R_72 hts ⟨Nat.le_of_ble_eq_true rfl, Nat.le_of_ble_eq_true rfl⟩) ⟨pxR_B, pxR_U hP hK hD hN hZ hS⟩ rfl rfl hl.1 rfl (lv_room (Nat.le_of_ble_eq_true rfl)) d_R_fits_187 ⟨Nat.zero_le _, Nat.zero_le _⟩) ?_
            obtain ⟨hbo, h⟩ := bo_some h
            obtain rfl := Option.some.inj h
            exact W.zret hx hb hr (bo_nar hbo) (fun t ht hW => ⟨rfl, ht⟩) (fun _ h9 => nomatch h9) d_R_fits_190
          have h := if_f hc10 h
          by_cases hc11 : a1 = 12
          · have h := if_t hc11 h
            refine sw_in (tgt := 191) hx hb d_R_fits_38 hc11 (by decide) (by decide) rfl rfl ?_
            refine lv_iload hx hb d_R_fits_191 (lv_at hl 0 rfl) ?_
            refine lv_if_eq (tgt := 209) hx hb d_R_fits_193 rfl (fun hc => ?_) (fun hc => ?_)
            · have h := if_t hc h
              refine lv_iconst (v := 0) hx hb d_R_fits_209 (by decide) ?_
              obtain rfl := Option.some.inj h
              exact W.zret hx hb hr rfl (fun t ht hW => ⟨rfl, ht⟩) (fun _ h9 => nomatch h9) d_R_fits_210
            · have h := if_f hc h
              refine lv_iload_n hx hb d_R_fits_196 rfl (lv_at hl 4 rfl) ?_
              refine lv_iconst (v := 0) hx hb d_R_fits_197 (by decide) ?_
              refine lv_iconst (v := 3) hx hb d_R_fits_198 (by decide) ?_
              obtain ⟨r94, hcl, h⟩ := bd_some h
              refine cx_read (va_runS (As := [.int a3, .int 0, .int 3]) (rest := []) ⟨hx, hb, hml, hown, hts⟩ (c_R_in l dC dI q cA σ a3 0 3 _ hcl) (cw_R_72 hts ⟨Nat.le_of_ble_eq_true rfl, Nat.le_of_ble_eq_true rfl⟩) ⟨pxR_B, pxR_U hP hK hD hN hZ hS⟩ rfl rfl hl.1 rfl (lv_room (Nat.le_of_ble_eq_true rfl)) d_R_fits_199 ⟨Nat.zero_le _, Nat.zero_le _⟩) ?_
              refine lv_if_eq (tgt := 209) hx hb d_R_fits_202 rfl (fun hc => ?_) (fun hc => ?_)
              · have h := if_t hc h
                refine lv_iconst (v := 0) hx hb d_R_fits_209 (by decide) ?_
                obtain rfl := Option.some.inj h
                exact W.zret hx hb hr rfl (fun t ht hW => ⟨rfl, ht⟩) (fun _ h9 => nomatch h9) d_R_fits_210
              · have h := if_f hc h
                refine lv_iconst (v := 1) hx hb d_R_fits_205 (by decide) ?_
                refine lv_goto (tgt := 210) hx hb d_R_fits_206 rfl ?_
                obtain rfl := Option.some.inj h
                exact W.zret hx hb hr rfl (fun t ht hW => ⟨rfl, ht⟩) (fun _ h9 => nomatch h9) d_R_fits_210
          have h := if_f hc11 h
          by_cases hc12 : a1 = 13
          · have h := if_t hc12 h
            refine sw_in (tgt := 211) hx hb d_R_fits_38 hc12 (by decide) (by decide) rfl rfl ?_
            refine lv_iload_n hx hb d_R_fits_211 rfl (lv_at hl 3 rfl) ?_
            refine lv_iconst (v := 0) hx hb d_R_fits_212 (by decide) ?_
            refine lv_iconst (v := 3) hx hb d_R_fits_213 (by decide) ?_
            obtain ⟨r95, hcl, h⟩ := bd_some h
            refine cx_read (va_runS (As := [.int a2, .int 0, .int 3]) (rest := []) ⟨hx, hb, hml, hown, hts⟩ (c_R_in l dC dI q cA σ a2 0 3 _ hcl) (cw_R_72 hts ⟨Nat.le_of_ble_eq_true rfl, Nat.le_of_ble_eq_true rfl⟩) ⟨pxR_B, pxR_U hP hK hD hN hZ hS⟩ rfl rfl hl.1 rfl (lv_room (Nat.le_of_ble_eq_true rfl)) d_R_fits_214 ⟨Nat.zero_le _, Nat.zero_le _⟩) ?_
            obtain ⟨hbo, h⟩ := bo_some h
            obtain rfl := Option.some.inj h
            exact W.zret hx hb hr (bo_nar hbo) (fun t ht hW => ⟨rfl, ht⟩) (fun _ h9 => nomatch h9) d_R_fits_217
          have h := if_f hc12 h
          refine lv_tableOut (tgt := 218) hx hb d_R_fits_38 (by have q0 := lv_neT hc0 (a := 1) (by decide); have q1 := lv_neT hc1 (a := 2) (by decide); have q2 := lv_neT hc2 (a := 3) (by decide); have q3 := lv_neT hc3 (a := 4) (by decide); have q4 := lv_neT hc4 (a := 5) (by decide); have q5 := lv_neT hc5 (a := 6) (by decide); have q6 := lv_neT hc6 (a := 7) (by decide); have q7 := lv_neT hc7 (a := 8) (by decide); have q8 := lv_neT hc8 (a := 9) (by decide); have q9 := lv_neT hc9 (a := 10) (by decide); have q10 := lv_neT hc10 (a := 11) (by decide); have q11 := lv_neT hc11 (a := 12) (by decide); have q12 := lv_neT hc12 (a := 13) (by decide); omega) rfl ?_
          refine lv_iload_n hx hb d_R_fits_218 rfl (lv_at hl 2 rfl) ?_
          refine lv_iconst (v := 0) hx hb d_R_fits_219 (by decide) ?_
          refine lv_bipush (v := 13) hx hb d_R_fits_220 (by decide) ?_
          obtain ⟨r96, hcl, h⟩ := bd_some h
          refine cx_read (va_runS (As := [.int a1, .int 0, .int 13]) (rest := []) ⟨hx, hb, hml, hown, hts⟩ (c_R_in l dC dI q cA σ a1 0 13 _ hcl) (cw_R_72 hts ⟨Nat.le_of_ble_eq_true rfl, Nat.le_of_ble_eq_true rfl⟩) ⟨pxR_B, pxR_U hP hK hD hN hZ hS⟩ rfl rfl hl.1 rfl (lv_room (Nat.le_of_ble_eq_true rfl)) d_R_fits_222 ⟨Nat.zero_le _, Nat.zero_le _⟩) ?_
          refine lv_if_eq (tgt := 237) hx hb d_R_fits_225 rfl (fun hc => ?_) (fun hc => ?_)
          · have h := if_t hc h
            refine lv_iconst (v := 0) hx hb d_R_fits_237 (by decide) ?_
            obtain rfl := Option.some.inj h
            exact W.zret hx hb hr rfl (fun t ht hW => ⟨rfl, ht⟩) (fun _ h9 => nomatch h9) d_R_fits_238
          · have h := if_f hc h
            refine lv_iload hx hb d_R_fits_228 (lv_at hl 0 rfl) ?_
            refine lv_if_eq (tgt := 237) hx hb d_R_fits_230 rfl (fun hc => ?_) (fun hc => ?_)
            · have h := if_t hc h
              refine lv_iconst (v := 0) hx hb d_R_fits_237 (by decide) ?_
              obtain rfl := Option.some.inj h
              exact W.zret hx hb hr rfl (fun t ht hW => ⟨rfl, ht⟩) (fun _ h9 => nomatch h9) d_R_fits_238
            · have h := if_f hc h
              refine lv_iconst (v := 1) hx hb d_R_fits_233 (by decide) ?_
              refine lv_goto (tgt := 238) hx hb d_R_fits_234 rfl ?_
              obtain rfl := Option.some.inj h
              exact W.zret hx hb hr rfl (fun t ht hW => ⟨rfl, ht⟩) (fun _ h9 => nomatch h9) d_R_fits_238
        · have h := if_f hc h
          refine lv_iconst (v := 1) hx hb d_R_fits_30 (by decide) ?_
          refine lv_goto (tgt := 35) hx hb d_R_fits_31 rfl ?_
          refine lv_istore hx hb d_R_fits_35 hl (by decide) rfl (fun ls hl => ?_)
          have hl : lv_has ls 6 [(5, .int 1), (0, .ref (q 0)), (1, .int a1), (2, .int a2), (3, .int a3), (4, .int a4)] := hl
          refine lv_iload_n hx hb d_R_fits_37 rfl (lv_at hl 2 rfl) ?_
          by_cases hc0 : a1 = 1
          · have h := if_t hc0 h
            refine sw_in (tgt := 104) hx hb d_R_fits_38 hc0 (by decide) (by decide) rfl rfl ?_
            refine lv_iload_n hx hb d_R_fits_104 rfl (lv_at hl 3 rfl) ?_
            refine lv_iconst (v := 0) hx hb d_R_fits_105 (by decide) ?_
            refine lv_sipush (v := 255) hx hb d_R_fits_106 (by decide) ?_
            obtain ⟨r97, hcl, h⟩ := bd_some h
            refine cx_read (va_runS (As := [.int a2, .int 0, .int 255]) (rest := []) ⟨hx, hb, hml, hown, hts⟩ (c_R_in l dC dI q cA σ a2 0 255 _ hcl) (cw_R_72 hts ⟨Nat.le_of_ble_eq_true rfl, Nat.le_of_ble_eq_true rfl⟩) ⟨pxR_B, pxR_U hP hK hD hN hZ hS⟩ rfl rfl hl.1 rfl (lv_room (Nat.le_of_ble_eq_true rfl)) d_R_fits_109 ⟨Nat.zero_le _, Nat.zero_le _⟩) ?_
            obtain ⟨hbo, h⟩ := bo_some h
            obtain rfl := Option.some.inj h
            exact W.zret hx hb hr (bo_nar hbo) (fun t ht hW => ⟨rfl, ht⟩) (fun _ h9 => nomatch h9) d_R_fits_112
          have h := if_f hc0 h
          by_cases hc1 : a1 = 2
          · have h := if_t hc1 h
            refine sw_in (tgt := 113) hx hb d_R_fits_38 hc1 (by decide) (by decide) rfl rfl ?_
            refine lv_iload_n hx hb d_R_fits_113 rfl (lv_at hl 3 rfl) ?_
            refine lv_iconst (v := 0) hx hb d_R_fits_114 (by decide) ?_
            refine lv_sipush (v := 255) hx hb d_R_fits_115 (by decide) ?_
            obtain ⟨r98, hcl, h⟩ := bd_some h
            refine cx_read (va_runS (As := [.int a2, .int 0, .int 255]) (rest := []) ⟨hx, hb, hml, hown, hts⟩ (c_R_in l dC dI q cA σ a2 0 255 _ hcl) (cw_R_72 hts ⟨Nat.le_of_ble_eq_true rfl, Nat.le_of_ble_eq_true rfl⟩) ⟨pxR_B, pxR_U hP hK hD hN hZ hS⟩ rfl rfl hl.1 rfl (lv_room (Nat.le_of_ble_eq_true rfl)) d_R_fits_118 ⟨Nat.zero_le _, Nat.zero_le _⟩) ?_
            refine lv_if_eq (tgt := 139) hx hb d_R_fits_121 rfl (fun hc => ?_) (fun hc => ?_)
            · have h := if_t hc h
              refine lv_iconst (v := 0) hx hb d_R_fits_139 (by decide) ?_
              obtain rfl := Option.some.inj h
              exact W.zret hx hb hr rfl (fun t ht hW => ⟨rfl, ht⟩) (fun _ h9 => nomatch h9) d_R_fits_140
            · have h := if_f hc h
              refine lv_iload_n hx hb d_R_fits_124 rfl (lv_at hl 4 rfl) ?_
              refine lv_iload_n hx hb d_R_fits_125 rfl (lv_at hl 3 rfl) ?_
              refine lv_sipush (v := 255) hx hb d_R_fits_126 (by decide) ?_
              obtain ⟨r99, hcl, h⟩ := bd_some h
              refine cx_read (va_runS (As := [.int a3, .int a2, .int 255]) (rest := []) ⟨hx, hb, hml, hown, hts⟩ (c_R_in l dC dI q cA σ a3 a2 255 _ hcl) (cw_R_72 hts ⟨Nat.le_of_ble_eq_true rfl, Nat.le_of_ble_eq_true rfl⟩) ⟨pxR_B, pxR_U hP hK hD hN hZ hS⟩ rfl rfl hl.1 rfl (lv_room (Nat.le_of_ble_eq_true rfl)) d_R_fits_129 ⟨Nat.zero_le _, Nat.zero_le _⟩) ?_
              refine lv_if_eq (tgt := 139) hx hb d_R_fits_132 rfl (fun hc => ?_) (fun hc => ?_)
              · have h := if_t hc h
                refine lv_iconst (v := 0) hx hb d_R_fits_139 (by decide) ?_
                obtain rfl := Option.some.inj h
                exact W.zret hx hb hr rfl (fun t ht hW => ⟨rfl, ht⟩) (fun _ h9 => nomatch h9) d_R_fits_140
              · have h := if_f hc h
                refine lv_iconst (v := 1) hx hb d_R_fits_135 (by decide) ?_
                refine lv_goto (tgt := 140) hx hb d_R_fits_136 rfl ?_
                obtain rfl := Option.some.inj h
                exact W.zret hx hb hr rfl (fun t ht hW => ⟨rfl, ht⟩) (fun _ h9 => nomatch h9) d_R_fits_140
          have h := if_f hc1 h
          by_cases hc2 : a1 = 3
          · have h := if_t hc2 h
            refine sw_in (tgt := 218) hx hb d_R_fits_38 hc2 (by decide) (by decide) rfl rfl ?_
            refine lv_iload_n hx hb d_R_fits_218 rfl (lv_at hl 2 rfl) ?_
            refine lv_iconst (v := 0) hx hb d_R_fits_219 (by decide) ?_
            refine lv_bipush (v := 13) hx hb d_R_fits_220 (by decide) ?_
            obtain ⟨r100, hcl, h⟩ := bd_some h
            refine cx_read (va_runS (As := [.int a1, .int 0, .int 13]) (rest := []) ⟨hx, hb, hml, hown, hts⟩ (c_R_in l dC dI q cA σ a1 0 13 _ hcl) (cw_R_72 hts ⟨Nat.le_of_ble_eq_true rfl, Nat.le_of_ble_eq_true rfl⟩) ⟨pxR_B, pxR_U hP hK hD hN hZ hS⟩ rfl rfl hl.1 rfl (lv_room (Nat.le_of_ble_eq_true rfl)) d_R_fits_222 ⟨Nat.zero_le _, Nat.zero_le _⟩) ?_
            refine lv_if_eq (tgt := 237) hx hb d_R_fits_225 rfl (fun hc => ?_) (fun hc => ?_)
            · have h := if_t hc h
              refine lv_iconst (v := 0) hx hb d_R_fits_237 (by decide) ?_
              obtain rfl := Option.some.inj h
              exact W.zret hx hb hr rfl (fun t ht hW => ⟨rfl, ht⟩) (fun _ h9 => nomatch h9) d_R_fits_238
            · have h := if_f hc h
              refine lv_iload hx hb d_R_fits_228 (lv_at hl 0 rfl) ?_
              refine lv_if_eq (tgt := 237) hx hb d_R_fits_230 rfl (fun hc => ?_) (fun hc => ?_)
              · have h := if_t hc h
                refine lv_iconst (v := 0) hx hb d_R_fits_237 (by decide) ?_
                obtain rfl := Option.some.inj h
                exact W.zret hx hb hr rfl (fun t ht hW => ⟨rfl, ht⟩) (fun _ h9 => nomatch h9) d_R_fits_238
              · have h := if_f hc h
                refine lv_iconst (v := 1) hx hb d_R_fits_233 (by decide) ?_
                refine lv_goto (tgt := 238) hx hb d_R_fits_234 rfl ?_
                obtain rfl := Option.some.inj h
                exact W.zret hx hb hr rfl (fun t ht hW => ⟨rfl, ht⟩) (fun _ h9 => nomatch h9) d_R_fits_238
          have h := if_f hc2 h
          by_cases hc3 : a1 = 4
          · have h := if_t hc3 h
            refine sw_in (tgt := 141) hx hb d_R_fits_38 hc3 (by decide) (by decide) rfl rfl ?_
            refine lv_iload hx hb d_R_fits_141 (lv_at hl 0 rfl) ?_
            refine lv_if_eq (tgt := 161) hx hb d_R_fits_143 rfl (fun hc => ?_) (fun hc => ?_)
            · have h := if_t hc h
              refine lv_iconst (v := 0) hx hb d_R_fits_161 (by decide) ?_
              obtain rfl := Option.some.inj h
              exact W.zret hx hb hr rfl (fun t ht hW => ⟨rfl, ht⟩) (fun _ h9 => nomatch h9) d_R_fits_162
            · have h := if_f hc h
              refine lv_iload hx hb d_R_fits_146 (lv_at hl 5 rfl) ?_
              refine lv_iconst (v := 0) hx hb d_R_fits_148 (by decide) ?_
              refine lv_bipush (v := 7) hx hb d_R_fits_149 (by decide) ?_
              obtain ⟨r101, hcl, h⟩ := bd_some h
              refine cx_read (va_runS (As := [.int a4, .int 0, .int 7]) (rest := []) ⟨hx, hb, hml, hown, hts⟩ (c_R_in l dC dI q cA σ a4 0 7 _ hcl) (cw_R_72 hts ⟨Nat.le_of_ble_eq_true rfl, Nat.le_of_ble_eq_true rfl⟩) ⟨pxR_B, pxR_U hP hK hD hN hZ hS⟩ rfl rfl hl.1 rfl (lv_room (Nat.le_of_ble_eq_true rfl)) d_R_fits_151 ⟨Nat.zero_le _, Nat.zero_le _⟩) ?_
              refine lv_if_eq (tgt := 161) hx hb d_R_fits_154 rfl (fun hc => ?_) (fun hc => ?_)
              · have h := if_t hc h
                refine lv_iconst (v := 0) hx hb d_R_fits_161 (by decide) ?_
                obtain rfl := Option.some.inj h
                exact W.zret hx hb hr rfl (fun t ht hW => ⟨rfl, ht⟩) (fun _ h9 => nomatch h9) d_R_fits_162
              · have h := if_f hc h
                refine lv_iconst (v := 1) hx hb d_R_fits_157 (by decide) ?_
                refine lv_goto (tgt := 162) hx hb d_R_fits_158 rfl ?_
                obtain rfl := Option.some.inj h
                exact W.zret hx hb hr rfl (fun t ht hW => ⟨rfl, ht⟩) (fun _ h9 => nomatch h9) d_R_fits_162
          have h := if_f hc3 h
          by_cases hc4 : a1 = 5
          · have h := if_t hc4 h
            refine sw_in (tgt := 218) hx hb d_R_fits_38 hc4 (by decide) (by decide) rfl rfl ?_
            refine lv_iload_n hx hb d_R_fits_218 rfl (lv_at hl 2 rfl) ?_
            refine lv_iconst (v := 0) hx hb d_R_fits_219 (by decide) ?_
            refine lv_bipush (v := 13) hx hb d_R_fits_220 (by decide) ?_
            obtain ⟨r102, hcl, h⟩ := bd_some h
            refine cx_read (va_runS (As := [.int a1, .int 0, .int 13]) (rest := []) ⟨hx, hb, hml, hown, hts⟩ (c_R_in l dC dI q cA σ a1 0 13 _ hcl) (cw_R_72 hts ⟨Nat.le_of_ble_eq_true rfl, Nat.le_of_ble_eq_true rfl⟩) ⟨pxR_B, pxR_U hP hK hD hN hZ hS⟩ rfl rfl hl.1 rfl (lv_room (Nat.le_of_ble_eq_true rfl)) d_R_fits_222 ⟨Nat.zero_le _, Nat.zero_le _⟩) ?_
            refine lv_if_eq (tgt := 237) hx hb d_R_fits_225 rfl (fun hc => ?_) (fun hc => ?_)
            · have h := if_t hc h
              refine lv_iconst (v := 0) hx hb d_R_fits_237 (by decide) ?_
              obtain rfl := Option.some.inj h
              exact W.zret hx hb hr rfl (fun t ht hW => ⟨rfl, ht⟩) (fun _ h9 => nomatch h9) d_R_fits_238
            · have h := if_f hc h
              refine lv_iload hx hb d_R_fits_228 (lv_at hl 0 rfl) ?_
              refine lv_if_eq (tgt := 237) hx hb d_R_fits_230 rfl (fun hc => ?_) (fun hc => ?_)
              · have h := if_t hc h
                refine lv_iconst (v := 0) hx hb d_R_fits_237 (by decide) ?_
                obtain rfl := Option.some.inj h
                exact W.zret hx hb hr rfl (fun t ht hW => ⟨rfl, ht⟩) (fun _ h9 => nomatch h9) d_R_fits_238
              · have h := if_f hc h
                refine lv_iconst (v := 1) hx hb d_R_fits_233 (by decide) ?_
                refine lv_goto (tgt := 238) hx hb d_R_fits_234 rfl ?_
                obtain rfl := Option.some.inj h
                exact W.zret hx hb hr rfl (fun t ht hW => ⟨rfl, ht⟩) (fun _ h9 => nomatch h9) d_R_fits_238
          have h := if_f hc4 h
          by_cases hc5 : a1 = 6
          · have h := if_t hc5 h
            refine sw_in (tgt := 218) hx hb d_R_fits_38 hc5 (by decide) (by decide) rfl rfl ?_
            refine lv_iload_n hx hb d_R_fits_218 rfl (lv_at hl 2 rfl) ?_
            refine lv_iconst (v := 0) hx hb d_R_fits_219 (by decide) ?_
            refine lv_bipush (v := 13) hx hb d_R_fits_220 (by decide) ?_
            obtain ⟨r103, hcl, h⟩ := bd_some h
            refine cx_read (va_runS (As := [.int a1, .int 0, .int 13]) (rest := []) ⟨hx, hb, hml, hown, hts⟩ (c_R_in l dC dI q cA σ a1 0 13 _ hcl) (cw_R_72 hts ⟨Nat.le_of_ble_eq_true rfl, Nat.le_of_ble_eq_true rfl⟩) ⟨pxR_B, pxR_U hP hK hD hN hZ hS⟩ rfl rfl hl.1 rfl (lv_room (Nat.le_of_ble_eq_true rfl)) d_R_fits_222 ⟨Nat.zero_le _, Nat.zero_le _⟩) ?_
            refine lv_if_eq (tgt := 237) hx hb d_R_fits_225 rfl (fun hc => ?_) (fun hc => ?_)
            · have h := if_t hc h
              refine lv_iconst (v := 0) hx hb d_R_fits_237 (by decide) ?_
              obtain rfl := Option.some.inj h
              exact W.zret hx hb hr rfl (fun t ht hW => ⟨rfl, ht⟩) (fun _ h9 => nomatch h9) d_R_fits_238
            · have h := if_f hc h
              refine lv_iload hx hb d_R_fits_228 (lv_at hl 0 rfl) ?_
              refine lv_if_eq (tgt := 237) hx hb d_R_fits_230 rfl (fun hc => ?_) (fun hc => ?_)
              · have h := if_t hc h
                refine lv_iconst (v := 0) hx hb d_R_fits_237 (by decide) ?_
                obtain rfl := Option.some.inj h
                exact W.zret hx hb hr rfl (fun t ht hW => ⟨rfl, ht⟩) (fun _ h9 => nomatch h9) d_R_fits_238
              · have h := if_f hc h
                refine lv_iconst (v := 1) hx hb d_R_fits_233 (by decide) ?_
                refine lv_goto (tgt := 238) hx hb d_R_fits_234 rfl ?_
                obtain rfl := Option.some.inj h
                exact W.zret hx hb hr rfl (fun t ht hW => ⟨rfl, ht⟩) (fun _ h9 => nomatch h9) d_R_fits_238
          have h := if_f hc5 h
          by_cases hc6 : a1 = 7
          · have h := if_t hc6 h
            refine sw_in (tgt := 218) hx hb d_R_fits_38 hc6 (by decide) (by decide) rfl rfl ?_
            refine lv_iload_n hx hb d_R_fits_218 rfl (lv_at hl 2 rfl) ?_
            refine lv_iconst (v := 0) hx hb d_R_fits_219 (by decide) ?_
            refine lv_bipush (v := 13) hx hb d_R_fits_220 (by decide) ?_
            obtain ⟨r104, hcl, h⟩ := bd_some h
            refine cx_read (va_runS (As := [.int a1, .int 0, .int 13]) (rest := []) ⟨hx, hb, hml, hown, hts⟩ (c_R_in l dC dI q cA σ a1 0 13 _ hcl) (cw_R_72 hts ⟨Nat.le_of_ble_eq_true rfl, Nat.le_of_ble_eq_true rfl⟩) ⟨pxR_B, pxR_U hP hK hD hN hZ hS⟩ rfl rfl hl.1 rfl (lv_room (Nat.le_of_ble_eq_true rfl)) d_R_fits_222 ⟨Nat.zero_le _, Nat.zero_le _⟩) ?_
            refine lv_if_eq (tgt := 237) hx hb d_R_fits_225 rfl (fun hc => ?_) (fun hc => ?_)
            · have h := if_t hc h
              refine lv_iconst (v := 0) hx hb d_R_fits_237 (by decide) ?_
              obtain rfl := Option.some.inj h
              exact W.zret hx hb hr rfl (fun t ht hW => ⟨rfl, ht⟩) (fun _ h9 => nomatch h9) d_R_fits_238
            · have h := if_f hc h
              refine lv_iload hx hb d_R_fits_228 (lv_at hl 0 rfl) ?_
              refine lv_if_eq (tgt := 237) hx hb d_R_fits_230 rfl (fun hc => ?_) (fun hc => ?_)
              · have h := if_t hc h
                refine lv_iconst (v := 0) hx hb d_R_fits_237 (by decide) ?_
                obtain rfl := Option.some.inj h
                exact W.zret hx hb hr rfl (fun t ht hW => ⟨rfl, ht⟩) (fun _ h9 => nomatch h9) d_R_fits_238
              · have h := if_f hc h
                refine lv_iconst (v := 1) hx hb d_R_fits_233 (by decide) ?_
                refine lv_goto (tgt := 238) hx hb d_R_fits_234 rfl ?_
                obtain rfl := Option.some.inj h
                exact W.zret hx hb hr rfl (fun t ht hW => ⟨rfl, ht⟩) (fun _ h9 => nomatch h9) d_R_fits_238
          have h := if_f hc6 h
          by_cases hc7 : a1 = 8
          · have h := if_t hc7 h
            refine sw_in (tgt := 218) hx hb d_R_fits_38 hc7 (by decide) (by decide) rfl rfl ?_
            refine lv_iload_n hx hb d_R_fits_218 rfl (lv_at hl 2 rfl) ?_
            refine lv_iconst (v := 0) hx hb d_R_fits_219 (by decide) ?_
            refine lv_bipush (v := 13) hx hb d_R_fits_220 (by decide) ?_
            obtain ⟨r105, hcl, h⟩ := bd_some h
            refine cx_read (va_runS (As := [.int a1, .int 0, .int 13]) (rest := []) ⟨hx, hb, hml, hown, hts⟩ (c_R_in l dC dI q cA σ a1 0 13 _ hcl) (cw_R_72 hts ⟨Nat.le_of_ble_eq_true rfl, Nat.le_of_ble_eq_true rfl⟩) ⟨pxR_B, pxR_U hP hK hD hN hZ hS⟩ rfl rfl hl.1 rfl (lv_room (Nat.le_of_ble_eq_true rfl)) d_R_fits_222 ⟨Nat.zero_le _, Nat.zero_le _⟩) ?_
            refine lv_if_eq (tgt := 237) hx hb d_R_fits_225 rfl (fun hc => ?_) (fun hc => ?_)
            · have h := if_t hc h
              refine lv_iconst (v := 0) hx hb d_R_fits_237 (by decide) ?_
              obtain rfl := Option.some.inj h
              exact W.zret hx hb hr rfl (fun t ht hW => ⟨rfl, ht⟩) (fun _ h9 => nomatch h9) d_R_fits_238
            · have h := if_f hc h
              refine lv_iload hx hb d_R_fits_228 (lv_at hl 0 rfl) ?_
              refine lv_if_eq (tgt := 237) hx hb d_R_fits_230 rfl (fun hc => ?_) (fun hc => ?_)
              · have h := if_t hc h
                refine lv_iconst (v := 0) hx hb d_R_fits_237 (by decide) ?_
                obtain rfl := Option.some.inj h
                exact W.zret hx hb hr rfl (fun t ht hW => ⟨rfl, ht⟩) (fun _ h9 => nomatch h9) d_R_fits_238
              · have h := if_f hc h
                refine lv_iconst (v := 1) hx hb d_R_fits_233 (by decide) ?_
                refine lv_goto (tgt := 238) hx hb d_R_fits_234 rfl ?_
                obtain rfl := Option.some.inj h
                exact W.zret hx hb hr rfl (fun t ht hW => ⟨rfl, ht⟩) (fun _ h9 => nomatch h9) d_R_fits_238
          have h := if_f hc7 h
          by_cases hc8 : a1 = 9
          · have h := if_t hc8 h
            refine sw_in (tgt := 163) hx hb d_R_fits_38 hc8 (by decide) (by decide) rfl rfl ?_
            refine lv_iload hx hb d_R_fits_163 (lv_at hl 0 rfl) ?_
            refine lv_if_eq (tgt := 182) hx hb d_R_fits_165 rfl (fun hc => ?_) (fun hc => ?_)
            · have h := if_t hc h
              refine lv_iconst (v := 0) hx hb d_R_fits_182 (by decide) ?_
              obtain rfl := Option.some.inj h
              exact W.zret hx hb hr rfl (fun t ht hW => ⟨rfl, ht⟩) (fun _ h9 => nomatch h9) d_R_fits_183
            · have h := if_f hc h
              refine lv_iload_n hx hb d_R_fits_168 rfl (lv_at hl 4 rfl) ?_
              refine lv_iconst (v := 0) hx hb d_R_fits_169 (by decide) ?_
              refine lv_bipush (v := 7) hx hb d_R_fits_170 (by decide) ?_
              obtain ⟨r106, hcl, h⟩ := bd_some h
              refine cx_read (va_runS (As := [.int a3, .int 0, .int 7]) (rest := []) ⟨hx, hb, hml, hown, hts⟩ (c_R_in l dC dI q cA σ a3 0 7 _ hcl) (cw_R_72 hts ⟨Nat.le_of_ble_eq_true rfl, Nat.le_of_ble_eq_true rfl⟩) ⟨pxR_B, pxR_U hP hK hD hN hZ hS⟩ rfl rfl hl.1 rfl (lv_room (Nat.le_of_ble_eq_true rfl)) d_R_fits_172 ⟨Nat.zero_le _, Nat.zero_le _⟩) ?_
              refine lv_if_eq (tgt := 182) hx hb d_R_fits_175 rfl (fun hc => ?_) (fun hc => ?_)
              · have h := if_t hc h
                refine lv_iconst (v := 0) hx hb d_R_fits_182 (by decide) ?_
                obtain rfl := Option.some.inj h
                exact W.zret hx hb hr rfl (fun t ht hW => ⟨rfl, ht⟩) (fun _ h9 => nomatch h9) d_R_fits_183
              · have h := if_f hc h
                refine lv_iconst (v := 1) hx hb d_R_fits_178 (by decide) ?_
                refine lv_goto (tgt := 183) hx hb d_R_fits_179 rfl ?_
                obtain rfl := Option.some.inj h
                exact W.zret hx hb hr rfl (fun t ht hW => ⟨rfl, ht⟩) (fun _ h9 => nomatch h9) d_R_fits_183
          have h := if_f hc8 h
          by_cases hc9 : a1 = 10
          · have h := if_t hc9 h
            refine sw_in (tgt := 218) hx hb d_R_fits_38 hc9 (by decide) (by decide) rfl rfl ?_
            refine lv_iload_n hx hb d_R_fits_218 rfl (lv_at hl 2 rfl) ?_
            refine lv_iconst (v := 0) hx hb d_R_fits_219 (by decide) ?_
            refine lv_bipush (v := 13) hx hb d_R_fits_220 (by decide) ?_
            obtain ⟨r107, hcl, h⟩ := bd_some h
            refine cx_read (va_runS (As := [.int a1, .int 0, .int 13]) (rest := []) ⟨hx, hb, hml, hown, hts⟩ (c_R_in l dC dI q cA σ a1 0 13 _ hcl) (cw_R_72 hts ⟨Nat.le_of_ble_eq_true rfl, Nat.le_of_ble_eq_true rfl⟩) ⟨pxR_B, pxR_U hP hK hD hN hZ hS⟩ rfl rfl hl.1 rfl (lv_room (Nat.le_of_ble_eq_true rfl)) d_R_fits_222 ⟨Nat.zero_le _, Nat.zero_le _⟩) ?_
            refine lv_if_eq (tgt := 237) hx hb d_R_fits_225 rfl (fun hc => ?_) (fun hc => ?_)
            · have h := if_t hc h
              refine lv_iconst (v := 0) hx hb d_R_fits_237 (by decide) ?_
              obtain rfl := Option.some.inj h
              exact W.zret hx hb hr rfl (fun t ht hW => ⟨rfl, ht⟩) (fun _ h9 => nomatch h9) d_R_fits_238
            · have h := if_f hc h
              refine lv_iload hx hb d_R_fits_228 (lv_at hl 0 rfl) ?_
              refine lv_if_eq (tgt := 237) hx hb d_R_fits_230 rfl (fun hc => ?_) (fun hc => ?_)
              · have h := if_t hc h
                refine lv_iconst (v := 0) hx hb d_R_fits_237 (by decide) ?_
                obtain rfl := Option.some.inj h
                exact W.zret hx hb hr rfl (fun t ht hW => ⟨rfl, ht⟩) (fun _ h9 => nomatch h9) d_R_fits_238
              · have h := if_f hc h
                refine lv_iconst (v := 1) hx hb d_R_fits_233 (by decide) ?_
                refine lv_goto (tgt := 238) hx hb d_R_fits_234 rfl ?_
                obtain rfl := Option.some.inj h
                exact W.zret hx hb hr rfl (fun t ht hW => ⟨rfl, ht⟩) (fun _ h9 => nomatch h9) d_R_fits_238
          have h := if_f hc9 h
          by_cases hc10 : a1 = 11
          · have h := if_t hc10 h
            refine sw_in (tgt := 184) hx hb d_R_fits_38 hc10 (by decide) (by decide) rfl rfl ?_
            refine lv_iload_n hx hb d_R_fits_184 rfl (lv_at hl 3 rfl) ?_
            refine lv_iconst (v := 0) hx hb d_R_fits_185 (by decide) ?_
            refine lv_iconst (v := 5) hx hb d_R_fits_186 (by decide) ?_
            obtain ⟨r108, hcl, h⟩ := bd_some h
            refine cx_read (va_runS (As := [.int a2, .int 0, .int 5]) (rest := []) ⟨hx, hb, hml, hown, hts⟩ (c_R_in l dC dI q cA σ a2 0 5 _ hcl) (cw_R_72 hts ⟨Nat.le_of_ble_eq_true rfl, Nat.le_of_ble_eq_true rfl⟩) ⟨pxR_B, pxR_U hP hK hD hN hZ hS⟩ rfl rfl hl.1 rfl (lv_room (Nat.le_of_ble_eq_true rfl)) d_R_fits_187 ⟨Nat.zero_le _, Nat.zero_le _⟩) ?_
            obtain ⟨hbo, h⟩ := bo_some h
            obtain rfl := Option.some.inj h
            exact W.zret hx hb hr (bo_nar hbo) (fun t ht hW => ⟨rfl, ht⟩) (fun _ h9 => nomatch h9) d_R_fits_190
          have h := if_f hc10 h
          by_cases hc11 : a1 = 12
          · have h := if_t hc11 h
            refine sw_in (tgt := 191) hx hb d_R_fits_38 hc11 (by decide) (by decide) rfl rfl ?_
            refine lv_iload hx hb d_R_fits_191 (lv_at hl 0 rfl) ?_
            refine lv_if_eq (tgt := 209) hx hb d_R_fits_193 rfl (fun hc => ?_) (fun hc => ?_)
            · have h := if_t hc h
              refine lv_iconst (v := 0) hx hb d_R_fits_209 (by decide) ?_
              obtain rfl := Option.some.inj h
              exact W.zret hx hb hr rfl (fun t ht hW => ⟨rfl, ht⟩) (fun _ h9 => nomatch h9) d_R_fits_210
            · have h := if_f hc h
              refine lv_iload_n hx hb d_R_fits_196 rfl (lv_at hl 4 rfl) ?_
              refine lv_iconst (v := 0) hx hb d_R_fits_197 (by decide) ?_
              refine lv_iconst (v := 3) hx hb d_R_fits_198 (by decide) ?_
              obtain ⟨r109, hcl, h⟩ := bd_some h
              refine cx_read (va_runS (As := [.int a3, .int 0, .int 3]) (rest := []) ⟨hx, hb, hml, hown, hts⟩ (c_R_in l dC dI q cA σ a3 0 3 _ hcl) (cw_R_72 hts ⟨Nat.le_of_ble_eq_true rfl, Nat.le_of_ble_eq_true rfl⟩) ⟨pxR_B, pxR_U hP hK hD hN hZ hS⟩ rfl rfl hl.1 rfl (lv_room (Nat.le_of_ble_eq_true rfl)) d_R_fits_199 ⟨Nat.zero_le _, Nat.zero_le _⟩) ?_
              refine lv_if_eq (tgt := 209) hx hb d_R_fits_202 rfl (fun hc => ?_) (fun hc => ?_)
              · have h := if_t hc h
                refine lv_iconst (v := 0) hx hb d_R_fits_209 (by decide) ?_
                obtain rfl := Option.some.inj h
                exact W.zret hx hb hr rfl (fun t ht hW => ⟨rfl, ht⟩) (fun _ h9 => nomatch h9) d_R_fits_210
              · have h := if_f hc h
                refine lv_iconst (v := 1) hx hb d_R_fits_205 (by decide) ?_
                refine lv_goto (tgt := 210) hx hb d_R_fits_206 rfl ?_
                obtain rfl := Option.some.inj h
                exact W.zret hx hb hr rfl (fun t ht hW => ⟨rfl, ht⟩) (fun _ h9 => nomatch h9) d_R_fits_210
          have h := if_f hc11 h
          by_cases hc12 : a1 = 13
          · have h := if_t hc12 h
            refine sw_in (tgt := 211) hx hb d_R_fits_38 hc12 (by decide) (by decide) rfl rfl ?_
            refine lv_iload_n hx hb d_R_fits_211 rfl (lv_at hl 3 rfl) ?_
            refine lv_iconst (v := 0) hx hb d_R_fits_212 (by decide) ?_
            refine lv_iconst (v := 3) hx hb d_R_fits_213 (by decide) ?_
            obtain ⟨r110, hcl, h⟩ := bd_some h
            refine cx_read (va_runS (As := [.int a2, .int 0, .int 3]) (rest := []) ⟨hx, hb, hml, hown, hts⟩ (c_R_in l dC dI q cA σ a2 0 3 _ hcl) (cw_R_72 hts ⟨Nat.le_of_ble_eq_true rfl, Nat.le_of_ble_eq_true rfl⟩) ⟨pxR_B, pxR_U hP hK hD hN hZ hS⟩ rfl rfl hl.1 rfl (lv_room (Nat.le_of_ble_eq_true rfl)) d_R_fits_214 ⟨Nat.zero_le _, Nat.zero_le _⟩) ?_
            obtain ⟨hbo, h⟩ := bo_some h
            obtain rfl := Option.some.inj h
            exact W.zret hx hb hr (bo_nar hbo) (fun t ht hW => ⟨rfl, ht⟩) (fun _ h9 => nomatch h9) d_R_fits_217
          have h := if_f hc12 h
          refine lv_tableOut (tgt := 218) hx hb d_R_fits_38 (by have q0 := lv_neT hc0 (a := 1) (by decide); have q1 := lv_neT hc1 (a := 2) (by decide); have q2 := lv_neT hc2 (a := 3) (by decide); have q3 := lv_neT hc3 (a := 4) (by decide); have q4 := lv_neT hc4 (a := 5) (by decide); have q5 := lv_neT hc5 (a := 6) (by decide); have q6 := lv_neT hc6 (a := 7) (by decide); have q7 := lv_neT hc7 (a := 8) (by decide); have q8 := lv_neT hc8 (a := 9) (by decide); have q9 := lv_neT hc9 (a := 10) (by decide); have q10 := lv_neT hc10 (a := 11) (by decide); have q11 := lv_neT hc11 (a := 12) (by decide); have q12 := lv_neT hc12 (a := 13) (by decide); omega) rfl ?_
          refine lv_iload_n hx hb d_R_fits_218 rfl (lv_at hl 2 rfl) ?_
          refine lv_iconst (v := 0) hx hb d_R_fits_219 (by decide) ?_
          refine lv_bipush (v := 13) hx hb d_R_fits_220 (by decide) ?_
          obtain ⟨r111, hcl, h⟩ := bd_some h
          refine cx_read (va_runS (As := [.int a1, .int 0, .int 13]) (rest := []) ⟨hx, hb, hml, hown, hts⟩ (c_R_in l dC dI q cA σ a1 0 13 _ hcl) (cw_R_72 hts ⟨Nat.le_of_ble_eq_true rfl, Nat.le_of_ble_eq_true rfl⟩) ⟨pxR_B, pxR_U hP hK hD hN hZ hS⟩ rfl rfl hl.1 rfl (lv_room (Nat.le_of_ble_eq_true rfl)) d_R_fits_222 ⟨Nat.zero_le _, Nat.zero_le _⟩) ?_
          refine lv_if_eq (tgt := 237) hx hb d_R_fits_225 rfl (fun hc => ?_) (fun hc => ?_)
          · have h := if_t hc h
            refine lv_iconst (v := 0) hx hb d_R_fits_237 (by decide) ?_
            obtain rfl := Option.some.inj h
            exact W.zret hx hb hr rfl (fun t ht hW => ⟨rfl, ht⟩) (fun _ h9 => nomatch h9) d_R_fits_238
          · have h := if_f hc h
            refine lv_iload hx hb d_R_fits_228 (lv_at hl 0 rfl) ?_
            refine lv_if_eq (tgt := 237) hx hb d_R_fits_230 rfl (fun hc => ?_) (fun hc => ?_)
            · have h := if_t hc h
              refine lv_iconst (v := 0) hx hb d_R_fits_237 (by decide) ?_
              obtain rfl := Option.some.inj h
              exact W.zret hx hb hr rfl (fun t ht hW => ⟨rfl, ht⟩) (fun _ h9 => nomatch h9) d_R_fits_238
            · have h := if_f hc h
              refine lv_iconst (v := 1) hx hb d_R_fits_233 (by decide) ?_
              refine lv_goto (tgt := 238) hx hb d_R_fits_234 rfl ?_
              obtain rfl := Option.some.inj h
              exact W.zret hx hb hr rfl (fun t ht hW => ⟨rfl, ht⟩) (fun _ h9 => nomatch h9) d_R_fits_238
def y_R_height : MethodName := ⟨"StagedParsersModel", "height", "(III)I"⟩
def w_R_height : List Cond := .code y_R_height prog_9_method_9_code 6 (some .int) :: AW_
def rm_R_height : Room := { frames := 1, cells := 0, slots := 0, locals := 20 }
theorem d_R_height_0 : decode prog_9_method_9_code 0 = .ok (.iload_n 1, 1) := by decide +kernel
theorem d_R_height_1 : decode prog_9_method_9_code 1 = .ok (.invokestatic 76, 3) := by decide +kernel
theorem d_R_height_4 : decode prog_9_method_9_code 4 = .ok (.ifCond .eq 12, 3) := by decide +kernel
theorem d_R_height_7 : decode prog_9_method_9_code 7 = .ok (.aload_n 0, 1) := by decide +kernel
theorem d_R_height_8 : decode prog_9_method_9_code 8 = .ok (.getfield 22, 3) := by decide +kernel
theorem d_R_height_11 : decode prog_9_method_9_code 11 = .ok (.iload_n 2, 1) := by decide +kernel
theorem d_R_height_12 : decode prog_9_method_9_code 12 = .ok (.iaload, 1) := by decide +kernel
theorem d_R_height_13 : decode prog_9_method_9_code 13 = .ok (.goto 4, 3) := by decide +kernel
theorem d_R_height_16 : decode prog_9_method_9_code 16 = .ok (.iconst 0, 1) := by decide +kernel
theorem d_R_height_17 : decode prog_9_method_9_code 17 = .ok (.istore 4, 2) := by decide +kernel
theorem d_R_height_19 : decode prog_9_method_9_code 19 = .ok (.iload_n 1, 1) := by decide +kernel
theorem d_R_height_20 : decode prog_9_method_9_code 20 = .ok (.invokestatic 83, 3) := by decide +kernel
theorem d_R_height_23 : decode prog_9_method_9_code 23 = .ok (.ifCond .eq 12, 3) := by decide +kernel
theorem d_R_height_26 : decode prog_9_method_9_code 26 = .ok (.aload_n 0, 1) := by decide +kernel
theorem d_R_height_27 : decode prog_9_method_9_code 27 = .ok (.getfield 22, 3) := by decide +kernel
theorem d_R_height_30 : decode prog_9_method_9_code 30 = .ok (.iload_n 3, 1) := by decide +kernel
theorem d_R_height_31 : decode prog_9_method_9_code 31 = .ok (.iaload, 1) := by decide +kernel
theorem d_R_height_32 : decode prog_9_method_9_code 32 = .ok (.goto 4, 3) := by decide +kernel
theorem d_R_height_35 : decode prog_9_method_9_code 35 = .ok (.iconst 0, 1) := by decide +kernel
theorem d_R_height_36 : decode prog_9_method_9_code 36 = .ok (.istore 5, 2) := by decide +kernel
theorem d_R_height_38 : decode prog_9_method_9_code 38 = .ok (.iload 4, 2) := by decide +kernel
theorem d_R_height_40 : decode prog_9_method_9_code 40 = .ok (.iload 5, 2) := by decide +kernel
theorem d_R_height_42 : decode prog_9_method_9_code 42 = .ok (.if_icmp .le 8, 3) := by decide +kernel
theorem d_R_height_45 : decode prog_9_method_9_code 45 = .ok (.iload 4, 2) := by decide +kernel
theorem d_R_height_47 : decode prog_9_method_9_code 47 = .ok (.goto 5, 3) := by decide +kernel
theorem d_R_height_50 : decode prog_9_method_9_code 50 = .ok (.iload 5, 2) := by decide +kernel
theorem d_R_height_52 : decode prog_9_method_9_code 52 = .ok (.iconst 1, 1) := by decide +kernel
theorem d_R_height_53 : decode prog_9_method_9_code 53 = .ok (.iadd, 1) := by decide +kernel
theorem d_R_height_54 : decode prog_9_method_9_code 54 = .ok (.ireturn, 1) := by decide +kernel
section RW
variable {p : Program} {l : Launch} {e : Env} {R : Room} {s : State} {m : MethodId} {args : Array Value} {below : List Frame} {meth : Method} {c : Code} {H : Heap} {locs : List Loc} {cells slots : Nat} {Q : State → Prop}
variable {cc : ByteArray} {pc : Nat} {ls : Array Slot} {rest : List Value} {dC : Nat → ClassId} {dI : Nat → Nat → Nat} {q : Nat → Nat} {cA : Nat → ClassId} {σ : MZ_} {H0 : Heap} {A : Nat → Prop}

theorem gf_R_22 (hx : p.tables.exec = Jvm.exec) (hb : c.code = cc) (hts : ∀ w ∈ AW_, w.before args s = true) (hown : s.vm.findClass "StagedParsersModel" = some m.cls) (hK : va_K (dC, dI) cls_ (tyR cA) s) (hP : va_P (dC, dI) cls_ (wR q cA σ) H) (hdg : decode cc pc = .ok (.getfield 22, 3)) (kk : W p l e R s m args below meth c H locs cells slots Q (F0 m (pc + 3) ls (.ref (q 5) :: rest))) : W p l e R s m args below meth c H locs cells slots Q (F0 m pc ls (.ref (q 0) :: rest)) :=
  va_get (D := (dC, dI)) (cl := cls_) (ci := 7) (v := .ref (q 5)) (ws := wR q cA σ) (tys := tyR cA) (C := Rz_R) (T := Tz_R) (N := 34) hx hb hts uz_R hown hK hP 0 rfl rfl 6 (by decide) (hts _ kw_817) (fun _ h9 => h9) rfl hdg kk
end RW
def f_R_height (σ : MZ_) (a1 : Int32) (a2 : Int32) (a3 : Int32) : Option (Int32) :=
  (f_R_hasFirst a1).bind fun r1 => if r1 = 0 then (f_R_hasSecond a1).bind fun r2 => if r2 = 0 then if (0 : Int32) ≤ 0 then some (0 + 1)
      else some (0 + 1)
    else gd_ a3 80 (if 0 ≤ (σ 5 a3.toNatClampNeg) then some ((σ 5 a3.toNatClampNeg) + 1)
    else some (0 + 1))
  else gd_ a2 80 ((f_R_hasSecond a1).bind fun r3 => if r3 = 0 then if (σ 5 a2.toNatClampNeg) ≤ 0 then some (0 + 1)
    else some ((σ 5 a2.toNatClampNeg) + 1)
  else gd_ a3 80 (if (σ 5 a2.toNatClampNeg) ≤ (σ 5 a3.toNatClampNeg) then some ((σ 5 a3.toNatClampNeg) + 1)
  else some ((σ 5 a2.toNatClampNeg) + 1)))
set_option maxHeartbeats 4000000 in
set_option maxRecDepth 100000 in
theorem c_R_height (l : Launch) (dC : Nat → ClassId) (dI : Nat → Nat → Nat) (q : Nat → Nat) (cA : Nat → ClassId) (σ : MZ_) (a1 : Int32) (a2 : Int32) (a3 : Int32) (u : Int32) (h : f_R_height σ a1 a2 a3 = some u) : Met l y_R_height w_R_height rm_R_height (va_Pc [.ref (q 0), .int a1, .int a2, .int a3] (PRx_ dC dI q cA σ)) (QcRead u) 0 0 (fun _ => False) := by
  refine Met.ofW (cc := prog_9_method_9_code) (maxL := 6) (ret := (some .int)) (by decide) rfl ?_
  intro p e s m args below meth c s₁ B hml hv
  obtain ⟨rfl, hP, hK, hD, hN, hZ⟩ := hv
  have hx := B.exec
  have hb := B.bytes
  have hr := B.returns
  have hts : ∀ w ∈ AW_, w.before _ s = true := fun w h => atoms_spec (ws := w_R_height) B.pre w (List.mem_cons_of_mem _ h)
  have hown : s.vm.findClass "StagedParsersModel" = some m.cls := findClass_of_methodNamed B.named
  have hlocks := B.notSynchronized
  have hS : va_S (AR q) s.heap s.heap [] := va_S.rf
  have hl := lv_entry ([.ref (q 0), .int a1, .int a2, .int a3]) (n := 6) (Nat.le_of_ble_eq_true rfl)
  rw [lg_entry_eq]
  generalize (lg_sl ([.ref (q 0), .int a1, .int a2, .int a3]) ++ List.replicate (6 - (lg_sl ([.ref (q 0), .int a1, .int a2, .int a3])).length) Slot.unset).toArray = ls at hl ⊢
  have hl : lv_has ls 6 [(0, .ref (q 0)), (1, .int a1), (2, .int a2), (3, .int a3)] := hl
  rw [f_R_height] at h
  refine lv_iload_n hx hb d_R_height_0 rfl (lv_at hl 1 rfl) ?_
  obtain ⟨r1, hcl, h⟩ := bd_some h
  refine cx_read (va_runS (As := [.int a1]) (rest := []) ⟨hx, hb, hml, hown, hts⟩ (c_R_hasFirst l dC dI q cA σ a1 _ hcl) (cw_R_76 hts ⟨Nat.le_of_ble_eq_true rfl, Nat.le_of_ble_eq_true rfl⟩) ⟨pxR_B, pxR_U hP hK hD hN hZ hS⟩ rfl rfl hl.1 rfl (lv_room (Nat.le_of_ble_eq_true rfl)) d_R_height_1 ⟨Nat.zero_le _, Nat.zero_le _⟩) ?_
  refine lv_if_eq (tgt := 16) hx hb d_R_height_4 rfl (fun hc => ?_) (fun hc => ?_)
  · have h := if_t hc h
    refine lv_iconst (v := 0) hx hb d_R_height_16 (by decide) ?_
    refine lv_istore hx hb d_R_height_17 hl (by decide) rfl (fun ls hl => ?_)
    have hl : lv_has ls 6 [(4, .int 0), (0, .ref (q 0)), (1, .int a1), (2, .int a2), (3, .int a3)] := hl
    refine lv_iload_n hx hb d_R_height_19 rfl (lv_at hl 2 rfl) ?_
    obtain ⟨r2, hcl, h⟩ := bd_some h
    refine cx_read (va_runS (As := [.int a1]) (rest := []) ⟨hx, hb, hml, hown, hts⟩ (c_R_hasSecond l dC dI q cA σ a1 _ hcl) (cw_R_83 hts ⟨Nat.le_of_ble_eq_true rfl, Nat.le_of_ble_eq_true rfl⟩) ⟨pxR_B, pxR_U hP hK hD hN hZ hS⟩ rfl rfl hl.1 rfl (lv_room (Nat.le_of_ble_eq_true rfl)) d_R_height_20 ⟨Nat.zero_le _, Nat.zero_le _⟩) ?_
    refine lv_if_eq (tgt := 35) hx hb d_R_height_23 rfl (fun hc => ?_) (fun hc => ?_)
    · have h := if_t hc h
      refine lv_iconst (v := 0) hx hb d_R_height_35 (by decide) ?_
      refine lv_istore hx hb d_R_height_36 hl (by decide) rfl (fun ls hl => ?_)
      have hl : lv_has ls 6 [(5, .int 0), (4, .int 0), (0, .ref (q 0)), (1, .int a1), (2, .int a2), (3, .int a3)] := hl
      refine lv_iload hx hb d_R_height_38 (lv_at hl 1 rfl) ?_
      refine lv_iload hx hb d_R_height_40 (lv_at hl 0 rfl) ?_
      refine lv_icmp_le (tgt := 50) hx hb d_R_height_42 rfl (fun hc => ?_) (fun hc => ?_)
      · have h := if_t hc h
        refine lv_iload hx hb d_R_height_50 (lv_at hl 0 rfl) ?_
        refine lv_iconst (v := 1) hx hb d_R_height_52 (by decide) ?_
        refine lv_iadd hx hb d_R_height_53 ?_
        obtain rfl := Option.some.inj h
        exact W.iret hx hb hr (fun t ht hW => ⟨rfl, ht⟩) (fun _ h9 => nomatch h9) d_R_height_54
      · have h := if_f hc h
        refine lv_iload hx hb d_R_height_45 (lv_at hl 1 rfl) ?_
        refine lv_goto (tgt := 52) hx hb d_R_height_47 rfl ?_
        refine lv_iconst (v := 1) hx hb d_R_height_52 (by decide) ?_
        refine lv_iadd hx hb d_R_height_53 ?_
        obtain rfl := Option.some.inj h
        exact W.iret hx hb hr (fun t ht hW => ⟨rfl, ht⟩) (fun _ h9 => nomatch h9) d_R_height_54
    · have h := if_f hc h
      refine lv_aload_n hx hb d_R_height_26 rfl (lv_at hl 1 rfl) ?_
      refine gf_R_22 hx hb hts hown hK hP d_R_height_27 ?_
      refine lv_iload_n hx hb d_R_height_30 rfl (lv_at hl 4 rfl) ?_
      obtain ⟨hgd, h⟩ := gd_some h
      refine al_R_5 hx hb hK hP hgd d_R_height_31 ?_
      refine lv_goto (tgt := 36) hx hb d_R_height_32 rfl ?_
      refine lv_istore hx hb d_R_height_36 hl (by decide) rfl (fun ls hl => ?_)
      have hl : lv_has ls 6 [(5, .int (σ 5 a3.toNatClampNeg)), (4, .int 0), (0, .ref (q 0)), (1, .int a1), (2, .int a2), (3, .int a3)] := hl
      refine lv_iload hx hb d_R_height_38 (lv_at hl 1 rfl) ?_
      refine lv_iload hx hb d_R_height_40 (lv_at hl 0 rfl) ?_
      refine lv_icmp_le (tgt := 50) hx hb d_R_height_42 rfl (fun hc => ?_) (fun hc => ?_)
      · have h := if_t hc h
        refine lv_iload hx hb d_R_height_50 (lv_at hl 0 rfl) ?_
        refine lv_iconst (v := 1) hx hb d_R_height_52 (by decide) ?_
        refine lv_iadd hx hb d_R_height_53 ?_
        obtain rfl := Option.some.inj h
        exact W.iret hx hb hr (fun t ht hW => ⟨rfl, ht⟩) (fun _ h9 => nomatch h9) d_R_height_54
      · have h := if_f hc h
        refine lv_iload hx hb d_R_height_45 (lv_at hl 1 rfl) ?_
        refine lv_goto (tgt := 52) hx hb d_R_height_47 rfl ?_
        refine lv_iconst (v := 1) hx hb d_R_height_52 (by decide) ?_
        refine lv_iadd hx hb d_R_height_53 ?_
        obtain rfl := Option.some.inj h
        exact W.iret hx hb hr (fun t ht hW => ⟨rfl, ht⟩) (fun _ h9 => nomatch h9) d_R_height_54
  · have h := if_f hc h
    refine lv_aload_n hx hb d_R_height_7 rfl (lv_at hl 0 rfl) ?_
    refine gf_R_22 hx hb hts hown hK hP d_R_height_8 ?_
    refine lv_iload_n hx hb d_R_height_11 rfl (lv_at hl 2 rfl) ?_
    obtain ⟨hgd, h⟩ := gd_some h
    refine al_R_5 hx hb hK hP hgd d_R_height_12 ?_
    refine lv_goto (tgt := 17) hx hb d_R_height_13 rfl ?_
    refine lv_istore hx hb d_R_height_17 hl (by decide) rfl (fun ls hl => ?_)
    have hl : lv_has ls 6 [(4, .int (σ 5 a2.toNatClampNeg)), (0, .ref (q 0)), (1, .int a1), (2, .int a2), (3, .int a3)] := hl
    refine lv_iload_n hx hb d_R_height_19 rfl (lv_at hl 2 rfl) ?_
    obtain ⟨r3, hcl, h⟩ := bd_some h
    refine cx_read (va_runS (As := [.int a1]) (rest := []) ⟨hx, hb, hml, hown, hts⟩ (c_R_hasSecond l dC dI q cA σ a1 _ hcl) (cw_R_83 hts ⟨Nat.le_of_ble_eq_true rfl, Nat.le_of_ble_eq_true rfl⟩) ⟨pxR_B, pxR_U hP hK hD hN hZ hS⟩ rfl rfl hl.1 rfl (lv_room (Nat.le_of_ble_eq_true rfl)) d_R_height_20 ⟨Nat.zero_le _, Nat.zero_le _⟩) ?_
    refine lv_if_eq (tgt := 35) hx hb d_R_height_23 rfl (fun hc => ?_) (fun hc => ?_)
    · have h := if_t hc h
      refine lv_iconst (v := 0) hx hb d_R_height_35 (by decide) ?_
      refine lv_istore hx hb d_R_height_36 hl (by decide) rfl (fun ls hl => ?_)
      have hl : lv_has ls 6 [(5, .int 0), (4, .int (σ 5 a2.toNatClampNeg)), (0, .ref (q 0)), (1, .int a1), (2, .int a2), (3, .int a3)] := hl
      refine lv_iload hx hb d_R_height_38 (lv_at hl 1 rfl) ?_
      refine lv_iload hx hb d_R_height_40 (lv_at hl 0 rfl) ?_
      refine lv_icmp_le (tgt := 50) hx hb d_R_height_42 rfl (fun hc => ?_) (fun hc => ?_)
      · have h := if_t hc h
        refine lv_iload hx hb d_R_height_50 (lv_at hl 0 rfl) ?_
        refine lv_iconst (v := 1) hx hb d_R_height_52 (by decide) ?_
        refine lv_iadd hx hb d_R_height_53 ?_
        obtain rfl := Option.some.inj h
        exact W.iret hx hb hr (fun t ht hW => ⟨rfl, ht⟩) (fun _ h9 => nomatch h9) d_R_height_54
      · have h := if_f hc h
        refine lv_iload hx hb d_R_height_45 (lv_at hl 1 rfl) ?_
        refine lv_goto (tgt := 52) hx hb d_R_height_47 rfl ?_
        refine lv_iconst (v := 1) hx hb d_R_height_52 (by decide) ?_
        refine lv_iadd hx hb d_R_height_53 ?_
        obtain rfl := Option.some.inj h
        exact W.iret hx hb hr (fun t ht hW => ⟨rfl, ht⟩) (fun _ h9 => nomatch h9) d_R_height_54
    · have h := if_f hc h
      refine lv_aload_n hx hb d_R_height_26 rfl (lv_at hl 1 rfl) ?_
      refine gf_R_22 hx hb hts hown hK hP d_R_height_27 ?_
      refine lv_iload_n hx hb d_R_height_30 rfl (lv_at hl 4 rfl) ?_
      obtain ⟨hgd, h⟩ := gd_some h
      refine al_R_5 hx hb hK hP hgd d_R_height_31 ?_
      refine lv_goto (tgt := 36) hx hb d_R_height_32 rfl ?_
      refine lv_istore hx hb d_R_height_36 hl (by decide) rfl (fun ls hl => ?_)
      have hl : lv_has ls 6 [(5, .int (σ 5 a3.toNatClampNeg)), (4, .int (σ 5 a2.toNatClampNeg)), (0, .ref (q 0)), (1, .int a1), (2, .int a2), (3, .int a3)] := hl
      refine lv_iload hx hb d_R_height_38 (lv_at hl 1 rfl) ?_
      refine lv_iload hx hb d_R_height_40 (lv_at hl 0 rfl) ?_
      refine lv_icmp_le (tgt := 50) hx hb d_R_height_42 rfl (fun hc => ?_) (fun hc => ?_)
      · have h := if_t hc h
        refine lv_iload hx hb d_R_height_50 (lv_at hl 0 rfl) ?_
        refine lv_iconst (v := 1) hx hb d_R_height_52 (by decide) ?_
        refine lv_iadd hx hb d_R_height_53 ?_
        obtain rfl := Option.some.inj h
        exact W.iret hx hb hr (fun t ht hW => ⟨rfl, ht⟩) (fun _ h9 => nomatch h9) d_R_height_54
      · have h := if_f hc h
        refine lv_iload hx hb d_R_height_45 (lv_at hl 1 rfl) ?_
        refine lv_goto (tgt := 52) hx hb d_R_height_47 rfl ?_
        refine lv_iconst (v := 1) hx hb d_R_height_52 (by decide) ?_
        refine lv_iadd hx hb d_R_height_53 ?_
        obtain rfl := Option.some.inj h
        exact W.iret hx hb hr (fun t ht hW => ⟨rfl, ht⟩) (fun _ h9 => nomatch h9) d_R_height_54
def y_R_node : MethodName := ⟨"StagedParsersModel", "node", "(IIII)I"⟩
def w_R_node : List Cond := .code y_R_node prog_9_method_10_code 5 (some .int) :: AW_
def rm_R_node : Room := { frames := 3, cells := 0, slots := 0, locals := 68 }
theorem d_R_node_0 : decode prog_9_method_10_code 0 = .ok (.aload_n 0, 1) := by decide +kernel
theorem d_R_node_1 : decode prog_9_method_10_code 1 = .ok (.iconst 0, 1) := by decide +kernel
theorem d_R_node_2 : decode prog_9_method_10_code 2 = .ok (.putfield 65, 3) := by decide +kernel
theorem d_R_node_5 : decode prog_9_method_10_code 5 = .ok (.aload_n 0, 1) := by decide +kernel
theorem d_R_node_6 : decode prog_9_method_10_code 6 = .ok (.iload_n 1, 1) := by decide +kernel
theorem d_R_node_7 : decode prog_9_method_10_code 7 = .ok (.iload_n 2, 1) := by decide +kernel
theorem d_R_node_8 : decode prog_9_method_10_code 8 = .ok (.iload_n 3, 1) := by decide +kernel
theorem d_R_node_9 : decode prog_9_method_10_code 9 = .ok (.iload 4, 2) := by decide +kernel
theorem d_R_node_11 : decode prog_9_method_10_code 11 = .ok (.invokevirtual 86, 3) := by decide +kernel
theorem d_R_node_14 : decode prog_9_method_10_code 14 = .ok (.ifCond .eq 15, 3) := by decide +kernel
theorem d_R_node_17 : decode prog_9_method_10_code 17 = .ok (.aload_n 0, 1) := by decide +kernel
theorem d_R_node_18 : decode prog_9_method_10_code 18 = .ok (.iload_n 1, 1) := by decide +kernel
theorem d_R_node_19 : decode prog_9_method_10_code 19 = .ok (.iload_n 2, 1) := by decide +kernel
theorem d_R_node_20 : decode prog_9_method_10_code 20 = .ok (.iload_n 3, 1) := by decide +kernel
theorem d_R_node_21 : decode prog_9_method_10_code 21 = .ok (.invokevirtual 90, 3) := by decide +kernel
theorem d_R_node_24 : decode prog_9_method_10_code 24 = .ok (.bipush 8, 2) := by decide +kernel
theorem d_R_node_26 : decode prog_9_method_10_code 26 = .ok (.if_icmp .le 9, 3) := by decide +kernel
theorem d_R_node_29 : decode prog_9_method_10_code 29 = .ok (.aload_n 0, 1) := by decide +kernel
theorem d_R_node_30 : decode prog_9_method_10_code 30 = .ok (.iconst 1, 1) := by decide +kernel
theorem d_R_node_31 : decode prog_9_method_10_code 31 = .ok (.invokevirtual 94, 3) := by decide +kernel
theorem d_R_node_34 : decode prog_9_method_10_code 34 = .ok (.ireturn, 1) := by decide +kernel
theorem d_R_node_35 : decode prog_9_method_10_code 35 = .ok (.aload_n 0, 1) := by decide +kernel
theorem d_R_node_36 : decode prog_9_method_10_code 36 = .ok (.getfield 69, 3) := by decide +kernel
theorem d_R_node_39 : decode prog_9_method_10_code 39 = .ok (.bipush 80, 2) := by decide +kernel
theorem d_R_node_41 : decode prog_9_method_10_code 41 = .ok (.if_icmp .ne 9, 3) := by decide +kernel
theorem d_R_node_44 : decode prog_9_method_10_code 44 = .ok (.aload_n 0, 1) := by decide +kernel
theorem d_R_node_45 : decode prog_9_method_10_code 45 = .ok (.iconst 2, 1) := by decide +kernel
theorem d_R_node_46 : decode prog_9_method_10_code 46 = .ok (.invokevirtual 94, 3) := by decide +kernel
theorem d_R_node_49 : decode prog_9_method_10_code 49 = .ok (.ireturn, 1) := by decide +kernel
theorem d_R_node_50 : decode prog_9_method_10_code 50 = .ok (.aload_n 0, 1) := by decide +kernel
theorem d_R_node_51 : decode prog_9_method_10_code 51 = .ok (.getfield 7, 3) := by decide +kernel
theorem d_R_node_54 : decode prog_9_method_10_code 54 = .ok (.aload_n 0, 1) := by decide +kernel
theorem d_R_node_55 : decode prog_9_method_10_code 55 = .ok (.getfield 69, 3) := by decide +kernel
theorem d_R_node_58 : decode prog_9_method_10_code 58 = .ok (.iload_n 1, 1) := by decide +kernel
theorem d_R_node_59 : decode prog_9_method_10_code 59 = .ok (.iastore, 1) := by decide +kernel
theorem d_R_node_60 : decode prog_9_method_10_code 60 = .ok (.aload_n 0, 1) := by decide +kernel
theorem d_R_node_61 : decode prog_9_method_10_code 61 = .ok (.getfield 13, 3) := by decide +kernel
theorem d_R_node_64 : decode prog_9_method_10_code 64 = .ok (.aload_n 0, 1) := by decide +kernel
theorem d_R_node_65 : decode prog_9_method_10_code 65 = .ok (.getfield 69, 3) := by decide +kernel
theorem d_R_node_68 : decode prog_9_method_10_code 68 = .ok (.iload_n 2, 1) := by decide +kernel
theorem d_R_node_69 : decode prog_9_method_10_code 69 = .ok (.iastore, 1) := by decide +kernel
theorem d_R_node_70 : decode prog_9_method_10_code 70 = .ok (.aload_n 0, 1) := by decide +kernel
theorem d_R_node_71 : decode prog_9_method_10_code 71 = .ok (.getfield 16, 3) := by decide +kernel
theorem d_R_node_74 : decode prog_9_method_10_code 74 = .ok (.aload_n 0, 1) := by decide +kernel
theorem d_R_node_75 : decode prog_9_method_10_code 75 = .ok (.getfield 69, 3) := by decide +kernel
theorem d_R_node_78 : decode prog_9_method_10_code 78 = .ok (.iload_n 3, 1) := by decide +kernel
theorem d_R_node_79 : decode prog_9_method_10_code 79 = .ok (.iastore, 1) := by decide +kernel
theorem d_R_node_80 : decode prog_9_method_10_code 80 = .ok (.aload_n 0, 1) := by decide +kernel
theorem d_R_node_81 : decode prog_9_method_10_code 81 = .ok (.getfield 19, 3) := by decide +kernel
theorem d_R_node_84 : decode prog_9_method_10_code 84 = .ok (.aload_n 0, 1) := by decide +kernel
theorem d_R_node_85 : decode prog_9_method_10_code 85 = .ok (.getfield 69, 3) := by decide +kernel
theorem d_R_node_88 : decode prog_9_method_10_code 88 = .ok (.iload 4, 2) := by decide +kernel
theorem d_R_node_90 : decode prog_9_method_10_code 90 = .ok (.iastore, 1) := by decide +kernel
theorem d_R_node_91 : decode prog_9_method_10_code 91 = .ok (.aload_n 0, 1) := by decide +kernel
theorem d_R_node_92 : decode prog_9_method_10_code 92 = .ok (.getfield 22, 3) := by decide +kernel
theorem d_R_node_95 : decode prog_9_method_10_code 95 = .ok (.aload_n 0, 1) := by decide +kernel
theorem d_R_node_96 : decode prog_9_method_10_code 96 = .ok (.getfield 69, 3) := by decide +kernel
theorem d_R_node_99 : decode prog_9_method_10_code 99 = .ok (.aload_n 0, 1) := by decide +kernel
theorem d_R_node_100 : decode prog_9_method_10_code 100 = .ok (.iload_n 1, 1) := by decide +kernel
theorem d_R_node_101 : decode prog_9_method_10_code 101 = .ok (.iload_n 2, 1) := by decide +kernel
theorem d_R_node_102 : decode prog_9_method_10_code 102 = .ok (.iload_n 3, 1) := by decide +kernel
theorem d_R_node_103 : decode prog_9_method_10_code 103 = .ok (.invokevirtual 90, 3) := by decide +kernel
theorem d_R_node_106 : decode prog_9_method_10_code 106 = .ok (.iastore, 1) := by decide +kernel
theorem d_R_node_107 : decode prog_9_method_10_code 107 = .ok (.aload_n 0, 1) := by decide +kernel
theorem d_R_node_108 : decode prog_9_method_10_code 108 = .ok (.dup, 1) := by decide +kernel
theorem d_R_node_109 : decode prog_9_method_10_code 109 = .ok (.getfield 69, 3) := by decide +kernel
theorem d_R_node_112 : decode prog_9_method_10_code 112 = .ok (.iconst 1, 1) := by decide +kernel
theorem d_R_node_113 : decode prog_9_method_10_code 113 = .ok (.iadd, 1) := by decide +kernel
theorem d_R_node_114 : decode prog_9_method_10_code 114 = .ok (.putfield 69, 3) := by decide +kernel
theorem d_R_node_117 : decode prog_9_method_10_code 117 = .ok (.aload_n 0, 1) := by decide +kernel
theorem d_R_node_118 : decode prog_9_method_10_code 118 = .ok (.getfield 69, 3) := by decide +kernel
theorem d_R_node_121 : decode prog_9_method_10_code 121 = .ok (.iconst 1, 1) := by decide +kernel
theorem d_R_node_122 : decode prog_9_method_10_code 122 = .ok (.isub, 1) := by decide +kernel
theorem d_R_node_123 : decode prog_9_method_10_code 123 = .ok (.ireturn, 1) := by decide +kernel
section RW
variable {p : Program} {l : Launch} {e : Env} {R : Room} {s : State} {m : MethodId} {args : Array Value} {below : List Frame} {meth : Method} {c : Code} {H : Heap} {locs : List Loc} {cells slots : Nat} {Q : State → Prop}
variable {cc : ByteArray} {pc : Nat} {ls : Array Slot} {rest : List Value} {dC : Nat → ClassId} {dI : Nat → Nat → Nat} {q : Nat → Nat} {cA : Nat → ClassId} {σ : MZ_} {H0 : Heap} {A : Nat → Prop}

theorem cw_R_86 (hts : ∀ w ∈ AW_, w.before args s = true) (hR : rm_R_fits.frames + 1 ≤ R.frames ∧ 8 + (6 + 11) + rm_R_fits.locals ≤ R.locals) : CallW R s args "StagedParsersModel" "StagedParsersModel" 86 y_R_fits prog_9_method_8_code 6 (some .boolean) w_R_fits rm_R_fits 0 0 4 :=
  ⟨callB_of 4 hts (aw_in kw_925) rfl rfl rfl (hts _ kw_9) (hts _ kw_922) ⟨by decide, by decide, by decide +kernel⟩ hR, hts _ kw_924, hts _ ks_40⟩
theorem cw_R_94 (hts : ∀ w ∈ AW_, w.before args s = true) (hR : rm_R_fails.frames + 1 ≤ R.frames ∧ 8 + (2 + 11) + rm_R_fails.locals ≤ R.locals) : CallW R s args "StagedParsersModel" "StagedParsersModel" 94 y_R_fails prog_9_method_3_code 2 (some .int) w_R_fails rm_R_fails 0 0 1 :=
  ⟨callB_of 1 hts (aw_in kw_946) rfl rfl rfl (hts _ kw_9) (hts _ kw_943) ⟨by decide, by decide, by decide +kernel⟩ hR, hts _ kw_945, hts _ ks_43⟩
theorem cw_R_90 (hts : ∀ w ∈ AW_, w.before args s = true) (hR : rm_R_height.frames + 1 ≤ R.frames ∧ 8 + (6 + 11) + rm_R_height.locals ≤ R.locals) : CallW R s args "StagedParsersModel" "StagedParsersModel" 90 y_R_height prog_9_method_9_code 6 (some .int) w_R_height rm_R_height 0 0 3 :=
  ⟨callB_of 3 hts (aw_in kw_942) rfl rfl rfl (hts _ kw_9) (hts _ kw_939) ⟨by decide, by decide, by decide +kernel⟩ hR, hts _ kw_941, hts _ ks_42⟩
theorem gf_R_7 (hx : p.tables.exec = Jvm.exec) (hb : c.code = cc) (hts : ∀ w ∈ AW_, w.before args s = true) (hown : s.vm.findClass "StagedParsersModel" = some m.cls) (hK : va_K (dC, dI) cls_ (tyR cA) s) (hP : va_P (dC, dI) cls_ (wR q cA σ) H) (hdg : decode cc pc = .ok (.getfield 7, 3)) (kk : W p l e R s m args below meth c H locs cells slots Q (F0 m (pc + 3) ls (.ref (q 1) :: rest))) : W p l e R s m args below meth c H locs cells slots Q (F0 m pc ls (.ref (q 0) :: rest)) :=
  va_get (D := (dC, dI)) (cl := cls_) (ci := 7) (v := .ref (q 1)) (ws := wR q cA σ) (tys := tyR cA) (C := Rz_R) (T := Tz_R) (N := 34) hx hb hts uz_R hown hK hP 0 rfl rfl 2 (by decide) (hts _ kw_813) (fun _ h9 => h9) rfl hdg kk
theorem gf_R_13 (hx : p.tables.exec = Jvm.exec) (hb : c.code = cc) (hts : ∀ w ∈ AW_, w.before args s = true) (hown : s.vm.findClass "StagedParsersModel" = some m.cls) (hK : va_K (dC, dI) cls_ (tyR cA) s) (hP : va_P (dC, dI) cls_ (wR q cA σ) H) (hdg : decode cc pc = .ok (.getfield 13, 3)) (kk : W p l e R s m args below meth c H locs cells slots Q (F0 m (pc + 3) ls (.ref (q 2) :: rest))) : W p l e R s m args below meth c H locs cells slots Q (F0 m pc ls (.ref (q 0) :: rest)) :=
  va_get (D := (dC, dI)) (cl := cls_) (ci := 7) (v := .ref (q 2)) (ws := wR q cA σ) (tys := tyR cA) (C := Rz_R) (T := Tz_R) (N := 34) hx hb hts uz_R hown hK hP 0 rfl rfl 3 (by decide) (hts _ kw_814) (fun _ h9 => h9) rfl hdg kk
theorem gf_R_16 (hx : p.tables.exec = Jvm.exec) (hb : c.code = cc) (hts : ∀ w ∈ AW_, w.before args s = true) (hown : s.vm.findClass "StagedParsersModel" = some m.cls) (hK : va_K (dC, dI) cls_ (tyR cA) s) (hP : va_P (dC, dI) cls_ (wR q cA σ) H) (hdg : decode cc pc = .ok (.getfield 16, 3)) (kk : W p l e R s m args below meth c H locs cells slots Q (F0 m (pc + 3) ls (.ref (q 3) :: rest))) : W p l e R s m args below meth c H locs cells slots Q (F0 m pc ls (.ref (q 0) :: rest)) :=
  va_get (D := (dC, dI)) (cl := cls_) (ci := 7) (v := .ref (q 3)) (ws := wR q cA σ) (tys := tyR cA) (C := Rz_R) (T := Tz_R) (N := 34) hx hb hts uz_R hown hK hP 0 rfl rfl 4 (by decide) (hts _ kw_815) (fun _ h9 => h9) rfl hdg kk
theorem gf_R_19 (hx : p.tables.exec = Jvm.exec) (hb : c.code = cc) (hts : ∀ w ∈ AW_, w.before args s = true) (hown : s.vm.findClass "StagedParsersModel" = some m.cls) (hK : va_K (dC, dI) cls_ (tyR cA) s) (hP : va_P (dC, dI) cls_ (wR q cA σ) H) (hdg : decode cc pc = .ok (.getfield 19, 3)) (kk : W p l e R s m args below meth c H locs cells slots Q (F0 m (pc + 3) ls (.ref (q 4) :: rest))) : W p l e R s m args below meth c H locs cells slots Q (F0 m pc ls (.ref (q 0) :: rest)) :=
  va_get (D := (dC, dI)) (cl := cls_) (ci := 7) (v := .ref (q 4)) (ws := wR q cA σ) (tys := tyR cA) (C := Rz_R) (T := Tz_R) (N := 34) hx hb hts uz_R hown hK hP 0 rfl rfl 5 (by decide) (hts _ kw_816) (fun _ h9 => h9) rfl hdg kk
theorem pf_R_69 (hx : p.tables.exec = Jvm.exec) (hb : c.code = cc) (hts : ∀ w ∈ AW_, w.before args s = true) (hown : s.vm.findClass "StagedParsersModel" = some m.cls) (hK : va_K (dC, dI) cls_ (tyR cA) s) (hP : va_P (dC, dI) cls_ (wR q cA σ) H) (hD : va_D A (wR q cA σ)) (hS : va_S A H0 H locs) {v : Int32} (hdg : decode cc pc = .ok (.putfield 69, 3)) (kk : ∀ (H1 : Heap) (locs1 : List Loc), va_P (dC, dI) cls_ (wR q cA (va_up σ 31 (fun _ => v))) H1 → va_S A H0 H1 locs1 → W p l e R s m args below meth c H1 locs1 cells slots Q (F0 m (pc + 3) ls rest)) : W p l e R s m args below meth c H locs cells slots Q (F0 m pc ls (.int v :: .ref (q 0) :: rest)) :=
  va_put (D := (dC, dI)) (cl := cls_) (ci := 7) (v := .int v) (ty := .int) (ws := wR q cA σ) (tys := tyR cA) (C := Rz_R) (T := Tz_R) (N := 34) hx hb hts uz_R tz_R tz_R_ok nz_R hown hK hP hD hS 0 rfl rfl 1 (by decide) (hts _ kw_812) (fun _ h9 => h9) rfl (by decide +kernel) rfl rfl (Nat.le_of_ble_eq_true rfl) hdg (fun H1 locs1 hP _ hS => kk H1 locs1 hP hS)
end RW
def f_R_node (σ : MZ_) (a1 : Int32) (a2 : Int32) (a3 : Int32) (a4 : Int32) : Option (Int32 × MZ_) :=
  st_ (va_up σ 30 (fun _ => 0)) fun σ1 => (f_R_fits σ1 a1 a2 a3 a4).bind fun r1 => if r1 = 0 then (f_R_fails σ1 1).bind fun u2 => some (u2.1, u2.2)
  else (f_R_height σ1 a1 a2 a3).bind fun r3 => if r3 ≤ 8 then if (σ1 31 0) = 80 then (f_R_fails σ1 2).bind fun u5 => some (u5.1, u5.2)
    else gd_ (σ1 31 0) 80 (st_ (va_up σ1 1 (upd (σ1 1) (σ1 31 0).toNatClampNeg a1)) fun σ2 => gd_ (σ2 31 0) 80 (st_ (va_up σ2 2 (upd (σ2 2) (σ2 31 0).toNatClampNeg a2)) fun σ3 => gd_ (σ3 31 0) 80 (st_ (va_up σ3 3 (upd (σ3 3) (σ3 31 0).toNatClampNeg a3)) fun σ4 => gd_ (σ4 31 0) 80 (st_ (va_up σ4 4 (upd (σ4 4) (σ4 31 0).toNatClampNeg a4)) fun σ5 => (f_R_height σ5 a1 a2 a3).bind fun r4 => gd_ (σ5 31 0) 80 (st_ (va_up σ5 5 (upd (σ5 5) (σ5 31 0).toNatClampNeg r4)) fun σ6 => st_ (va_up σ6 31 (fun _ => (σ6 31 0) + 1)) fun σ7 => some ((σ7 31 0) - 1, σ7))))))
  else (f_R_fails σ1 1).bind fun u6 => some (u6.1, u6.2)
set_option maxHeartbeats 4000000 in
set_option maxRecDepth 100000 in
theorem c_R_node (l : Launch) (dC : Nat → ClassId) (dI : Nat → Nat → Nat) (q : Nat → Nat) (cA : Nat → ClassId) (σ : MZ_) (a1 : Int32) (a2 : Int32) (a3 : Int32) (a4 : Int32) (u : Int32 × MZ_) (h : f_R_node σ a1 a2 a3 a4 = some u) : Met l y_R_node w_R_node rm_R_node (va_Pc [.ref (q 0), .int a1, .int a2, .int a3, .int a4] (PRx_ dC dI q cA σ)) (QW_ (some (.int u.1)) (fun H => va_P (dC, dI) cls_ (wR q cA u.2) H) (AR q)) 0 0 (AR q) := by
  refine Met.ofW (cc := prog_9_method_10_code) (maxL := 5) (ret := (some .int)) (by decide) rfl ?_
  intro p e s m args below meth c s₁ B hml hv
  obtain ⟨rfl, hP, hK, hD, hN, hZ⟩ := hv
  have hx := B.exec
  have hb := B.bytes
  have hr := B.returns
  have hts : ∀ w ∈ AW_, w.before _ s = true := fun w h => atoms_spec (ws := w_R_node) B.pre w (List.mem_cons_of_mem _ h)
  have hown : s.vm.findClass "StagedParsersModel" = some m.cls := findClass_of_methodNamed B.named
  have hlocks := B.notSynchronized
  have hS : va_S (AR q) s.heap s.heap [] := va_S.rf
  have hl := lv_entry ([.ref (q 0), .int a1, .int a2, .int a3, .int a4]) (n := 5) (Nat.le_of_ble_eq_true rfl)
  rw [lg_entry_eq]
  generalize (lg_sl ([.ref (q 0), .int a1, .int a2, .int a3, .int a4]) ++ List.replicate (5 - (lg_sl ([.ref (q 0), .int a1, .int a2, .int a3, .int a4])).length) Slot.unset).toArray = ls at hl ⊢
  have hl : lv_has ls 5 [(0, .ref (q 0)), (1, .int a1), (2, .int a2), (3, .int a3), (4, .int a4)] := hl
  rw [f_R_node] at h
  refine lv_aload_n hx hb d_R_node_0 rfl (lv_at hl 0 rfl) ?_
  refine lv_iconst (v := 0) hx hb d_R_node_1 (by decide) ?_
  refine pf_R_65 hx hb hts hown hK hP hD hS d_R_node_2 (fun H locs hP hS => ?_)
  obtain ⟨σ1, eσ1, h⟩ := st_some h
  rw [← eσ1] at hP
  have hD : va_D (AR q) (wR q cA σ1) := dd_re (wR_f _ _ _ _) hD
  refine lv_aload_n hx hb d_R_node_5 rfl (lv_at hl 0 rfl) ?_
  refine lv_iload_n hx hb d_R_node_6 rfl (lv_at hl 1 rfl) ?_
  refine lv_iload_n hx hb d_R_node_7 rfl (lv_at hl 2 rfl) ?_
  refine lv_iload_n hx hb d_R_node_8 rfl (lv_at hl 3 rfl) ?_
  refine lv_iload hx hb d_R_node_9 (lv_at hl 4 rfl) ?_
  obtain ⟨r1, hcl, h⟩ := bd_some h
  refine cx_read (va_runV (As := [.int a1, .int a2, .int a3, .int a4]) (rest := []) ⟨hx, hb, hml, hown, hts⟩ (c_R_fits l dC dI q cA σ1 a1 a2 a3 a4 _ hcl) (cw_R_86 hts ⟨Nat.le_of_ble_eq_true rfl, Nat.le_of_ble_eq_true rfl⟩) ⟨pxR_B, va_recv hK hP (ci := 7) (q0 := 0) rfl rfl, pxR_U hP hK hD hN hZ hS⟩ rfl rfl hl.1 rfl (lv_room (Nat.le_of_ble_eq_true rfl)) d_R_node_11 ⟨Nat.zero_le _, Nat.zero_le _⟩) ?_
  refine lv_if_eq (tgt := 29) hx hb d_R_node_14 rfl (fun hc => ?_) (fun hc => ?_)
  · have h := if_t hc h
    refine lv_aload_n hx hb d_R_node_29 rfl (lv_at hl 0 rfl) ?_
    refine lv_iconst (v := 1) hx hb d_R_node_30 (by decide) ?_
    obtain ⟨u2, hcl, h⟩ := bd_some h
    refine cx_wri (va_runV (As := [.int 1]) (rest := []) ⟨hx, hb, hml, hown, hts⟩ (c_R_fails l dC dI q cA σ1 1 _ hcl) (cw_R_94 hts ⟨Nat.le_of_ble_eq_true rfl, Nat.le_of_ble_eq_true rfl⟩) ⟨pxR_B, va_recv hK hP (ci := 7) (q0 := 0) rfl rfl, pxR_U hP hK hD hN hZ hS⟩ rfl rfl hl.1 rfl (lv_room (Nat.le_of_ble_eq_true rfl)) d_R_node_31 ⟨Nat.zero_le _, Nat.zero_le _⟩) hS (fun _ h => h) (fun H locs hP hS => ?_)
    have hD : va_D (AR q) (wR q cA u2.2) := dd_re (wR_f _ _ _ _) hD
    obtain rfl := Option.some.inj h
    exact W.iret hx hb hr (fun t ht hW => ⟨rfl, by rw [ht]; exact hP, hS.F ht⟩) hS.2.2 d_R_node_34
  · have h := if_f hc h
    refine lv_aload_n hx hb d_R_node_17 rfl (lv_at hl 0 rfl) ?_
    refine lv_iload_n hx hb d_R_node_18 rfl (lv_at hl 1 rfl) ?_
    refine lv_iload_n hx hb d_R_node_19 rfl (lv_at hl 2 rfl) ?_
    refine lv_iload_n hx hb d_R_node_20 rfl (lv_at hl 3 rfl) ?_
    obtain ⟨r3, hcl, h⟩ := bd_some h
    refine cx_read (va_runV (As := [.int a1, .int a2, .int a3]) (rest := []) ⟨hx, hb, hml, hown, hts⟩ (c_R_height l dC dI q cA σ1 a1 a2 a3 _ hcl) (cw_R_90 hts ⟨Nat.le_of_ble_eq_true rfl, Nat.le_of_ble_eq_true rfl⟩) ⟨pxR_B, va_recv hK hP (ci := 7) (q0 := 0) rfl rfl, pxR_U hP hK hD hN hZ hS⟩ rfl rfl hl.1 rfl (lv_room (Nat.le_of_ble_eq_true rfl)) d_R_node_21 ⟨Nat.zero_le _, Nat.zero_le _⟩) ?_
    refine lv_bipush (v := 8) hx hb d_R_node_24 (by decide) ?_
    refine lv_icmp_le (tgt := 35) hx hb d_R_node_26 rfl (fun hc => ?_) (fun hc => ?_)
    · have h := if_t hc h
      refine lv_aload_n hx hb d_R_node_35 rfl (lv_at hl 0 rfl) ?_
      refine gf_R_69 hx hb hts hown hK hP d_R_node_36 ?_
      refine lv_bipush (v := 80) hx hb d_R_node_39 (by decide) ?_
      refine lv_icmp_ne (tgt := 50) hx hb d_R_node_41 rfl (fun hc => ?_) (fun hc => ?_)
      · have h := if_f hc h
        refine lv_aload_n hx hb d_R_node_50 rfl (lv_at hl 0 rfl) ?_
        refine gf_R_7 hx hb hts hown hK hP d_R_node_51 ?_
        refine lv_aload_n hx hb d_R_node_54 rfl (lv_at hl 0 rfl) ?_
        refine gf_R_69 hx hb hts hown hK hP d_R_node_55 ?_
        refine lv_iload_n hx hb d_R_node_58 rfl (lv_at hl 1 rfl) ?_
        obtain ⟨hgd, h⟩ := gd_some h
        refine as_R_1 hx hb hK hP hD hS hgd d_R_node_59 (fun H locs hP hS => ?_)
        obtain ⟨σ2, eσ2, h⟩ := st_some h
        rw [← eσ2] at hP
        have hD : va_D (AR q) (wR q cA σ2) := dd_re (wR_f _ _ _ _) hD
        refine lv_aload_n hx hb d_R_node_60 rfl (lv_at hl 0 rfl) ?_
        refine gf_R_13 hx hb hts hown hK hP d_R_node_61 ?_
        refine lv_aload_n hx hb d_R_node_64 rfl (lv_at hl 0 rfl) ?_
        refine gf_R_69 hx hb hts hown hK hP d_R_node_65 ?_
        refine lv_iload_n hx hb d_R_node_68 rfl (lv_at hl 2 rfl) ?_
        obtain ⟨hgd, h⟩ := gd_some h
        refine as_R_2 hx hb hK hP hD hS hgd d_R_node_69 (fun H locs hP hS => ?_)
        obtain ⟨σ3, eσ3, h⟩ := st_some h
        rw [← eσ3] at hP
        have hD : va_D (AR q) (wR q cA σ3) := dd_re (wR_f _ _ _ _) hD
        refine lv_aload_n hx hb d_R_node_70 rfl (lv_at hl 0 rfl) ?_
        refine gf_R_16 hx hb hts hown hK hP d_R_node_71 ?_
        refine lv_aload_n hx hb d_R_node_74 rfl (lv_at hl 0 rfl) ?_
        refine gf_R_69 hx hb hts hown hK hP d_R_node_75 ?_
        refine lv_iload_n hx hb d_R_node_78 rfl (lv_at hl 3 rfl) ?_
        obtain ⟨hgd, h⟩ := gd_some h
        refine as_R_3 hx hb hK hP hD hS hgd d_R_node_79 (fun H locs hP hS => ?_)
        obtain ⟨σ4, eσ4, h⟩ := st_some h
        rw [← eσ4] at hP
        have hD : va_D (AR q) (wR q cA σ4) := dd_re (wR_f _ _ _ _) hD
        refine lv_aload_n hx hb d_R_node_80 rfl (lv_at hl 0 rfl) ?_
        refine gf_R_19 hx hb hts hown hK hP d_R_node_81 ?_
        refine lv_aload_n hx hb d_R_node_84 rfl (lv_at hl 0 rfl) ?_
        refine gf_R_69 hx hb hts hown hK hP d_R_node_85 ?_
        refine lv_iload hx hb d_R_node_88 (lv_at hl 4 rfl) ?_
        obtain ⟨hgd, h⟩ := gd_some h
        refine as_R_4 hx hb hK hP hD hS hgd d_R_node_90 (fun H locs hP hS => ?_)
        obtain ⟨σ5, eσ5, h⟩ := st_some h
        rw [← eσ5] at hP
        have hD : va_D (AR q) (wR q cA σ5) := dd_re (wR_f _ _ _ _) hD
        refine lv_aload_n hx hb d_R_node_91 rfl (lv_at hl 0 rfl) ?_
        refine gf_R_22 hx hb hts hown hK hP d_R_node_92 ?_
        refine lv_aload_n hx hb d_R_node_95 rfl (lv_at hl 0 rfl) ?_
        refine gf_R_69 hx hb hts hown hK hP d_R_node_96 ?_
        refine lv_aload_n hx hb d_R_node_99 rfl (lv_at hl 0 rfl) ?_
        refine lv_iload_n hx hb d_R_node_100 rfl (lv_at hl 1 rfl) ?_
        refine lv_iload_n hx hb d_R_node_101 rfl (lv_at hl 2 rfl) ?_
        refine lv_iload_n hx hb d_R_node_102 rfl (lv_at hl 3 rfl) ?_
        obtain ⟨r4, hcl, h⟩ := bd_some h
        refine cx_read (va_runV (As := [.int a1, .int a2, .int a3]) (rest := [.int (σ5 31 0), .ref (q 5)]) ⟨hx, hb, hml, hown, hts⟩ (c_R_height l dC dI q cA σ5 a1 a2 a3 _ hcl) (cw_R_90 hts ⟨Nat.le_of_ble_eq_true rfl, Nat.le_of_ble_eq_true rfl⟩) ⟨pxR_B, va_recv hK hP (ci := 7) (q0 := 0) rfl rfl, pxR_U hP hK hD hN hZ hS⟩ rfl rfl hl.1 rfl (lv_room (Nat.le_of_ble_eq_true rfl)) d_R_node_103 ⟨Nat.zero_le _, Nat.zero_le _⟩) ?_
        obtain ⟨hgd, h⟩ := gd_some h
        refine as_R_5 hx hb hK hP hD hS hgd d_R_node_106 (fun H locs hP hS => ?_)
        obtain ⟨σ6, eσ6, h⟩ := st_some h
        rw [← eσ6] at hP
        have hD : va_D (AR q) (wR q cA σ6) := dd_re (wR_f _ _ _ _) hD
        refine lv_aload_n hx hb d_R_node_107 rfl (lv_at hl 0 rfl) ?_
        refine lv_dup hx hb d_R_node_108 rfl ?_
        refine gf_R_69 hx hb hts hown hK hP d_R_node_109 ?_
        refine lv_iconst (v := 1) hx hb d_R_node_112 (by decide) ?_
        refine lv_iadd hx hb d_R_node_113 ?_
        refine pf_R_69 hx hb hts hown hK hP hD hS d_R_node_114 (fun H locs hP hS => ?_)
        obtain ⟨σ7, eσ7, h⟩ := st_some h
        rw [← eσ7] at hP
        have hD : va_D (AR q) (wR q cA σ7) := dd_re (wR_f _ _ _ _) hD
        refine lv_aload_n hx hb d_R_node_117 rfl (lv_at hl 0 rfl) ?_
        refine gf_R_69 hx hb hts hown hK hP d_R_node_118 ?_
        refine lv_iconst (v := 1) hx hb d_R_node_121 (by decide) ?_
        refine lv_isub hx hb d_R_node_122 ?_
        obtain rfl := Option.some.inj h
        exact W.iret hx hb hr (fun t ht hW => ⟨rfl, by rw [ht]; exact hP, hS.F ht⟩) hS.2.2 d_R_node_123
      · have h := if_t hc h
        refine lv_aload_n hx hb d_R_node_44 rfl (lv_at hl 0 rfl) ?_
        refine lv_iconst (v := 2) hx hb d_R_node_45 (by decide) ?_
        obtain ⟨u5, hcl, h⟩ := bd_some h
        refine cx_wri (va_runV (As := [.int 2]) (rest := []) ⟨hx, hb, hml, hown, hts⟩ (c_R_fails l dC dI q cA σ1 2 _ hcl) (cw_R_94 hts ⟨Nat.le_of_ble_eq_true rfl, Nat.le_of_ble_eq_true rfl⟩) ⟨pxR_B, va_recv hK hP (ci := 7) (q0 := 0) rfl rfl, pxR_U hP hK hD hN hZ hS⟩ rfl rfl hl.1 rfl (lv_room (Nat.le_of_ble_eq_true rfl)) d_R_node_46 ⟨Nat.zero_le _, Nat.zero_le _⟩) hS (fun _ h => h) (fun H locs hP hS => ?_)
        have hD : va_D (AR q) (wR q cA u5.2) := dd_re (wR_f _ _ _ _) hD
        obtain rfl := Option.some.inj h
        exact W.iret hx hb hr (fun t ht hW => ⟨rfl, by rw [ht]; exact hP, hS.F ht⟩) hS.2.2 d_R_node_49
    · have h := if_f hc h
      refine lv_aload_n hx hb d_R_node_29 rfl (lv_at hl 0 rfl) ?_
      refine lv_iconst (v := 1) hx hb d_R_node_30 (by decide) ?_
      obtain ⟨u6, hcl, h⟩ := bd_some h
      refine cx_wri (va_runV (As := [.int 1]) (rest := []) ⟨hx, hb, hml, hown, hts⟩ (c_R_fails l dC dI q cA σ1 1 _ hcl) (cw_R_94 hts ⟨Nat.le_of_ble_eq_true rfl, Nat.le_of_ble_eq_true rfl⟩) ⟨pxR_B, va_recv hK hP (ci := 7) (q0 := 0) rfl rfl, pxR_U hP hK hD hN hZ hS⟩ rfl rfl hl.1 rfl (lv_room (Nat.le_of_ble_eq_true rfl)) d_R_node_31 ⟨Nat.zero_le _, Nat.zero_le _⟩) hS (fun _ h => h) (fun H locs hP hS => ?_)
      have hD : va_D (AR q) (wR q cA u6.2) := dd_re (wR_f _ _ _ _) hD
      obtain rfl := Option.some.inj h
      exact W.iret hx hb hr (fun t ht hW => ⟨rfl, by rw [ht]; exact hP, hS.F ht⟩) hS.2.2 d_R_node_34
def y_R_bodied : MethodName := ⟨"StagedParsersModel", "bodied", "()I"⟩
def w_R_bodied : List Cond := .code y_R_bodied prog_9_method_11_code 3 (some .int) :: AW_
def rm_R_bodied : Room := { frames := 0, cells := 0, slots := 0, locals := 0 }
theorem d_R_bodied_0 : decode prog_9_method_11_code 0 = .ok (.iconst 0, 1) := by decide +kernel
theorem d_R_bodied_1 : decode prog_9_method_11_code 1 = .ok (.istore_n 1, 1) := by decide +kernel
theorem d_R_bodied_2 : decode prog_9_method_11_code 2 = .ok (.iconst 0, 1) := by decide +kernel
theorem d_R_bodied_3 : decode prog_9_method_11_code 3 = .ok (.istore_n 2, 1) := by decide +kernel
theorem d_R_bodied_4 : decode prog_9_method_11_code 4 = .ok (.iload_n 2, 1) := by decide +kernel
theorem d_R_bodied_5 : decode prog_9_method_11_code 5 = .ok (.bipush 6, 2) := by decide +kernel
theorem d_R_bodied_7 : decode prog_9_method_11_code 7 = .ok (.if_icmp .ge 26, 3) := by decide +kernel
theorem d_R_bodied_10 : decode prog_9_method_11_code 10 = .ok (.iload_n 1, 1) := by decide +kernel
theorem d_R_bodied_11 : decode prog_9_method_11_code 11 = .ok (.aload_n 0, 1) := by decide +kernel
theorem d_R_bodied_12 : decode prog_9_method_11_code 12 = .ok (.getfield 25, 3) := by decide +kernel
theorem d_R_bodied_15 : decode prog_9_method_11_code 15 = .ok (.iload_n 2, 1) := by decide +kernel
theorem d_R_bodied_16 : decode prog_9_method_11_code 16 = .ok (.iaload, 1) := by decide +kernel
theorem d_R_bodied_17 : decode prog_9_method_11_code 17 = .ok (.ifCond .le 7, 3) := by decide +kernel
theorem d_R_bodied_20 : decode prog_9_method_11_code 20 = .ok (.iconst 1, 1) := by decide +kernel
theorem d_R_bodied_21 : decode prog_9_method_11_code 21 = .ok (.goto 4, 3) := by decide +kernel
theorem d_R_bodied_24 : decode prog_9_method_11_code 24 = .ok (.iconst 0, 1) := by decide +kernel
theorem d_R_bodied_25 : decode prog_9_method_11_code 25 = .ok (.iadd, 1) := by decide +kernel
theorem d_R_bodied_26 : decode prog_9_method_11_code 26 = .ok (.istore_n 1, 1) := by decide +kernel
theorem d_R_bodied_27 : decode prog_9_method_11_code 27 = .ok (.iinc 2 1, 3) := by decide +kernel
theorem d_R_bodied_30 : decode prog_9_method_11_code 30 = .ok (.goto (-26), 3) := by decide +kernel
theorem d_R_bodied_33 : decode prog_9_method_11_code 33 = .ok (.iload_n 1, 1) := by decide +kernel
theorem d_R_bodied_34 : decode prog_9_method_11_code 34 = .ok (.ireturn, 1) := by decide +kernel
section RW
variable {p : Program} {l : Launch} {e : Env} {R : Room} {s : State} {m : MethodId} {args : Array Value} {below : List Frame} {meth : Method} {c : Code} {H : Heap} {locs : List Loc} {cells slots : Nat} {Q : State → Prop}
variable {cc : ByteArray} {pc : Nat} {ls : Array Slot} {rest : List Value} {dC : Nat → ClassId} {dI : Nat → Nat → Nat} {q : Nat → Nat} {cA : Nat → ClassId} {σ : MZ_} {H0 : Heap} {A : Nat → Prop}

theorem gf_R_25 (hx : p.tables.exec = Jvm.exec) (hb : c.code = cc) (hts : ∀ w ∈ AW_, w.before args s = true) (hown : s.vm.findClass "StagedParsersModel" = some m.cls) (hK : va_K (dC, dI) cls_ (tyR cA) s) (hP : va_P (dC, dI) cls_ (wR q cA σ) H) (hdg : decode cc pc = .ok (.getfield 25, 3)) (kk : W p l e R s m args below meth c H locs cells slots Q (F0 m (pc + 3) ls (.ref (q 6) :: rest))) : W p l e R s m args below meth c H locs cells slots Q (F0 m pc ls (.ref (q 0) :: rest)) :=
  va_get (D := (dC, dI)) (cl := cls_) (ci := 7) (v := .ref (q 6)) (ws := wR q cA σ) (tys := tyR cA) (C := Rz_R) (T := Tz_R) (N := 34) hx hb hts uz_R hown hK hP 0 rfl rfl 7 (by decide) (hts _ kw_818) (fun _ h9 => h9) rfl hdg kk
end RW
def f_R_bodied_L4 (σ : MZ_) : Nat → Int32 → Int32 → Option (Int32)
  | 0, _, _ => none
  | N + 1, x1, x2 => if 6 ≤ x2 then some x1
    else gd_ x2 6 (if (σ 6 x2.toNatClampNeg) ≤ 0 then f_R_bodied_L4 σ N (x1 + 0) (x2 + 1)
    else f_R_bodied_L4 σ N (x1 + 1) (x2 + 1))
def f_R_bodied (σ : MZ_) : Option (Int32) :=
  f_R_bodied_L4 σ 100 0 0
set_option maxHeartbeats 4000000 in
set_option maxRecDepth 100000 in
theorem c_R_bodied (l : Launch) (dC : Nat → ClassId) (dI : Nat → Nat → Nat) (q : Nat → Nat) (cA : Nat → ClassId) (σ : MZ_) (u : Int32) (h : f_R_bodied σ = some u) : Met l y_R_bodied w_R_bodied rm_R_bodied (va_Pc [.ref (q 0)] (PRx_ dC dI q cA σ)) (QcRead u) 0 0 (fun _ => False) := by
  refine Met.ofW (cc := prog_9_method_11_code) (maxL := 3) (ret := (some .int)) (by decide) rfl ?_
  intro p e s m args below meth c s₁ B hml hv
  obtain ⟨rfl, hP, hK, hD, hN, hZ⟩ := hv
  have hx := B.exec
  have hb := B.bytes
  have hr := B.returns
  have hts : ∀ w ∈ AW_, w.before _ s = true := fun w h => atoms_spec (ws := w_R_bodied) B.pre w (List.mem_cons_of_mem _ h)
  have hown : s.vm.findClass "StagedParsersModel" = some m.cls := findClass_of_methodNamed B.named
  have hlocks := B.notSynchronized
  have hS : va_S (AR q) s.heap s.heap [] := va_S.rf
  have hl := lv_entry ([.ref (q 0)]) (n := 3) (Nat.le_of_ble_eq_true rfl)
  rw [lg_entry_eq]
  generalize (lg_sl ([.ref (q 0)]) ++ List.replicate (3 - (lg_sl ([.ref (q 0)])).length) Slot.unset).toArray = ls at hl ⊢
  have hl : lv_has ls 3 [(0, .ref (q 0))] := hl
  have L4 : ∀ (N4 : Nat) (x1 : Int32) (x2 : Int32), f_R_bodied_L4 σ N4 x1 x2 = some u → ∀ (ls : Array Slot), lv_has ls 3 [(0, .ref (q 0)), (1, .int x1), (2, .int x2)] → W p l e (headSpec w_R_bodied rm_R_bodied).room s m ([.ref (q 0)] : List Value).toArray below meth c s.heap [] 0 0 (MQ below (QcRead u) ([.ref (q 0)] : List Value).toArray s 0 0 (fun _ => False)) (F0 m 4 ls []) := by
    intro N4
    induction N4 with
    | zero => intro x1 x2 h; cases h
    | succ N4 ih4 =>
      intro x1 x2 h ls hl
      rw [f_R_bodied_L4] at h
      refine lv_iload_n hx hb d_R_bodied_4 rfl (lv_at hl 2 rfl) ?_
      refine lv_bipush (v := 6) hx hb d_R_bodied_5 (by decide) ?_
      refine lv_icmp_ge (tgt := 33) hx hb d_R_bodied_7 rfl (fun hc => ?_) (fun hc => ?_)
      · have h := if_t hc h
        refine lv_iload_n hx hb d_R_bodied_33 rfl (lv_at hl 1 rfl) ?_
        obtain rfl := Option.some.inj h
        exact W.iret hx hb hr (fun t ht hW => ⟨rfl, ht⟩) (fun _ h9 => nomatch h9) d_R_bodied_34
      · have h := if_f hc h
        refine lv_iload_n hx hb d_R_bodied_10 rfl (lv_at hl 1 rfl) ?_
        refine lv_aload_n hx hb d_R_bodied_11 rfl (lv_at hl 0 rfl) ?_
        refine gf_R_25 hx hb hts hown hK hP d_R_bodied_12 ?_
        refine lv_iload_n hx hb d_R_bodied_15 rfl (lv_at hl 2 rfl) ?_
        obtain ⟨hgd, h⟩ := gd_some h
        refine al_R_6 hx hb hK hP hgd d_R_bodied_16 ?_
        refine lv_if_le (tgt := 24) hx hb d_R_bodied_17 rfl (fun hc => ?_) (fun hc => ?_)
        · have h := if_t hc h
          refine lv_iconst (v := 0) hx hb d_R_bodied_24 (by decide) ?_
          refine lv_iadd hx hb d_R_bodied_25 ?_
          refine lv_istore_n hx hb d_R_bodied_26 rfl hl (by decide) rfl (fun ls hl => ?_)
          have hl : lv_has ls 3 [(1, .int (x1 + 0)), (0, .ref (q 0)), (2, .int x2)] := hl
          refine lv_iinc (v := x2 + 1) hx hb d_R_bodied_27 hl (k := 2) rfl rfl (by decide) rfl (fun ls hl => ?_)
          have hl : lv_has ls 3 [(2, .int (x2 + 1)), (1, .int (x1 + 0)), (0, .ref (q 0))] := hl
          refine lv_goto (tgt := 4) hx hb d_R_bodied_30 rfl ?_
          exact ih4 _ _ h _ (lv_sub hl [2, 1, 0] rfl)
        · have h := if_f hc h
          refine lv_iconst (v := 1) hx hb d_R_bodied_20 (by decide) ?_
          refine lv_goto (tgt := 25) hx hb d_R_bodied_21 rfl ?_
          refine lv_iadd hx hb d_R_bodied_25 ?_
          refine lv_istore_n hx hb d_R_bodied_26 rfl hl (by decide) rfl (fun ls hl => ?_)
          have hl : lv_has ls 3 [(1, .int (x1 + 1)), (0, .ref (q 0)), (2, .int x2)] := hl
          refine lv_iinc (v := x2 + 1) hx hb d_R_bodied_27 hl (k := 2) rfl rfl (by decide) rfl (fun ls hl => ?_)
          have hl : lv_has ls 3 [(2, .int (x2 + 1)), (1, .int (x1 + 1)), (0, .ref (q 0))] := hl
          refine lv_goto (tgt := 4) hx hb d_R_bodied_30 rfl ?_
          exact ih4 _ _ h _ (lv_sub hl [2, 1, 0] rfl)
  rw [f_R_bodied] at h
  refine lv_iconst (v := 0) hx hb d_R_bodied_0 (by decide) ?_
  refine lv_istore_n hx hb d_R_bodied_1 rfl hl (by decide) rfl (fun ls hl => ?_)
  have hl : lv_has ls 3 [(1, .int 0), (0, .ref (q 0))] := hl
  refine lv_iconst (v := 0) hx hb d_R_bodied_2 (by decide) ?_
  refine lv_istore_n hx hb d_R_bodied_3 rfl hl (by decide) rfl (fun ls hl => ?_)
  have hl : lv_has ls 3 [(2, .int 0), (1, .int 0), (0, .ref (q 0))] := hl
  exact L4 _ _ _ h _ (lv_sub hl [2, 1, 0] rfl)
def y_R_rule : MethodName := ⟨"StagedParsersModel", "rule", "(II)I"⟩
def w_R_rule : List Cond := .code y_R_rule prog_9_method_12_code 3 (some .int) :: AW_
def rm_R_rule : Room := { frames := 2, cells := 0, slots := 0, locals := 43 }
theorem d_R_rule_0 : decode prog_9_method_12_code 0 = .ok (.aload_n 0, 1) := by decide +kernel
theorem d_R_rule_1 : decode prog_9_method_12_code 1 = .ok (.iconst 0, 1) := by decide +kernel
theorem d_R_rule_2 : decode prog_9_method_12_code 2 = .ok (.putfield 65, 3) := by decide +kernel
theorem d_R_rule_5 : decode prog_9_method_12_code 5 = .ok (.iload_n 1, 1) := by decide +kernel
theorem d_R_rule_6 : decode prog_9_method_12_code 6 = .ok (.iconst 0, 1) := by decide +kernel
theorem d_R_rule_7 : decode prog_9_method_12_code 7 = .ok (.iconst 5, 1) := by decide +kernel
theorem d_R_rule_8 : decode prog_9_method_12_code 8 = .ok (.invokestatic 72, 3) := by decide +kernel
theorem d_R_rule_11 : decode prog_9_method_12_code 11 = .ok (.ifCond .eq 11, 3) := by decide +kernel
theorem d_R_rule_14 : decode prog_9_method_12_code 14 = .ok (.aload_n 0, 1) := by decide +kernel
theorem d_R_rule_15 : decode prog_9_method_12_code 15 = .ok (.iload_n 2, 1) := by decide +kernel
theorem d_R_rule_16 : decode prog_9_method_12_code 16 = .ok (.invokevirtual 80, 3) := by decide +kernel
theorem d_R_rule_19 : decode prog_9_method_12_code 19 = .ok (.ifCond .ne 9, 3) := by decide +kernel
theorem d_R_rule_22 : decode prog_9_method_12_code 22 = .ok (.aload_n 0, 1) := by decide +kernel
theorem d_R_rule_23 : decode prog_9_method_12_code 23 = .ok (.iconst 1, 1) := by decide +kernel
theorem d_R_rule_24 : decode prog_9_method_12_code 24 = .ok (.invokevirtual 94, 3) := by decide +kernel
theorem d_R_rule_27 : decode prog_9_method_12_code 27 = .ok (.ireturn, 1) := by decide +kernel
theorem d_R_rule_28 : decode prog_9_method_12_code 28 = .ok (.aload_n 0, 1) := by decide +kernel
theorem d_R_rule_29 : decode prog_9_method_12_code 29 = .ok (.getfield 25, 3) := by decide +kernel
theorem d_R_rule_32 : decode prog_9_method_12_code 32 = .ok (.iload_n 1, 1) := by decide +kernel
theorem d_R_rule_33 : decode prog_9_method_12_code 33 = .ok (.iload_n 2, 1) := by decide +kernel
theorem d_R_rule_34 : decode prog_9_method_12_code 34 = .ok (.iconst 1, 1) := by decide +kernel
theorem d_R_rule_35 : decode prog_9_method_12_code 35 = .ok (.iadd, 1) := by decide +kernel
theorem d_R_rule_36 : decode prog_9_method_12_code 36 = .ok (.iastore, 1) := by decide +kernel
theorem d_R_rule_37 : decode prog_9_method_12_code 37 = .ok (.aload_n 0, 1) := by decide +kernel
theorem d_R_rule_38 : decode prog_9_method_12_code 38 = .ok (.iconst 0, 1) := by decide +kernel
theorem d_R_rule_39 : decode prog_9_method_12_code 39 = .ok (.putfield 98, 3) := by decide +kernel
theorem d_R_rule_42 : decode prog_9_method_12_code 42 = .ok (.aload_n 0, 1) := by decide +kernel
theorem d_R_rule_43 : decode prog_9_method_12_code 43 = .ok (.invokevirtual 102, 3) := by decide +kernel
theorem d_R_rule_46 : decode prog_9_method_12_code 46 = .ok (.ireturn, 1) := by decide +kernel
section RW
variable {p : Program} {l : Launch} {e : Env} {R : Room} {s : State} {m : MethodId} {args : Array Value} {below : List Frame} {meth : Method} {c : Code} {H : Heap} {locs : List Loc} {cells slots : Nat} {Q : State → Prop}
variable {cc : ByteArray} {pc : Nat} {ls : Array Slot} {rest : List Value} {dC : Nat → ClassId} {dI : Nat → Nat → Nat} {q : Nat → Nat} {cA : Nat → ClassId} {σ : MZ_} {H0 : Heap} {A : Nat → Prop}

theorem pf_R_98 (hx : p.tables.exec = Jvm.exec) (hb : c.code = cc) (hts : ∀ w ∈ AW_, w.before args s = true) (hown : s.vm.findClass "StagedParsersModel" = some m.cls) (hK : va_K (dC, dI) cls_ (tyR cA) s) (hP : va_P (dC, dI) cls_ (wR q cA σ) H) (hD : va_D A (wR q cA σ)) (hS : va_S A H0 H locs) {v : Int32} (hbo : v = 0 ∨ v = 1) (hdg : decode cc pc = .ok (.putfield 98, 3)) (kk : ∀ (H1 : Heap) (locs1 : List Loc), va_P (dC, dI) cls_ (wR q cA (va_up σ 32 (fun _ => v))) H1 → va_S A H0 H1 locs1 → W p l e R s m args below meth c H1 locs1 cells slots Q (F0 m (pc + 3) ls rest)) : W p l e R s m args below meth c H locs cells slots Q (F0 m pc ls (.int v :: .ref (q 0) :: rest)) :=
  va_put (D := (dC, dI)) (cl := cls_) (ci := 7) (v := .int v) (ty := .boolean) (ws := wR q cA σ) (tys := tyR cA) (C := Rz_R) (T := Tz_R) (N := 34) hx hb hts uz_R tz_R tz_R_ok nz_R hown hK hP hD hS 0 rfl rfl 8 (by decide) (hts _ kw_819) (fun _ h9 => h9) rfl (by decide +kernel) (bo_nar hbo) (bo_fit hbo) (Nat.le_of_ble_eq_true rfl) hdg (fun H1 locs1 hP _ hS => kk H1 locs1 hP hS)
theorem cw_R_102 (hts : ∀ w ∈ AW_, w.before args s = true) (hR : rm_R_bodied.frames + 1 ≤ R.frames ∧ 8 + (3 + 11) + rm_R_bodied.locals ≤ R.locals) : CallW R s args "StagedParsersModel" "StagedParsersModel" 102 y_R_bodied prog_9_method_11_code 3 (some .int) w_R_bodied rm_R_bodied 0 0 0 :=
  ⟨callB_of 0 hts (aw_in kw_954) rfl rfl rfl (hts _ kw_9) (hts _ kw_951) ⟨by decide, by decide, by decide +kernel⟩ hR, hts _ kw_953, hts _ ks_44⟩
end RW
def f_R_rule (σ : MZ_) (a1 : Int32) (a2 : Int32) : Option (Int32 × MZ_) :=
  st_ (va_up σ 30 (fun _ => 0)) fun σ1 => (f_R_in a1 0 5).bind fun r1 => if r1 = 0 then (f_R_fails σ1 1).bind fun u2 => some (u2.1, u2.2)
  else (f_R_isNode σ1 a2).bind fun r3 => if r3 = 0 then (f_R_fails σ1 1).bind fun u5 => some (u5.1, u5.2)
  else gd_ a1 6 (st_ (va_up σ1 6 (upd (σ1 6) a1.toNatClampNeg (a2 + 1))) fun σ2 => st_ (va_up σ2 32 (fun _ => 0)) fun σ3 => (f_R_bodied σ3).bind fun r4 => some (r4, σ3))
set_option maxHeartbeats 4000000 in
set_option maxRecDepth 100000 in
theorem c_R_rule (l : Launch) (dC : Nat → ClassId) (dI : Nat → Nat → Nat) (q : Nat → Nat) (cA : Nat → ClassId) (σ : MZ_) (a1 : Int32) (a2 : Int32) (u : Int32 × MZ_) (h : f_R_rule σ a1 a2 = some u) : Met l y_R_rule w_R_rule rm_R_rule (va_Pc [.ref (q 0), .int a1, .int a2] (PRx_ dC dI q cA σ)) (QW_ (some (.int u.1)) (fun H => va_P (dC, dI) cls_ (wR q cA u.2) H) (AR q)) 0 0 (AR q) := by
  refine Met.ofW (cc := prog_9_method_12_code) (maxL := 3) (ret := (some .int)) (by decide) rfl ?_
  intro p e s m args below meth c s₁ B hml hv
  obtain ⟨rfl, hP, hK, hD, hN, hZ⟩ := hv
  have hx := B.exec
  have hb := B.bytes
  have hr := B.returns
  have hts : ∀ w ∈ AW_, w.before _ s = true := fun w h => atoms_spec (ws := w_R_rule) B.pre w (List.mem_cons_of_mem _ h)
  have hown : s.vm.findClass "StagedParsersModel" = some m.cls := findClass_of_methodNamed B.named
  have hlocks := B.notSynchronized
  have hS : va_S (AR q) s.heap s.heap [] := va_S.rf
  have hl := lv_entry ([.ref (q 0), .int a1, .int a2]) (n := 3) (Nat.le_of_ble_eq_true rfl)
  rw [lg_entry_eq]
  generalize (lg_sl ([.ref (q 0), .int a1, .int a2]) ++ List.replicate (3 - (lg_sl ([.ref (q 0), .int a1, .int a2])).length) Slot.unset).toArray = ls at hl ⊢
  have hl : lv_has ls 3 [(0, .ref (q 0)), (1, .int a1), (2, .int a2)] := hl
  rw [f_R_rule] at h
  refine lv_aload_n hx hb d_R_rule_0 rfl (lv_at hl 0 rfl) ?_
  refine lv_iconst (v := 0) hx hb d_R_rule_1 (by decide) ?_
  refine pf_R_65 hx hb hts hown hK hP hD hS d_R_rule_2 (fun H locs hP hS => ?_)
  obtain ⟨σ1, eσ1, h⟩ := st_some h
  rw [← eσ1] at hP
  have hD : va_D (AR q) (wR q cA σ1) := dd_re (wR_f _ _ _ _) hD
  refine lv_iload_n hx hb d_R_rule_5 rfl (lv_at hl 1 rfl) ?_
  refine lv_iconst (v := 0) hx hb d_R_rule_6 (by decide) ?_
  refine lv_iconst (v := 5) hx hb d_R_rule_7 (by decide) ?_
  obtain ⟨r1, hcl, h⟩ := bd_some h
  refine cx_read (va_runS (As := [.int a1, .int 0, .int 5]) (rest := []) ⟨hx, hb, hml, hown, hts⟩ (c_R_in l dC dI q cA σ1 a1 0 5 _ hcl) (cw_R_72 hts ⟨Nat.le_of_ble_eq_true rfl, Nat.le_of_ble_eq_true rfl⟩) ⟨pxR_B, pxR_U hP hK hD hN hZ hS⟩ rfl rfl hl.1 rfl (lv_room (Nat.le_of_ble_eq_true rfl)) d_R_rule_8 ⟨Nat.zero_le _, Nat.zero_le _⟩) ?_
  refine lv_if_eq (tgt := 22) hx hb d_R_rule_11 rfl (fun hc => ?_) (fun hc => ?_)
  · have h := if_t hc h
    refine lv_aload_n hx hb d_R_rule_22 rfl (lv_at hl 0 rfl) ?_
    refine lv_iconst (v := 1) hx hb d_R_rule_23 (by decide) ?_
    obtain ⟨u2, hcl, h⟩ := bd_some h
    refine cx_wri (va_runV (As := [.int 1]) (rest := []) ⟨hx, hb, hml, hown, hts⟩ (c_R_fails l dC dI q cA σ1 1 _ hcl) (cw_R_94 hts ⟨Nat.le_of_ble_eq_true rfl, Nat.le_of_ble_eq_true rfl⟩) ⟨pxR_B, va_recv hK hP (ci := 7) (q0 := 0) rfl rfl, pxR_U hP hK hD hN hZ hS⟩ rfl rfl hl.1 rfl (lv_room (Nat.le_of_ble_eq_true rfl)) d_R_rule_24 ⟨Nat.zero_le _, Nat.zero_le _⟩) hS (fun _ h => h) (fun H locs hP hS => ?_)
    have hD : va_D (AR q) (wR q cA u2.2) := dd_re (wR_f _ _ _ _) hD
    obtain rfl := Option.some.inj h
    exact W.iret hx hb hr (fun t ht hW => ⟨rfl, by rw [ht]; exact hP, hS.F ht⟩) hS.2.2 d_R_rule_27
  · have h := if_f hc h
    refine lv_aload_n hx hb d_R_rule_14 rfl (lv_at hl 0 rfl) ?_
    refine lv_iload_n hx hb d_R_rule_15 rfl (lv_at hl 2 rfl) ?_
    obtain ⟨r3, hcl, h⟩ := bd_some h
    refine cx_read (va_runV (As := [.int a2]) (rest := []) ⟨hx, hb, hml, hown, hts⟩ (c_R_isNode l dC dI q cA σ1 a2 _ hcl) (cw_R_80 hts ⟨Nat.le_of_ble_eq_true rfl, Nat.le_of_ble_eq_true rfl⟩) ⟨pxR_B, va_recv hK hP (ci := 7) (q0 := 0) rfl rfl, pxR_U hP hK hD hN hZ hS⟩ rfl rfl hl.1 rfl (lv_room (Nat.le_of_ble_eq_true rfl)) d_R_rule_16 ⟨Nat.zero_le _, Nat.zero_le _⟩) ?_
    refine lv_if_ne (tgt := 28) hx hb d_R_rule_19 rfl (fun hc => ?_) (fun hc => ?_)
    · have h := if_f hc h
      refine lv_aload_n hx hb d_R_rule_28 rfl (lv_at hl 0 rfl) ?_
      refine gf_R_25 hx hb hts hown hK hP d_R_rule_29 ?_
      refine lv_iload_n hx hb d_R_rule_32 rfl (lv_at hl 1 rfl) ?_
      refine lv_iload_n hx hb d_R_rule_33 rfl (lv_at hl 2 rfl) ?_
      refine lv_iconst (v := 1) hx hb d_R_rule_34 (by decide) ?_
      refine lv_iadd hx hb d_R_rule_35 ?_
      obtain ⟨hgd, h⟩ := gd_some h
      refine as_R_6 hx hb hK hP hD hS hgd d_R_rule_36 (fun H locs hP hS => ?_)
      obtain ⟨σ2, eσ2, h⟩ := st_some h
      rw [← eσ2] at hP
      have hD : va_D (AR q) (wR q cA σ2) := dd_re (wR_f _ _ _ _) hD
      refine lv_aload_n hx hb d_R_rule_37 rfl (lv_at hl 0 rfl) ?_
      refine lv_iconst (v := 0) hx hb d_R_rule_38 (by decide) ?_
      refine pf_R_98 hx hb hts hown hK hP hD hS (Or.inl rfl) d_R_rule_39 (fun H locs hP hS => ?_)
      obtain ⟨σ3, eσ3, h⟩ := st_some h
      rw [← eσ3] at hP
      have hD : va_D (AR q) (wR q cA σ3) := dd_re (wR_f _ _ _ _) hD
      refine lv_aload_n hx hb d_R_rule_42 rfl (lv_at hl 0 rfl) ?_
      obtain ⟨r4, hcl, h⟩ := bd_some h
      refine cx_read (va_runV (As := []) (rest := []) ⟨hx, hb, hml, hown, hts⟩ (c_R_bodied l dC dI q cA σ3 _ hcl) (cw_R_102 hts ⟨Nat.le_of_ble_eq_true rfl, Nat.le_of_ble_eq_true rfl⟩) ⟨pxR_B, va_recv hK hP (ci := 7) (q0 := 0) rfl rfl, pxR_U hP hK hD hN hZ hS⟩ rfl rfl hl.1 rfl (lv_room (Nat.le_of_ble_eq_true rfl)) d_R_rule_43 ⟨Nat.zero_le _, Nat.zero_le _⟩) ?_
      obtain rfl := Option.some.inj h
      exact W.iret hx hb hr (fun t ht hW => ⟨rfl, by rw [ht]; exact hP, hS.F ht⟩) hS.2.2 d_R_rule_46
    · have h := if_t hc h
      refine lv_aload_n hx hb d_R_rule_22 rfl (lv_at hl 0 rfl) ?_
      refine lv_iconst (v := 1) hx hb d_R_rule_23 (by decide) ?_
      obtain ⟨u5, hcl, h⟩ := bd_some h
      refine cx_wri (va_runV (As := [.int 1]) (rest := []) ⟨hx, hb, hml, hown, hts⟩ (c_R_fails l dC dI q cA σ1 1 _ hcl) (cw_R_94 hts ⟨Nat.le_of_ble_eq_true rfl, Nat.le_of_ble_eq_true rfl⟩) ⟨pxR_B, va_recv hK hP (ci := 7) (q0 := 0) rfl rfl, pxR_U hP hK hD hN hZ hS⟩ rfl rfl hl.1 rfl (lv_room (Nat.le_of_ble_eq_true rfl)) d_R_rule_24 ⟨Nat.zero_le _, Nat.zero_le _⟩) hS (fun _ h => h) (fun H locs hP hS => ?_)
      have hD : va_D (AR q) (wR q cA u5.2) := dd_re (wR_f _ _ _ _) hD
      obtain rfl := Option.some.inj h
      exact W.iret hx hb hr (fun t ht hW => ⟨rfl, by rw [ht]; exact hP, hS.F ht⟩) hS.2.2 d_R_rule_27
def y_R_emptyNow : MethodName := ⟨"StagedParsersModel", "emptyNow", "(I)Z"⟩
def w_R_emptyNow : List Cond := .code y_R_emptyNow prog_9_method_13_code 3 (some .boolean) :: AW_
def rm_R_emptyNow : Room := { frames := 0, cells := 0, slots := 0, locals := 0 }
theorem d_R_emptyNow_0 : decode prog_9_method_13_code 0 = .ok (.aload_n 0, 1) := by decide +kernel
theorem d_R_emptyNow_1 : decode prog_9_method_13_code 1 = .ok (.getfield 13, 3) := by decide +kernel
theorem d_R_emptyNow_4 : decode prog_9_method_13_code 4 = .ok (.iload_n 1, 1) := by decide +kernel
theorem d_R_emptyNow_5 : decode prog_9_method_13_code 5 = .ok (.iaload, 1) := by decide +kernel
theorem d_R_emptyNow_6 : decode prog_9_method_13_code 6 = .ok (.istore_n 2, 1) := by decide +kernel
theorem d_R_emptyNow_7 : decode prog_9_method_13_code 7 = .ok (.aload_n 0, 1) := by decide +kernel
theorem d_R_emptyNow_8 : decode prog_9_method_13_code 8 = .ok (.getfield 7, 3) := by decide +kernel
theorem d_R_emptyNow_11 : decode prog_9_method_13_code 11 = .ok (.iload_n 1, 1) := by decide +kernel
theorem d_R_emptyNow_12 : decode prog_9_method_13_code 12 = .ok (.iaload, 1) := by decide +kernel
theorem d_R_emptyNow_13 : decode prog_9_method_13_code 13 = .ok (.tableswitch 182 0 13 #[71, 182, 182, 182, 73, 102, 131, 71, 71, 71, 131, 138, 131, 71], 71) := by decide +kernel
theorem d_R_emptyNow_84 : decode prog_9_method_13_code 84 = .ok (.iconst 1, 1) := by decide +kernel
theorem d_R_emptyNow_85 : decode prog_9_method_13_code 85 = .ok (.ireturn, 1) := by decide +kernel
theorem d_R_emptyNow_86 : decode prog_9_method_13_code 86 = .ok (.aload_n 0, 1) := by decide +kernel
theorem d_R_emptyNow_87 : decode prog_9_method_13_code 87 = .ok (.getfield 31, 3) := by decide +kernel
theorem d_R_emptyNow_90 : decode prog_9_method_13_code 90 = .ok (.iload_n 2, 1) := by decide +kernel
theorem d_R_emptyNow_91 : decode prog_9_method_13_code 91 = .ok (.baload, 1) := by decide +kernel
theorem d_R_emptyNow_92 : decode prog_9_method_13_code 92 = .ok (.ifCond .eq 21, 3) := by decide +kernel
theorem d_R_emptyNow_95 : decode prog_9_method_13_code 95 = .ok (.aload_n 0, 1) := by decide +kernel
theorem d_R_emptyNow_96 : decode prog_9_method_13_code 96 = .ok (.getfield 31, 3) := by decide +kernel
theorem d_R_emptyNow_99 : decode prog_9_method_13_code 99 = .ok (.aload_n 0, 1) := by decide +kernel
theorem d_R_emptyNow_100 : decode prog_9_method_13_code 100 = .ok (.getfield 16, 3) := by decide +kernel
theorem d_R_emptyNow_103 : decode prog_9_method_13_code 103 = .ok (.iload_n 1, 1) := by decide +kernel
theorem d_R_emptyNow_104 : decode prog_9_method_13_code 104 = .ok (.iaload, 1) := by decide +kernel
theorem d_R_emptyNow_105 : decode prog_9_method_13_code 105 = .ok (.baload, 1) := by decide +kernel
theorem d_R_emptyNow_106 : decode prog_9_method_13_code 106 = .ok (.ifCond .eq 7, 3) := by decide +kernel
theorem d_R_emptyNow_109 : decode prog_9_method_13_code 109 = .ok (.iconst 1, 1) := by decide +kernel
theorem d_R_emptyNow_110 : decode prog_9_method_13_code 110 = .ok (.goto 4, 3) := by decide +kernel
theorem d_R_emptyNow_113 : decode prog_9_method_13_code 113 = .ok (.iconst 0, 1) := by decide +kernel
theorem d_R_emptyNow_114 : decode prog_9_method_13_code 114 = .ok (.ireturn, 1) := by decide +kernel
theorem d_R_emptyNow_115 : decode prog_9_method_13_code 115 = .ok (.aload_n 0, 1) := by decide +kernel
theorem d_R_emptyNow_116 : decode prog_9_method_13_code 116 = .ok (.getfield 31, 3) := by decide +kernel
theorem d_R_emptyNow_119 : decode prog_9_method_13_code 119 = .ok (.iload_n 2, 1) := by decide +kernel
theorem d_R_emptyNow_120 : decode prog_9_method_13_code 120 = .ok (.baload, 1) := by decide +kernel
theorem d_R_emptyNow_121 : decode prog_9_method_13_code 121 = .ok (.ifCond .ne 17, 3) := by decide +kernel
theorem d_R_emptyNow_124 : decode prog_9_method_13_code 124 = .ok (.aload_n 0, 1) := by decide +kernel
theorem d_R_emptyNow_125 : decode prog_9_method_13_code 125 = .ok (.getfield 31, 3) := by decide +kernel
theorem d_R_emptyNow_128 : decode prog_9_method_13_code 128 = .ok (.aload_n 0, 1) := by decide +kernel
theorem d_R_emptyNow_129 : decode prog_9_method_13_code 129 = .ok (.getfield 16, 3) := by decide +kernel
theorem d_R_emptyNow_132 : decode prog_9_method_13_code 132 = .ok (.iload_n 1, 1) := by decide +kernel
theorem d_R_emptyNow_133 : decode prog_9_method_13_code 133 = .ok (.iaload, 1) := by decide +kernel
theorem d_R_emptyNow_134 : decode prog_9_method_13_code 134 = .ok (.baload, 1) := by decide +kernel
theorem d_R_emptyNow_135 : decode prog_9_method_13_code 135 = .ok (.ifCond .eq 7, 3) := by decide +kernel
theorem d_R_emptyNow_138 : decode prog_9_method_13_code 138 = .ok (.iconst 1, 1) := by decide +kernel
theorem d_R_emptyNow_139 : decode prog_9_method_13_code 139 = .ok (.goto 4, 3) := by decide +kernel
theorem d_R_emptyNow_142 : decode prog_9_method_13_code 142 = .ok (.iconst 0, 1) := by decide +kernel
theorem d_R_emptyNow_143 : decode prog_9_method_13_code 143 = .ok (.ireturn, 1) := by decide +kernel
theorem d_R_emptyNow_144 : decode prog_9_method_13_code 144 = .ok (.aload_n 0, 1) := by decide +kernel
theorem d_R_emptyNow_145 : decode prog_9_method_13_code 145 = .ok (.getfield 31, 3) := by decide +kernel
theorem d_R_emptyNow_148 : decode prog_9_method_13_code 148 = .ok (.iload_n 2, 1) := by decide +kernel
theorem d_R_emptyNow_149 : decode prog_9_method_13_code 149 = .ok (.baload, 1) := by decide +kernel
theorem d_R_emptyNow_150 : decode prog_9_method_13_code 150 = .ok (.ireturn, 1) := by decide +kernel
theorem d_R_emptyNow_151 : decode prog_9_method_13_code 151 = .ok (.aload_n 0, 1) := by decide +kernel
theorem d_R_emptyNow_152 : decode prog_9_method_13_code 152 = .ok (.getfield 25, 3) := by decide +kernel
theorem d_R_emptyNow_155 : decode prog_9_method_13_code 155 = .ok (.iload_n 2, 1) := by decide +kernel
theorem d_R_emptyNow_156 : decode prog_9_method_13_code 156 = .ok (.iaload, 1) := by decide +kernel
theorem d_R_emptyNow_157 : decode prog_9_method_13_code 157 = .ok (.ifCond .le 36, 3) := by decide +kernel
theorem d_R_emptyNow_160 : decode prog_9_method_13_code 160 = .ok (.aload_n 0, 1) := by decide +kernel
theorem d_R_emptyNow_161 : decode prog_9_method_13_code 161 = .ok (.getfield 31, 3) := by decide +kernel
theorem d_R_emptyNow_164 : decode prog_9_method_13_code 164 = .ok (.aload_n 0, 1) := by decide +kernel
theorem d_R_emptyNow_165 : decode prog_9_method_13_code 165 = .ok (.getfield 25, 3) := by decide +kernel
theorem d_R_emptyNow_168 : decode prog_9_method_13_code 168 = .ok (.iload_n 2, 1) := by decide +kernel
theorem d_R_emptyNow_169 : decode prog_9_method_13_code 169 = .ok (.iaload, 1) := by decide +kernel
theorem d_R_emptyNow_170 : decode prog_9_method_13_code 170 = .ok (.ifCond .le 14, 3) := by decide +kernel
theorem d_R_emptyNow_173 : decode prog_9_method_13_code 173 = .ok (.aload_n 0, 1) := by decide +kernel
theorem d_R_emptyNow_174 : decode prog_9_method_13_code 174 = .ok (.getfield 25, 3) := by decide +kernel
theorem d_R_emptyNow_177 : decode prog_9_method_13_code 177 = .ok (.iload_n 2, 1) := by decide +kernel
theorem d_R_emptyNow_178 : decode prog_9_method_13_code 178 = .ok (.iaload, 1) := by decide +kernel
theorem d_R_emptyNow_179 : decode prog_9_method_13_code 179 = .ok (.iconst 1, 1) := by decide +kernel
theorem d_R_emptyNow_180 : decode prog_9_method_13_code 180 = .ok (.isub, 1) := by decide +kernel
theorem d_R_emptyNow_181 : decode prog_9_method_13_code 181 = .ok (.goto 4, 3) := by decide +kernel
theorem d_R_emptyNow_184 : decode prog_9_method_13_code 184 = .ok (.iconst 0, 1) := by decide +kernel
theorem d_R_emptyNow_185 : decode prog_9_method_13_code 185 = .ok (.baload, 1) := by decide +kernel
theorem d_R_emptyNow_186 : decode prog_9_method_13_code 186 = .ok (.ifCond .eq 7, 3) := by decide +kernel
theorem d_R_emptyNow_189 : decode prog_9_method_13_code 189 = .ok (.iconst 1, 1) := by decide +kernel
theorem d_R_emptyNow_190 : decode prog_9_method_13_code 190 = .ok (.goto 4, 3) := by decide +kernel
theorem d_R_emptyNow_193 : decode prog_9_method_13_code 193 = .ok (.iconst 0, 1) := by decide +kernel
theorem d_R_emptyNow_194 : decode prog_9_method_13_code 194 = .ok (.ireturn, 1) := by decide +kernel
theorem d_R_emptyNow_195 : decode prog_9_method_13_code 195 = .ok (.iconst 0, 1) := by decide +kernel
theorem d_R_emptyNow_196 : decode prog_9_method_13_code 196 = .ok (.ireturn, 1) := by decide +kernel
section RW
variable {p : Program} {l : Launch} {e : Env} {R : Room} {s : State} {m : MethodId} {args : Array Value} {below : List Frame} {meth : Method} {c : Code} {H : Heap} {locs : List Loc} {cells slots : Nat} {Q : State → Prop}
variable {cc : ByteArray} {pc : Nat} {ls : Array Slot} {rest : List Value} {dC : Nat → ClassId} {dI : Nat → Nat → Nat} {q : Nat → Nat} {cA : Nat → ClassId} {σ : MZ_} {H0 : Heap} {A : Nat → Prop}

theorem gf_R_31 (hx : p.tables.exec = Jvm.exec) (hb : c.code = cc) (hts : ∀ w ∈ AW_, w.before args s = true) (hown : s.vm.findClass "StagedParsersModel" = some m.cls) (hK : va_K (dC, dI) cls_ (tyR cA) s) (hP : va_P (dC, dI) cls_ (wR q cA σ) H) (hdg : decode cc pc = .ok (.getfield 31, 3)) (kk : W p l e R s m args below meth c H locs cells slots Q (F0 m (pc + 3) ls (.ref (q 8) :: rest))) : W p l e R s m args below meth c H locs cells slots Q (F0 m pc ls (.ref (q 0) :: rest)) :=
  va_get (D := (dC, dI)) (cl := cls_) (ci := 7) (v := .ref (q 8)) (ws := wR q cA σ) (tys := tyR cA) (C := Rz_R) (T := Tz_R) (N := 34) hx hb hts uz_R hown hK hP 0 rfl rfl 11 (by decide) (hts _ kw_822) (fun _ h9 => h9) rfl hdg kk
end RW
def f_R_emptyNow (σ : MZ_) (a1 : Int32) : Option (Int32) :=
  gd_ a1 80 (gd_ a1 80 (if (σ 1 a1.toNatClampNeg) = 0 then some 1
  else if (σ 1 a1.toNatClampNeg) = 1 then some 0
  else if (σ 1 a1.toNatClampNeg) = 2 then some 0
  else if (σ 1 a1.toNatClampNeg) = 3 then some 0
  else if (σ 1 a1.toNatClampNeg) = 4 then gd_ (σ 2 a1.toNatClampNeg) 80 (if (σ 8 (σ 2 a1.toNatClampNeg).toNatClampNeg) = 0 then some 0
    else gd_ a1 80 (gd_ (σ 3 a1.toNatClampNeg) 80 (if (σ 8 (σ 3 a1.toNatClampNeg).toNatClampNeg) = 0 then some 0
    else some 1)))
  else if (σ 1 a1.toNatClampNeg) = 5 then gd_ (σ 2 a1.toNatClampNeg) 80 (if (σ 8 (σ 2 a1.toNatClampNeg).toNatClampNeg) = 0 then gd_ a1 80 (gd_ (σ 3 a1.toNatClampNeg) 80 (if (σ 8 (σ 3 a1.toNatClampNeg).toNatClampNeg) = 0 then some 0
      else some 1))
    else some 1)
  else if (σ 1 a1.toNatClampNeg) = 6 then gd_ (σ 2 a1.toNatClampNeg) 80 (bo_ (σ 8 (σ 2 a1.toNatClampNeg).toNatClampNeg) (some (σ 8 (σ 2 a1.toNatClampNeg).toNatClampNeg)))
  else if (σ 1 a1.toNatClampNeg) = 7 then some 1
  else if (σ 1 a1.toNatClampNeg) = 8 then some 1
  else if (σ 1 a1.toNatClampNeg) = 9 then some 1
  else if (σ 1 a1.toNatClampNeg) = 10 then gd_ (σ 2 a1.toNatClampNeg) 80 (bo_ (σ 8 (σ 2 a1.toNatClampNeg).toNatClampNeg) (some (σ 8 (σ 2 a1.toNatClampNeg).toNatClampNeg)))
  else if (σ 1 a1.toNatClampNeg) = 11 then gd_ (σ 2 a1.toNatClampNeg) 6 (if (σ 6 (σ 2 a1.toNatClampNeg).toNatClampNeg) ≤ 0 then some 0
    else gd_ (σ 2 a1.toNatClampNeg) 6 (if (σ 6 (σ 2 a1.toNatClampNeg).toNatClampNeg) ≤ 0 then gd_ 0 80 (if (σ 8 (0 : Int32).toNatClampNeg) = 0 then some 0
      else some 1)
    else gd_ (σ 2 a1.toNatClampNeg) 6 (gd_ ((σ 6 (σ 2 a1.toNatClampNeg).toNatClampNeg) - 1) 80 (if (σ 8 ((σ 6 (σ 2 a1.toNatClampNeg).toNatClampNeg) - 1).toNatClampNeg) = 0 then some 0
    else some 1))))
  else if (σ 1 a1.toNatClampNeg) = 12 then gd_ (σ 2 a1.toNatClampNeg) 80 (bo_ (σ 8 (σ 2 a1.toNatClampNeg).toNatClampNeg) (some (σ 8 (σ 2 a1.toNatClampNeg).toNatClampNeg)))
  else if (σ 1 a1.toNatClampNeg) = 13 then some 1
  else some 0))
set_option maxHeartbeats 4000000 in
set_option maxRecDepth 100000 in
theorem c_R_emptyNow (l : Launch) (dC : Nat → ClassId) (dI : Nat → Nat → Nat) (q : Nat → Nat) (cA : Nat → ClassId) (σ : MZ_) (a1 : Int32) (u : Int32) (h : f_R_emptyNow σ a1 = some u) : Met l y_R_emptyNow w_R_emptyNow rm_R_emptyNow (va_Pc [.ref (q 0), .int a1] (PRx_ dC dI q cA σ)) (QcRead u) 0 0 (fun _ => False) := by
  refine Met.ofW (cc := prog_9_method_13_code) (maxL := 3) (ret := (some .boolean)) (by decide) rfl ?_
  intro p e s m args below meth c s₁ B hml hv
  obtain ⟨rfl, hP, hK, hD, hN, hZ⟩ := hv
  have hx := B.exec
  have hb := B.bytes
  have hr := B.returns
  have hts : ∀ w ∈ AW_, w.before _ s = true := fun w h => atoms_spec (ws := w_R_emptyNow) B.pre w (List.mem_cons_of_mem _ h)
  have hown : s.vm.findClass "StagedParsersModel" = some m.cls := findClass_of_methodNamed B.named
  have hlocks := B.notSynchronized
  have hS : va_S (AR q) s.heap s.heap [] := va_S.rf
  have hl := lv_entry ([.ref (q 0), .int a1]) (n := 3) (Nat.le_of_ble_eq_true rfl)
  rw [lg_entry_eq]
  generalize (lg_sl ([.ref (q 0), .int a1]) ++ List.replicate (3 - (lg_sl ([.ref (q 0), .int a1])).length) Slot.unset).toArray = ls at hl ⊢
  have hl : lv_has ls 3 [(0, .ref (q 0)), (1, .int a1)] := hl
  rw [f_R_emptyNow] at h
  refine lv_aload_n hx hb d_R_emptyNow_0 rfl (lv_at hl 0 rfl) ?_
  refine gf_R_13 hx hb hts hown hK hP d_R_emptyNow_1 ?_
  refine lv_iload_n hx hb d_R_emptyNow_4 rfl (lv_at hl 1 rfl) ?_
  obtain ⟨hgd, h⟩ := gd_some h
  refine al_R_2 hx hb hK hP hgd d_R_emptyNow_5 ?_
  refine lv_istore_n hx hb d_R_emptyNow_6 rfl hl (by decide) rfl (fun ls hl => ?_)
  have hl : lv_has ls 3 [(2, .int (σ 2 a1.toNatClampNeg)), (0, .ref (q 0)), (1, .int a1)] := hl
  refine lv_aload_n hx hb d_R_emptyNow_7 rfl (lv_at hl 1 rfl) ?_
  refine gf_R_7 hx hb hts hown hK hP d_R_emptyNow_8 ?_
  refine lv_iload_n hx hb d_R_emptyNow_11 rfl (lv_at hl 2 rfl) ?_
  obtain ⟨hgd, h⟩ := gd_some h
  refine al_R_1 hx hb hK hP hgd d_R_emptyNow_12 ?_
  by_cases hc0 : (σ 1 a1.toNatClampNeg) = 0
  · have h := if_t hc0 h
    refine sw_in (tgt := 84) hx hb d_R_emptyNow_13 hc0 (by decide) (by decide) rfl rfl ?_
    refine lv_iconst (v := 1) hx hb d_R_emptyNow_84 (by decide) ?_
    obtain rfl := Option.some.inj h
    exact W.zret hx hb hr rfl (fun t ht hW => ⟨rfl, ht⟩) (fun _ h9 => nomatch h9) d_R_emptyNow_85
  have h := if_f hc0 h
  by_cases hc1 : (σ 1 a1.toNatClampNeg) = 1
  · have h := if_t hc1 h
    refine sw_in (tgt := 195) hx hb d_R_emptyNow_13 hc1 (by decide) (by decide) rfl rfl ?_
    refine lv_iconst (v := 0) hx hb d_R_emptyNow_195 (by decide) ?_
    obtain rfl := Option.some.inj h
    exact W.zret hx hb hr rfl (fun t ht hW => ⟨rfl, ht⟩) (fun _ h9 => nomatch h9) d_R_emptyNow_196
  have h := if_f hc1 h
  by_cases hc2 : (σ 1 a1.toNatClampNeg) = 2
  · have h := if_t hc2 h
    refine sw_in (tgt := 195) hx hb d_R_emptyNow_13 hc2 (by decide) (by decide) rfl rfl ?_
    refine lv_iconst (v := 0) hx hb d_R_emptyNow_195 (by decide) ?_
    obtain rfl := Option.some.inj h
    exact W.zret hx hb hr rfl (fun t ht hW => ⟨rfl, ht⟩) (fun _ h9 => nomatch h9) d_R_emptyNow_196
  have h := if_f hc2 h
  by_cases hc3 : (σ 1 a1.toNatClampNeg) = 3
  · have h := if_t hc3 h
    refine sw_in (tgt := 195) hx hb d_R_emptyNow_13 hc3 (by decide) (by decide) rfl rfl ?_
    refine lv_iconst (v := 0) hx hb d_R_emptyNow_195 (by decide) ?_
    obtain rfl := Option.some.inj h
    exact W.zret hx hb hr rfl (fun t ht hW => ⟨rfl, ht⟩) (fun _ h9 => nomatch h9) d_R_emptyNow_196
  have h := if_f hc3 h
  by_cases hc4 : (σ 1 a1.toNatClampNeg) = 4
  · have h := if_t hc4 h
    refine sw_in (tgt := 86) hx hb d_R_emptyNow_13 hc4 (by decide) (by decide) rfl rfl ?_
    refine lv_aload_n hx hb d_R_emptyNow_86 rfl (lv_at hl 1 rfl) ?_
    refine gf_R_31 hx hb hts hown hK hP d_R_emptyNow_87 ?_
    refine lv_iload_n hx hb d_R_emptyNow_90 rfl (lv_at hl 0 rfl) ?_
    obtain ⟨hgd, h⟩ := gd_some h
    refine al_R_8 hx hb hK hP hgd d_R_emptyNow_91 ?_
    refine lv_if_eq (tgt := 113) hx hb d_R_emptyNow_92 rfl (fun hc => ?_) (fun hc => ?_)
    · have h := if_t hc h
      refine lv_iconst (v := 0) hx hb d_R_emptyNow_113 (by decide) ?_
      obtain rfl := Option.some.inj h
      exact W.zret hx hb hr rfl (fun t ht hW => ⟨rfl, ht⟩) (fun _ h9 => nomatch h9) d_R_emptyNow_114
    · have h := if_f hc h
      refine lv_aload_n hx hb d_R_emptyNow_95 rfl (lv_at hl 1 rfl) ?_
      refine gf_R_31 hx hb hts hown hK hP d_R_emptyNow_96 ?_
      refine lv_aload_n hx hb d_R_emptyNow_99 rfl (lv_at hl 1 rfl) ?_
      refine gf_R_16 hx hb hts hown hK hP d_R_emptyNow_100 ?_
      refine lv_iload_n hx hb d_R_emptyNow_103 rfl (lv_at hl 2 rfl) ?_
      obtain ⟨hgd, h⟩ := gd_some h
      refine al_R_3 hx hb hK hP hgd d_R_emptyNow_104 ?_
      obtain ⟨hgd, h⟩ := gd_some h
      refine al_R_8 hx hb hK hP hgd d_R_emptyNow_105 ?_
      refine lv_if_eq (tgt := 113) hx hb d_R_emptyNow_106 rfl (fun hc => ?_) (fun hc => ?_)
      · have h := if_t hc h
        refine lv_iconst (v := 0) hx hb d_R_emptyNow_113 (by decide) ?_
        obtain rfl := Option.some.inj h
        exact W.zret hx hb hr rfl (fun t ht hW => ⟨rfl, ht⟩) (fun _ h9 => nomatch h9) d_R_emptyNow_114
      · have h := if_f hc h
        refine lv_iconst (v := 1) hx hb d_R_emptyNow_109 (by decide) ?_
        refine lv_goto (tgt := 114) hx hb d_R_emptyNow_110 rfl ?_
        obtain rfl := Option.some.inj h
        exact W.zret hx hb hr rfl (fun t ht hW => ⟨rfl, ht⟩) (fun _ h9 => nomatch h9) d_R_emptyNow_114
  have h := if_f hc4 h
  by_cases hc5 : (σ 1 a1.toNatClampNeg) = 5
  · have h := if_t hc5 h
    refine sw_in (tgt := 115) hx hb d_R_emptyNow_13 hc5 (by decide) (by decide) rfl rfl ?_
    refine lv_aload_n hx hb d_R_emptyNow_115 rfl (lv_at hl 1 rfl) ?_
    refine gf_R_31 hx hb hts hown hK hP d_R_emptyNow_116 ?_
    refine lv_iload_n hx hb d_R_emptyNow_119 rfl (lv_at hl 0 rfl) ?_
    obtain ⟨hgd, h⟩ := gd_some h
    refine al_R_8 hx hb hK hP hgd d_R_emptyNow_120 ?_
    refine lv_if_ne (tgt := 138) hx hb d_R_emptyNow_121 rfl (fun hc => ?_) (fun hc => ?_)
    · have h := if_f hc h
      refine lv_iconst (v := 1) hx hb d_R_emptyNow_138 (by decide) ?_
      refine lv_goto (tgt := 143) hx hb d_R_emptyNow_139 rfl ?_
      obtain rfl := Option.some.inj h
      exact W.zret hx hb hr rfl (fun t ht hW => ⟨rfl, ht⟩) (fun _ h9 => nomatch h9) d_R_emptyNow_143
    · have h := if_t hc h
      refine lv_aload_n hx hb d_R_emptyNow_124 rfl (lv_at hl 1 rfl) ?_
      refine gf_R_31 hx hb hts hown hK hP d_R_emptyNow_125 ?_
      refine lv_aload_n hx hb d_R_emptyNow_128 rfl (lv_at hl 1 rfl) ?_
      refine gf_R_16 hx hb hts hown hK hP d_R_emptyNow_129 ?_
      refine lv_iload_n hx hb d_R_emptyNow_132 rfl (lv_at hl 2 rfl) ?_
      obtain ⟨hgd, h⟩ := gd_some h
      refine al_R_3 hx hb hK hP hgd d_R_emptyNow_133 ?_
      obtain ⟨hgd, h⟩ := gd_some h
      refine al_R_8 hx hb hK hP hgd d_R_emptyNow_134 ?_
      refine lv_if_eq (tgt := 142) hx hb d_R_emptyNow_135 rfl (fun hc => ?_) (fun hc => ?_)
      · have h := if_t hc h
        refine lv_iconst (v := 0) hx hb d_R_emptyNow_142 (by decide) ?_
        obtain rfl := Option.some.inj h
        exact W.zret hx hb hr rfl (fun t ht hW => ⟨rfl, ht⟩) (fun _ h9 => nomatch h9) d_R_emptyNow_143
      · have h := if_f hc h
        refine lv_iconst (v := 1) hx hb d_R_emptyNow_138 (by decide) ?_
        refine lv_goto (tgt := 143) hx hb d_R_emptyNow_139 rfl ?_
        obtain rfl := Option.some.inj h
        exact W.zret hx hb hr rfl (fun t ht hW => ⟨rfl, ht⟩) (fun _ h9 => nomatch h9) d_R_emptyNow_143
  have h := if_f hc5 h
  by_cases hc6 : (σ 1 a1.toNatClampNeg) = 6
  · have h := if_t hc6 h
    refine sw_in (tgt := 144) hx hb d_R_emptyNow_13 hc6 (by decide) (by decide) rfl rfl ?_
    refine lv_aload_n hx hb d_R_emptyNow_144 rfl (lv_at hl 1 rfl) ?_
    refine gf_R_31 hx hb hts hown hK hP d_R_emptyNow_145 ?_
    refine lv_iload_n hx hb d_R_emptyNow_148 rfl (lv_at hl 0 rfl) ?_
    obtain ⟨hgd, h⟩ := gd_some h
    refine al_R_8 hx hb hK hP hgd d_R_emptyNow_149 ?_
    obtain ⟨hbo, h⟩ := bo_some h
    obtain rfl := Option.some.inj h
    exact W.zret hx hb hr (bo_nar hbo) (fun t ht hW => ⟨rfl, ht⟩) (fun _ h9 => nomatch h9) d_R_emptyNow_150
  have h := if_f hc6 h
  by_cases hc7 : (σ 1 a1.toNatClampNeg) = 7
  · have h := if_t hc7 h
    refine sw_in (tgt := 84) hx hb d_R_emptyNow_13 hc7 (by decide) (by decide) rfl rfl ?_
    refine lv_iconst (v := 1) hx hb d_R_emptyNow_84 (by decide) ?_
    obtain rfl := Option.some.inj h
    exact W.zret hx hb hr rfl (fun t ht hW => ⟨rfl, ht⟩) (fun _ h9 => nomatch h9) d_R_emptyNow_85
  have h := if_f hc7 h
  by_cases hc8 : (σ 1 a1.toNatClampNeg) = 8
  · have h := if_t hc8 h
    refine sw_in (tgt := 84) hx hb d_R_emptyNow_13 hc8 (by decide) (by decide) rfl rfl ?_
    refine lv_iconst (v := 1) hx hb d_R_emptyNow_84 (by decide) ?_
    obtain rfl := Option.some.inj h
    exact W.zret hx hb hr rfl (fun t ht hW => ⟨rfl, ht⟩) (fun _ h9 => nomatch h9) d_R_emptyNow_85
  have h := if_f hc8 h
  by_cases hc9 : (σ 1 a1.toNatClampNeg) = 9
  · have h := if_t hc9 h
    refine sw_in (tgt := 84) hx hb d_R_emptyNow_13 hc9 (by decide) (by decide) rfl rfl ?_
    refine lv_iconst (v := 1) hx hb d_R_emptyNow_84 (by decide) ?_
    obtain rfl := Option.some.inj h
    exact W.zret hx hb hr rfl (fun t ht hW => ⟨rfl, ht⟩) (fun _ h9 => nomatch h9) d_R_emptyNow_85
  have h := if_f hc9 h
  by_cases hc10 : (σ 1 a1.toNatClampNeg) = 10
  · have h := if_t hc10 h
    refine sw_in (tgt := 144) hx hb d_R_emptyNow_13 hc10 (by decide) (by decide) rfl rfl ?_
    refine lv_aload_n hx hb d_R_emptyNow_144 rfl (lv_at hl 1 rfl) ?_
    refine gf_R_31 hx hb hts hown hK hP d_R_emptyNow_145 ?_
    refine lv_iload_n hx hb d_R_emptyNow_148 rfl (lv_at hl 0 rfl) ?_
    obtain ⟨hgd, h⟩ := gd_some h
    refine al_R_8 hx hb hK hP hgd d_R_emptyNow_149 ?_
    obtain ⟨hbo, h⟩ := bo_some h
    obtain rfl := Option.some.inj h
    exact W.zret hx hb hr (bo_nar hbo) (fun t ht hW => ⟨rfl, ht⟩) (fun _ h9 => nomatch h9) d_R_emptyNow_150
  have h := if_f hc10 h
  by_cases hc11 : (σ 1 a1.toNatClampNeg) = 11
  · have h := if_t hc11 h
    refine sw_in (tgt := 151) hx hb d_R_emptyNow_13 hc11 (by decide) (by decide) rfl rfl ?_
    refine lv_aload_n hx hb d_R_emptyNow_151 rfl (lv_at hl 1 rfl) ?_
    refine gf_R_25 hx hb hts hown hK hP d_R_emptyNow_152 ?_
    refine lv_iload_n hx hb d_R_emptyNow_155 rfl (lv_at hl 0 rfl) ?_
    obtain ⟨hgd, h⟩ := gd_some h
    refine al_R_6 hx hb hK hP hgd d_R_emptyNow_156 ?_
    refine lv_if_le (tgt := 193) hx hb d_R_emptyNow_157 rfl (fun hc => ?_) (fun hc => ?_)
    · have h := if_t hc h
      refine lv_iconst (v := 0) hx hb d_R_emptyNow_193 (by decide) ?_
      obtain rfl := Option.some.inj h
      exact W.zret hx hb hr rfl (fun t ht hW => ⟨rfl, ht⟩) (fun _ h9 => nomatch h9) d_R_emptyNow_194
    · have h := if_f hc h
      refine lv_aload_n hx hb d_R_emptyNow_160 rfl (lv_at hl 1 rfl) ?_
      refine gf_R_31 hx hb hts hown hK hP d_R_emptyNow_161 ?_
      refine lv_aload_n hx hb d_R_emptyNow_164 rfl (lv_at hl 1 rfl) ?_
      refine gf_R_25 hx hb hts hown hK hP d_R_emptyNow_165 ?_
      refine lv_iload_n hx hb d_R_emptyNow_168 rfl (lv_at hl 0 rfl) ?_
      obtain ⟨hgd, h⟩ := gd_some h
      refine al_R_6 hx hb hK hP hgd d_R_emptyNow_169 ?_
      refine lv_if_le (tgt := 184) hx hb d_R_emptyNow_170 rfl (fun hc => ?_) (fun hc => ?_)
      · have h := if_t hc h
        refine lv_iconst (v := 0) hx hb d_R_emptyNow_184 (by decide) ?_
        obtain ⟨hgd, h⟩ := gd_some h
        refine al_R_8 hx hb hK hP hgd d_R_emptyNow_185 ?_
        refine lv_if_eq (tgt := 193) hx hb d_R_emptyNow_186 rfl (fun hc => ?_) (fun hc => ?_)
        · have h := if_t hc h
          refine lv_iconst (v := 0) hx hb d_R_emptyNow_193 (by decide) ?_
          obtain rfl := Option.some.inj h
          exact W.zret hx hb hr rfl (fun t ht hW => ⟨rfl, ht⟩) (fun _ h9 => nomatch h9) d_R_emptyNow_194
        · have h := if_f hc h
          refine lv_iconst (v := 1) hx hb d_R_emptyNow_189 (by decide) ?_
          refine lv_goto (tgt := 194) hx hb d_R_emptyNow_190 rfl ?_
          obtain rfl := Option.some.inj h
          exact W.zret hx hb hr rfl (fun t ht hW => ⟨rfl, ht⟩) (fun _ h9 => nomatch h9) d_R_emptyNow_194
      · have h := if_f hc h
        refine lv_aload_n hx hb d_R_emptyNow_173 rfl (lv_at hl 1 rfl) ?_
        refine gf_R_25 hx hb hts hown hK hP d_R_emptyNow_174 ?_
        refine lv_iload_n hx hb d_R_emptyNow_177 rfl (lv_at hl 0 rfl) ?_
        obtain ⟨hgd, h⟩ := gd_some h
        refine al_R_6 hx hb hK hP hgd d_R_emptyNow_178 ?_
        refine lv_iconst (v := 1) hx hb d_R_emptyNow_179 (by decide) ?_
        refine lv_isub hx hb d_R_emptyNow_180 ?_
        refine lv_goto (tgt := 185) hx hb d_R_emptyNow_181 rfl ?_
        obtain ⟨hgd, h⟩ := gd_some h
        refine al_R_8 hx hb hK hP hgd d_R_emptyNow_185 ?_
        refine lv_if_eq (tgt := 193) hx hb d_R_emptyNow_186 rfl (fun hc => ?_) (fun hc => ?_)
        · have h := if_t hc h
          refine lv_iconst (v := 0) hx hb d_R_emptyNow_193 (by decide) ?_
          obtain rfl := Option.some.inj h
          exact W.zret hx hb hr rfl (fun t ht hW => ⟨rfl, ht⟩) (fun _ h9 => nomatch h9) d_R_emptyNow_194
        · have h := if_f hc h
          refine lv_iconst (v := 1) hx hb d_R_emptyNow_189 (by decide) ?_
          refine lv_goto (tgt := 194) hx hb d_R_emptyNow_190 rfl ?_
          obtain rfl := Option.some.inj h
          exact W.zret hx hb hr rfl (fun t ht hW => ⟨rfl, ht⟩) (fun _ h9 => nomatch h9) d_R_emptyNow_194
  have h := if_f hc11 h
  by_cases hc12 : (σ 1 a1.toNatClampNeg) = 12
  · have h := if_t hc12 h
    refine sw_in (tgt := 144) hx hb d_R_emptyNow_13 hc12 (by decide) (by decide) rfl rfl ?_
    refine lv_aload_n hx hb d_R_emptyNow_144 rfl (lv_at hl 1 rfl) ?_
    refine gf_R_31 hx hb hts hown hK hP d_R_emptyNow_145 ?_
    refine lv_iload_n hx hb d_R_emptyNow_148 rfl (lv_at hl 0 rfl) ?_
    obtain ⟨hgd, h⟩ := gd_some h
    refine al_R_8 hx hb hK hP hgd d_R_emptyNow_149 ?_
    obtain ⟨hbo, h⟩ := bo_some h
    obtain rfl := Option.some.inj h
    exact W.zret hx hb hr (bo_nar hbo) (fun t ht hW => ⟨rfl, ht⟩) (fun _ h9 => nomatch h9) d_R_emptyNow_150
  have h := if_f hc12 h
  by_cases hc13 : (σ 1 a1.toNatClampNeg) = 13
  · have h := if_t hc13 h
    refine sw_in (tgt := 84) hx hb d_R_emptyNow_13 hc13 (by decide) (by decide) rfl rfl ?_
    refine lv_iconst (v := 1) hx hb d_R_emptyNow_84 (by decide) ?_
    obtain rfl := Option.some.inj h
    exact W.zret hx hb hr rfl (fun t ht hW => ⟨rfl, ht⟩) (fun _ h9 => nomatch h9) d_R_emptyNow_85
  have h := if_f hc13 h
  refine lv_tableOut (tgt := 195) hx hb d_R_emptyNow_13 (by have q0 := lv_neT hc0 (a := 0) (by decide); have q1 := lv_neT hc1 (a := 1) (by decide); have q2 := lv_neT hc2 (a := 2) (by decide); have q3 := lv_neT hc3 (a := 3) (by decide); have q4 := lv_neT hc4 (a := 4) (by decide); have q5 := lv_neT hc5 (a := 5) (by decide); have q6 := lv_neT hc6 (a := 6) (by decide); have q7 := lv_neT hc7 (a := 7) (by decide); have q8 := lv_neT hc8 (a := 8) (by decide); have q9 := lv_neT hc9 (a := 9) (by decide); have q10 := lv_neT hc10 (a := 10) (by decide); have q11 := lv_neT hc11 (a := 11) (by decide); have q12 := lv_neT hc12 (a := 12) (by decide); have q13 := lv_neT hc13 (a := 13) (by decide); omega) rfl ?_
  refine lv_iconst (v := 0) hx hb d_R_emptyNow_195 (by decide) ?_
  obtain rfl := Option.some.inj h
  exact W.zret hx hb hr rfl (fun t ht hW => ⟨rfl, ht⟩) (fun _ h9 => nomatch h9) d_R_emptyNow_196
def y_R_findEmpty : MethodName := ⟨"StagedParsersModel", "findEmpty", "()V"⟩
def w_R_findEmpty : List Cond := .code y_R_findEmpty prog_9_method_14_code 4 none :: AW_
def rm_R_findEmpty : Room := { frames := 1, cells := 0, slots := 0, locals := 22 }
theorem d_R_findEmpty_0 : decode prog_9_method_14_code 0 = .ok (.iconst 0, 1) := by decide +kernel
theorem d_R_findEmpty_1 : decode prog_9_method_14_code 1 = .ok (.istore_n 1, 1) := by decide +kernel
theorem d_R_findEmpty_2 : decode prog_9_method_14_code 2 = .ok (.iload_n 1, 1) := by decide +kernel
theorem d_R_findEmpty_3 : decode prog_9_method_14_code 3 = .ok (.aload_n 0, 1) := by decide +kernel
theorem d_R_findEmpty_4 : decode prog_9_method_14_code 4 = .ok (.getfield 69, 3) := by decide +kernel
theorem d_R_findEmpty_7 : decode prog_9_method_14_code 7 = .ok (.if_icmp .ge 16, 3) := by decide +kernel
theorem d_R_findEmpty_10 : decode prog_9_method_14_code 10 = .ok (.aload_n 0, 1) := by decide +kernel
theorem d_R_findEmpty_11 : decode prog_9_method_14_code 11 = .ok (.getfield 31, 3) := by decide +kernel
theorem d_R_findEmpty_14 : decode prog_9_method_14_code 14 = .ok (.iload_n 1, 1) := by decide +kernel
theorem d_R_findEmpty_15 : decode prog_9_method_14_code 15 = .ok (.iconst 0, 1) := by decide +kernel
theorem d_R_findEmpty_16 : decode prog_9_method_14_code 16 = .ok (.bastore, 1) := by decide +kernel
theorem d_R_findEmpty_17 : decode prog_9_method_14_code 17 = .ok (.iinc 1 1, 3) := by decide +kernel
theorem d_R_findEmpty_20 : decode prog_9_method_14_code 20 = .ok (.goto (-18), 3) := by decide +kernel
theorem d_R_findEmpty_23 : decode prog_9_method_14_code 23 = .ok (.iconst 1, 1) := by decide +kernel
theorem d_R_findEmpty_24 : decode prog_9_method_14_code 24 = .ok (.istore_n 1, 1) := by decide +kernel
theorem d_R_findEmpty_25 : decode prog_9_method_14_code 25 = .ok (.iload_n 1, 1) := by decide +kernel
theorem d_R_findEmpty_26 : decode prog_9_method_14_code 26 = .ok (.ifCond .eq 57, 3) := by decide +kernel
theorem d_R_findEmpty_29 : decode prog_9_method_14_code 29 = .ok (.iconst 0, 1) := by decide +kernel
theorem d_R_findEmpty_30 : decode prog_9_method_14_code 30 = .ok (.istore_n 1, 1) := by decide +kernel
theorem d_R_findEmpty_31 : decode prog_9_method_14_code 31 = .ok (.iconst 0, 1) := by decide +kernel
theorem d_R_findEmpty_32 : decode prog_9_method_14_code 32 = .ok (.istore_n 2, 1) := by decide +kernel
theorem d_R_findEmpty_33 : decode prog_9_method_14_code 33 = .ok (.iload_n 2, 1) := by decide +kernel
theorem d_R_findEmpty_34 : decode prog_9_method_14_code 34 = .ok (.aload_n 0, 1) := by decide +kernel
theorem d_R_findEmpty_35 : decode prog_9_method_14_code 35 = .ok (.getfield 69, 3) := by decide +kernel
theorem d_R_findEmpty_38 : decode prog_9_method_14_code 38 = .ok (.if_icmp .ge 42, 3) := by decide +kernel
theorem d_R_findEmpty_41 : decode prog_9_method_14_code 41 = .ok (.aload_n 0, 1) := by decide +kernel
theorem d_R_findEmpty_42 : decode prog_9_method_14_code 42 = .ok (.iload_n 2, 1) := by decide +kernel
theorem d_R_findEmpty_43 : decode prog_9_method_14_code 43 = .ok (.invokevirtual 106, 3) := by decide +kernel
theorem d_R_findEmpty_46 : decode prog_9_method_14_code 46 = .ok (.istore_n 3, 1) := by decide +kernel
theorem d_R_findEmpty_47 : decode prog_9_method_14_code 47 = .ok (.iload_n 1, 1) := by decide +kernel
theorem d_R_findEmpty_48 : decode prog_9_method_14_code 48 = .ok (.ifCond .ne 13, 3) := by decide +kernel
theorem d_R_findEmpty_51 : decode prog_9_method_14_code 51 = .ok (.iload_n 3, 1) := by decide +kernel
theorem d_R_findEmpty_52 : decode prog_9_method_14_code 52 = .ok (.aload_n 0, 1) := by decide +kernel
theorem d_R_findEmpty_53 : decode prog_9_method_14_code 53 = .ok (.getfield 31, 3) := by decide +kernel
theorem d_R_findEmpty_56 : decode prog_9_method_14_code 56 = .ok (.iload_n 2, 1) := by decide +kernel
theorem d_R_findEmpty_57 : decode prog_9_method_14_code 57 = .ok (.baload, 1) := by decide +kernel
theorem d_R_findEmpty_58 : decode prog_9_method_14_code 58 = .ok (.if_icmp .eq 7, 3) := by decide +kernel
theorem d_R_findEmpty_61 : decode prog_9_method_14_code 61 = .ok (.iconst 1, 1) := by decide +kernel
theorem d_R_findEmpty_62 : decode prog_9_method_14_code 62 = .ok (.goto 4, 3) := by decide +kernel
theorem d_R_findEmpty_65 : decode prog_9_method_14_code 65 = .ok (.iconst 0, 1) := by decide +kernel
theorem d_R_findEmpty_66 : decode prog_9_method_14_code 66 = .ok (.istore_n 1, 1) := by decide +kernel
theorem d_R_findEmpty_67 : decode prog_9_method_14_code 67 = .ok (.aload_n 0, 1) := by decide +kernel
theorem d_R_findEmpty_68 : decode prog_9_method_14_code 68 = .ok (.getfield 31, 3) := by decide +kernel
theorem d_R_findEmpty_71 : decode prog_9_method_14_code 71 = .ok (.iload_n 2, 1) := by decide +kernel
theorem d_R_findEmpty_72 : decode prog_9_method_14_code 72 = .ok (.iload_n 3, 1) := by decide +kernel
theorem d_R_findEmpty_73 : decode prog_9_method_14_code 73 = .ok (.bastore, 1) := by decide +kernel
theorem d_R_findEmpty_74 : decode prog_9_method_14_code 74 = .ok (.iinc 2 1, 3) := by decide +kernel
theorem d_R_findEmpty_77 : decode prog_9_method_14_code 77 = .ok (.goto (-44), 3) := by decide +kernel
theorem d_R_findEmpty_80 : decode prog_9_method_14_code 80 = .ok (.goto (-55), 3) := by decide +kernel
theorem d_R_findEmpty_83 : decode prog_9_method_14_code 83 = .ok (.return_, 1) := by decide +kernel
section RW
variable {p : Program} {l : Launch} {e : Env} {R : Room} {s : State} {m : MethodId} {args : Array Value} {below : List Frame} {meth : Method} {c : Code} {H : Heap} {locs : List Loc} {cells slots : Nat} {Q : State → Prop}
variable {cc : ByteArray} {pc : Nat} {ls : Array Slot} {rest : List Value} {dC : Nat → ClassId} {dI : Nat → Nat → Nat} {q : Nat → Nat} {cA : Nat → ClassId} {σ : MZ_} {H0 : Heap} {A : Nat → Prop}

theorem cw_R_106 (hts : ∀ w ∈ AW_, w.before args s = true) (hR : rm_R_emptyNow.frames + 1 ≤ R.frames ∧ 8 + (3 + 11) + rm_R_emptyNow.locals ≤ R.locals) : CallW R s args "StagedParsersModel" "StagedParsersModel" 106 y_R_emptyNow prog_9_method_13_code 3 (some .boolean) w_R_emptyNow rm_R_emptyNow 0 0 1 :=
  ⟨callB_of 1 hts (aw_in kw_966) rfl rfl rfl (hts _ kw_9) (hts _ kw_963) ⟨by decide, by decide, by decide +kernel⟩ hR, hts _ kw_965, hts _ ks_46⟩
end RW
def f_R_findEmpty_L33 (k : MZ_ → Int32 → Option (MZ_)) : Nat → MZ_ → Int32 → Int32 → Option (MZ_)
  | 0, _, _, _ => none
  | N + 1, σ, x1, x2 => if (σ 31 0) ≤ x2 then k σ x1
    else (f_R_emptyNow σ x2).bind fun r1 => if x1 = 0 then gd_ x2 80 (if r1 = (σ 8 x2.toNatClampNeg) then gd_ x2 80 (st_ (va_up σ 8 (upd (σ 8) x2.toNatClampNeg (vp_nar .boolean r1))) fun σ3 => f_R_findEmpty_L33 k N σ3 0 (x2 + 1))
      else gd_ x2 80 (st_ (va_up σ 8 (upd (σ 8) x2.toNatClampNeg (vp_nar .boolean r1))) fun σ4 => f_R_findEmpty_L33 k N σ4 1 (x2 + 1)))
    else gd_ x2 80 (st_ (va_up σ 8 (upd (σ 8) x2.toNatClampNeg (vp_nar .boolean r1))) fun σ2 => f_R_findEmpty_L33 k N σ2 1 (x2 + 1))
def f_R_findEmpty_L25 : Nat → MZ_ → Int32 → Option (MZ_)
  | 0, _, _ => none
  | N + 1, σ, x1 => if x1 = 0 then some σ
    else f_R_findEmpty_L33 (fun σ x1 => f_R_findEmpty_L25 N σ x1) 100 σ 0 0
def f_R_findEmpty_L2 : Nat → MZ_ → Int32 → Option (MZ_)
  | 0, _, _ => none
  | N + 1, σ, x1 => if (σ 31 0) ≤ x1 then f_R_findEmpty_L25 100 σ 1
    else gd_ x1 80 (st_ (va_up σ 8 (upd (σ 8) x1.toNatClampNeg (vp_nar .boolean 0))) fun σ1 => f_R_findEmpty_L2 N σ1 (x1 + 1))
def f_R_findEmpty (σ : MZ_) : Option (MZ_) :=
  f_R_findEmpty_L2 100 σ 0
set_option maxHeartbeats 4000000 in
set_option maxRecDepth 100000 in
theorem c_R_findEmpty (l : Launch) (dC : Nat → ClassId) (dI : Nat → Nat → Nat) (q : Nat → Nat) (cA : Nat → ClassId) (σ : MZ_) (u : MZ_) (h : f_R_findEmpty σ = some u) : Met l y_R_findEmpty w_R_findEmpty rm_R_findEmpty (va_Pc [.ref (q 0)] (PRx_ dC dI q cA σ)) (QW_ none (fun H => va_P (dC, dI) cls_ (wR q cA u) H) (AR q)) 0 0 (AR q) := by
  refine Met.ofW (cc := prog_9_method_14_code) (maxL := 4) (ret := none) (by decide) rfl ?_
  intro p e s m args below meth c s₁ B hml hv
  obtain ⟨rfl, hP, hK, hD, hN, hZ⟩ := hv
  have hx := B.exec
  have hb := B.bytes
  have hr := B.returns
  have hts : ∀ w ∈ AW_, w.before _ s = true := fun w h => atoms_spec (ws := w_R_findEmpty) B.pre w (List.mem_cons_of_mem _ h)
  have hown : s.vm.findClass "StagedParsersModel" = some m.cls := findClass_of_methodNamed B.named
  have hlocks := B.notSynchronized
  have hS : va_S (AR q) s.heap s.heap [] := va_S.rf
  have hl := lv_entry ([.ref (q 0)]) (n := 4) (Nat.le_of_ble_eq_true rfl)
  rw [lg_entry_eq]
  generalize (lg_sl ([.ref (q 0)]) ++ List.replicate (4 - (lg_sl ([.ref (q 0)])).length) Slot.unset).toArray = ls at hl ⊢
  have hl : lv_has ls 4 [(0, .ref (q 0))] := hl
  have L25 : ∀ (N25 : Nat) (σ : MZ_) (x1 : Int32), f_R_findEmpty_L25 N25 σ x1 = some u → ∀ (H : Heap) (locs : List Loc) (ls : Array Slot), va_P (dC, dI) cls_ (wR q cA σ) H → va_S (AR q) s.heap H locs → lv_has ls 4 [(0, .ref (q 0)), (1, .int x1)] → W p l e (headSpec w_R_findEmpty rm_R_findEmpty).room s m ([.ref (q 0)] : List Value).toArray below meth c H locs 0 0 (MQ below (QW_ none (fun H => va_P (dC, dI) cls_ (wR q cA u) H) (AR q)) ([.ref (q 0)] : List Value).toArray s 0 0 (AR q)) (F0 m 25 ls []) := by
    intro N25
    induction N25 with
    | zero => intro σ x1 h; cases h
    | succ N25 ih25 =>
      intro σ x1 h H locs ls hP hS hl
      have hD : va_D (AR q) (wR q cA σ) := dd_re (wR_f _ _ _ _) hD
      rw [f_R_findEmpty_L25] at h
      refine lv_iload_n hx hb d_R_findEmpty_25 rfl (lv_at hl 1 rfl) ?_
      refine lv_if_eq (tgt := 83) hx hb d_R_findEmpty_26 rfl (fun hc => ?_) (fun hc => ?_)
      · have h := if_t hc h
        obtain rfl := Option.some.inj h
        exact W.vret hx hb hr (fun t ht hW => ⟨rfl, by rw [ht]; exact hP, hS.F ht⟩) hS.2.2 d_R_findEmpty_83
      · have h := if_f hc h
        refine lv_iconst (v := 0) hx hb d_R_findEmpty_29 (by decide) ?_
        refine lv_istore_n hx hb d_R_findEmpty_30 rfl hl (by decide) rfl (fun ls hl => ?_)
        have hl : lv_has ls 4 [(1, .int 0), (0, .ref (q 0))] := hl
        refine lv_iconst (v := 0) hx hb d_R_findEmpty_31 (by decide) ?_
        refine lv_istore_n hx hb d_R_findEmpty_32 rfl hl (by decide) rfl (fun ls hl => ?_)
        have hl : lv_has ls 4 [(2, .int 0), (1, .int 0), (0, .ref (q 0))] := hl
        have L33 : ∀ (N33 : Nat) (σ : MZ_) (x1 : Int32) (x2 : Int32), f_R_findEmpty_L33 (fun σ x1 => f_R_findEmpty_L25 N25 σ x1) N33 σ x1 x2 = some u → ∀ (H : Heap) (locs : List Loc) (ls : Array Slot), va_P (dC, dI) cls_ (wR q cA σ) H → va_S (AR q) s.heap H locs → lv_has ls 4 [(0, .ref (q 0)), (1, .int x1), (2, .int x2)] → W p l e (headSpec w_R_findEmpty rm_R_findEmpty).room s m ([.ref (q 0)] : List Value).toArray below meth c H locs 0 0 (MQ below (QW_ none (fun H => va_P (dC, dI) cls_ (wR q cA u) H) (AR q)) ([.ref (q 0)] : List Value).toArray s 0 0 (AR q)) (F0 m 33 ls []) := by
          intro N33
          induction N33 with
          | zero => intro σ x1 x2 h; cases h
          | succ N33 ih33 =>
            intro σ x1 x2 h H locs ls hP hS hl
            have hD : va_D (AR q) (wR q cA σ) := dd_re (wR_f _ _ _ _) hD
            rw [f_R_findEmpty_L33] at h
            refine lv_iload_n hx hb d_R_findEmpty_33 rfl (lv_at hl 2 rfl) ?_
            refine lv_aload_n hx hb d_R_findEmpty_34 rfl (lv_at hl 0 rfl) ?_
            refine gf_R_69 hx hb hts hown hK hP d_R_findEmpty_35 ?_
            refine lv_icmp_ge (tgt := 80) hx hb d_R_findEmpty_38 rfl (fun hc => ?_) (fun hc => ?_)
            · have h := if_t hc h
              refine lv_goto (tgt := 25) hx hb d_R_findEmpty_80 rfl ?_
              exact ih25 _ _ h _ _ _ hP hS (lv_sub hl [0, 1] rfl)
            · have h := if_f hc h
              refine lv_aload_n hx hb d_R_findEmpty_41 rfl (lv_at hl 0 rfl) ?_
              refine lv_iload_n hx hb d_R_findEmpty_42 rfl (lv_at hl 2 rfl) ?_
              obtain ⟨r1, hcl, h⟩ := bd_some h
              refine cx_read (va_runV (As := [.int x2]) (rest := []) ⟨hx, hb, hml, hown, hts⟩ (c_R_emptyNow l dC dI q cA σ x2 _ hcl) (cw_R_106 hts ⟨Nat.le_of_ble_eq_true rfl, Nat.le_of_ble_eq_true rfl⟩) ⟨pxR_B, va_recv hK hP (ci := 7) (q0 := 0) rfl rfl, pxR_U hP hK hD hN hZ hS⟩ rfl rfl hl.1 rfl (lv_room (Nat.le_of_ble_eq_true rfl)) d_R_findEmpty_43 ⟨Nat.zero_le _, Nat.zero_le _⟩) ?_
              refine lv_istore_n hx hb d_R_findEmpty_46 rfl hl (by decide) rfl (fun ls hl => ?_)
              have hl : lv_has ls 4 [(3, .int r1), (0, .ref (q 0)), (1, .int x1), (2, .int x2)] := hl
              refine lv_iload_n hx hb d_R_findEmpty_47 rfl (lv_at hl 2 rfl) ?_
              refine lv_if_ne (tgt := 61) hx hb d_R_findEmpty_48 rfl (fun hc => ?_) (fun hc => ?_)
              · have h := if_f hc h
                refine lv_iconst (v := 1) hx hb d_R_findEmpty_61 (by decide) ?_
                refine lv_goto (tgt := 66) hx hb d_R_findEmpty_62 rfl ?_
                refine lv_istore_n hx hb d_R_findEmpty_66 rfl hl (by decide) rfl (fun ls hl => ?_)
                have hl : lv_has ls 4 [(1, .int 1), (3, .int r1), (0, .ref (q 0)), (2, .int x2)] := hl
                refine lv_aload_n hx hb d_R_findEmpty_67 rfl (lv_at hl 2 rfl) ?_
                refine gf_R_31 hx hb hts hown hK hP d_R_findEmpty_68 ?_
                refine lv_iload_n hx hb d_R_findEmpty_71 rfl (lv_at hl 3 rfl) ?_
                refine lv_iload_n hx hb d_R_findEmpty_72 rfl (lv_at hl 1 rfl) ?_
                obtain ⟨hgd, h⟩ := gd_some h
                refine as_R_8 hx hb hK hP hD hS hgd d_R_findEmpty_73 (fun H locs hP hS => ?_)
                obtain ⟨σ2, eσ2, h⟩ := st_some h
                rw [← eσ2] at hP
                have hD : va_D (AR q) (wR q cA σ2) := dd_re (wR_f _ _ _ _) hD
                refine lv_iinc (v := x2 + 1) hx hb d_R_findEmpty_74 hl (k := 3) rfl rfl (by decide) rfl (fun ls hl => ?_)
                have hl : lv_has ls 4 [(2, .int (x2 + 1)), (1, .int 1), (3, .int r1), (0, .ref (q 0))] := hl
                refine lv_goto (tgt := 33) hx hb d_R_findEmpty_77 rfl ?_
                exact ih33 _ _ _ h _ _ _ hP hS (lv_sub hl [3, 1, 0] rfl)
              · have h := if_t hc h
                refine lv_iload_n hx hb d_R_findEmpty_51 rfl (lv_at hl 0 rfl) ?_
                refine lv_aload_n hx hb d_R_findEmpty_52 rfl (lv_at hl 1 rfl) ?_
                refine gf_R_31 hx hb hts hown hK hP d_R_findEmpty_53 ?_
                refine lv_iload_n hx hb d_R_findEmpty_56 rfl (lv_at hl 3 rfl) ?_
                obtain ⟨hgd, h⟩ := gd_some h
                refine al_R_8 hx hb hK hP hgd d_R_findEmpty_57 ?_
                refine lv_icmp_eq (tgt := 65) hx hb d_R_findEmpty_58 rfl (fun hc => ?_) (fun hc => ?_)
                · have h := if_t hc h
                  refine lv_iconst (v := 0) hx hb d_R_findEmpty_65 (by decide) ?_
                  refine lv_istore_n hx hb d_R_findEmpty_66 rfl hl (by decide) rfl (fun ls hl => ?_)
                  have hl : lv_has ls 4 [(1, .int 0), (3, .int r1), (0, .ref (q 0)), (2, .int x2)] := hl
                  refine lv_aload_n hx hb d_R_findEmpty_67 rfl (lv_at hl 2 rfl) ?_
                  refine gf_R_31 hx hb hts hown hK hP d_R_findEmpty_68 ?_
                  refine lv_iload_n hx hb d_R_findEmpty_71 rfl (lv_at hl 3 rfl) ?_
                  refine lv_iload_n hx hb d_R_findEmpty_72 rfl (lv_at hl 1 rfl) ?_
                  obtain ⟨hgd, h⟩ := gd_some h
                  refine as_R_8 hx hb hK hP hD hS hgd d_R_findEmpty_73 (fun H locs hP hS => ?_)
                  obtain ⟨σ3, eσ3, h⟩ := st_some h
                  rw [← eσ3] at hP
                  have hD : va_D (AR q) (wR q cA σ3) := dd_re (wR_f _ _ _ _) hD
                  refine lv_iinc (v := x2 + 1) hx hb d_R_findEmpty_74 hl (k := 3) rfl rfl (by decide) rfl (fun ls hl => ?_)
                  have hl : lv_has ls 4 [(2, .int (x2 + 1)), (1, .int 0), (3, .int r1), (0, .ref (q 0))] := hl
                  refine lv_goto (tgt := 33) hx hb d_R_findEmpty_77 rfl ?_
                  exact ih33 _ _ _ h _ _ _ hP hS (lv_sub hl [3, 1, 0] rfl)
                · have h := if_f hc h
                  refine lv_iconst (v := 1) hx hb d_R_findEmpty_61 (by decide) ?_
                  refine lv_goto (tgt := 66) hx hb d_R_findEmpty_62 rfl ?_
                  refine lv_istore_n hx hb d_R_findEmpty_66 rfl hl (by decide) rfl (fun ls hl => ?_)
                  have hl : lv_has ls 4 [(1, .int 1), (3, .int r1), (0, .ref (q 0)), (2, .int x2)] := hl
                  refine lv_aload_n hx hb d_R_findEmpty_67 rfl (lv_at hl 2 rfl) ?_
                  refine gf_R_31 hx hb hts hown hK hP d_R_findEmpty_68 ?_
                  refine lv_iload_n hx hb d_R_findEmpty_71 rfl (lv_at hl 3 rfl) ?_
                  refine lv_iload_n hx hb d_R_findEmpty_72 rfl (lv_at hl 1 rfl) ?_
                  obtain ⟨hgd, h⟩ := gd_some h
                  refine as_R_8 hx hb hK hP hD hS hgd d_R_findEmpty_73 (fun H locs hP hS => ?_)
                  obtain ⟨σ4, eσ4, h⟩ := st_some h
                  rw [← eσ4] at hP
                  have hD : va_D (AR q) (wR q cA σ4) := dd_re (wR_f _ _ _ _) hD
                  refine lv_iinc (v := x2 + 1) hx hb d_R_findEmpty_74 hl (k := 3) rfl rfl (by decide) rfl (fun ls hl => ?_)
                  have hl : lv_has ls 4 [(2, .int (x2 + 1)), (1, .int 1), (3, .int r1), (0, .ref (q 0))] := hl
                  refine lv_goto (tgt := 33) hx hb d_R_findEmpty_77 rfl ?_
                  exact ih33 _ _ _ h _ _ _ hP hS (lv_sub hl [3, 1, 0] rfl)
        exact L33 _ _ _ _ h _ _ _ hP hS (lv_sub hl [2, 1, 0] rfl)
  have L2 : ∀ (N2 : Nat) (σ : MZ_) (x1 : Int32), f_R_findEmpty_L2 N2 σ x1 = some u → ∀ (H : Heap) (locs : List Loc) (ls : Array Slot), va_P (dC, dI) cls_ (wR q cA σ) H → va_S (AR q) s.heap H locs → lv_has ls 4 [(0, .ref (q 0)), (1, .int x1)] → W p l e (headSpec w_R_findEmpty rm_R_findEmpty).room s m ([.ref (q 0)] : List Value).toArray below meth c H locs 0 0 (MQ below (QW_ none (fun H => va_P (dC, dI) cls_ (wR q cA u) H) (AR q)) ([.ref (q 0)] : List Value).toArray s 0 0 (AR q)) (F0 m 2 ls []) := by
    intro N2
    induction N2 with
    | zero => intro σ x1 h; cases h
    | succ N2 ih2 =>
      intro σ x1 h H locs ls hP hS hl
      have hD : va_D (AR q) (wR q cA σ) := dd_re (wR_f _ _ _ _) hD
      rw [f_R_findEmpty_L2] at h
      refine lv_iload_n hx hb d_R_findEmpty_2 rfl (lv_at hl 1 rfl) ?_
      refine lv_aload_n hx hb d_R_findEmpty_3 rfl (lv_at hl 0 rfl) ?_
      refine gf_R_69 hx hb hts hown hK hP d_R_findEmpty_4 ?_
      refine lv_icmp_ge (tgt := 23) hx hb d_R_findEmpty_7 rfl (fun hc => ?_) (fun hc => ?_)
      · have h := if_t hc h
        refine lv_iconst (v := 1) hx hb d_R_findEmpty_23 (by decide) ?_
        refine lv_istore_n hx hb d_R_findEmpty_24 rfl hl (by decide) rfl (fun ls hl => ?_)
        have hl : lv_has ls 4 [(1, .int 1), (0, .ref (q 0))] := hl
        exact L25 _ _ _ h _ _ _ hP hS (lv_sub hl [1, 0] rfl)
      · have h := if_f hc h
        refine lv_aload_n hx hb d_R_findEmpty_10 rfl (lv_at hl 0 rfl) ?_
        refine gf_R_31 hx hb hts hown hK hP d_R_findEmpty_11 ?_
        refine lv_iload_n hx hb d_R_findEmpty_14 rfl (lv_at hl 1 rfl) ?_
        refine lv_iconst (v := 0) hx hb d_R_findEmpty_15 (by decide) ?_
        obtain ⟨hgd, h⟩ := gd_some h
        refine as_R_8 hx hb hK hP hD hS hgd d_R_findEmpty_16 (fun H locs hP hS => ?_)
        obtain ⟨σ1, eσ1, h⟩ := st_some h
        rw [← eσ1] at hP
        have hD : va_D (AR q) (wR q cA σ1) := dd_re (wR_f _ _ _ _) hD
        refine lv_iinc (v := x1 + 1) hx hb d_R_findEmpty_17 hl (k := 1) rfl rfl (by decide) rfl (fun ls hl => ?_)
        have hl : lv_has ls 4 [(1, .int (x1 + 1)), (0, .ref (q 0))] := hl
        refine lv_goto (tgt := 2) hx hb d_R_findEmpty_20 rfl ?_
        exact ih2 _ _ h _ _ _ hP hS (lv_sub hl [1, 0] rfl)
  rw [f_R_findEmpty] at h
  refine lv_iconst (v := 0) hx hb d_R_findEmpty_0 (by decide) ?_
  refine lv_istore_n hx hb d_R_findEmpty_1 rfl hl (by decide) rfl (fun ls hl => ?_)
  have hl : lv_has ls 4 [(1, .int 0), (0, .ref (q 0))] := hl
  exact L2 _ _ _ h _ _ _ hP hS (lv_sub hl [1, 0] rfl)
