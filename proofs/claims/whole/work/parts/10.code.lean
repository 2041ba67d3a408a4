/-! Code -/
def y_C_operation : MethodName := ⟨"StagedParsers$Code", "operation", "(I)I"⟩
def w_C_operation : List Cond := .code y_C_operation prog_2_method_2_code 2 (some .int) :: AW_
def rm_C_operation : Room := { frames := 0, cells := 0, slots := 0, locals := 0 }
theorem d_C_operation_0 : decode prog_2_method_2_code 0 = .ok (.iload_n 1, 1) := by decide +kernel
theorem d_C_operation_1 : decode prog_2_method_2_code 1 = .ok (.ifCond .lt 20, 3) := by decide +kernel
theorem d_C_operation_4 : decode prog_2_method_2_code 4 = .ok (.iload_n 1, 1) := by decide +kernel
theorem d_C_operation_5 : decode prog_2_method_2_code 5 = .ok (.aload_n 0, 1) := by decide +kernel
theorem d_C_operation_6 : decode prog_2_method_2_code 6 = .ok (.getfield 27, 3) := by decide +kernel
theorem d_C_operation_9 : decode prog_2_method_2_code 9 = .ok (.if_icmp .ge 12, 3) := by decide +kernel
theorem d_C_operation_12 : decode prog_2_method_2_code 12 = .ok (.aload_n 0, 1) := by decide +kernel
theorem d_C_operation_13 : decode prog_2_method_2_code 13 = .ok (.getfield 9, 3) := by decide +kernel
theorem d_C_operation_16 : decode prog_2_method_2_code 16 = .ok (.iload_n 1, 1) := by decide +kernel
theorem d_C_operation_17 : decode prog_2_method_2_code 17 = .ok (.iaload, 1) := by decide +kernel
theorem d_C_operation_18 : decode prog_2_method_2_code 18 = .ok (.goto 4, 3) := by decide +kernel
theorem d_C_operation_21 : decode prog_2_method_2_code 21 = .ok (.iconst 0, 1) := by decide +kernel
theorem d_C_operation_22 : decode prog_2_method_2_code 22 = .ok (.ireturn, 1) := by decide +kernel
section RW
variable {p : Program} {l : Launch} {e : Env} {R : Room} {s : State} {m : MethodId} {args : Array Value} {below : List Frame} {meth : Method} {c : Code} {H : Heap} {locs : List Loc} {cells slots : Nat} {Q : State → Prop}
variable {cc : ByteArray} {pc : Nat} {ls : Array Slot} {rest : List Value} {dC : Nat → ClassId} {dI : Nat → Nat → Nat} {q : Nat → Nat} {cA : Nat → ClassId} {σ : MZ_} {H0 : Heap} {A : Nat → Prop}

theorem gf_C_27 (hx : p.tables.exec = Jvm.exec) (hb : c.code = cc) (hts : ∀ w ∈ AW_, w.before args s = true) (hown : s.vm.findClass "StagedParsers$Code" = some m.cls) (hK : va_K (dC, dI) cls_ (tyX cA) s) (hP : va_P (dC, dI) cls_ (wX q cA σ) H) (hdg : decode cc pc = .ok (.getfield 27, 3)) (kk : W p l e R s m args below meth c H locs cells slots Q (F0 m (pc + 3) ls (.int (σ 32 0) :: rest))) : W p l e R s m args below meth c H locs cells slots Q (F0 m pc ls (.ref (q 14) :: rest)) :=
  va_get (D := (dC, dI)) (cl := cls_) (ci := 3) (v := .int (σ 32 0)) (ws := wX q cA σ) (tys := tyX cA) (C := Rz_C) (T := Tz_C) (N := 6) hx hb hts uz_C hown hK hP 14 rfl rfl 5 (by decide) (hts _ kw_95) (fun _ h9 => h9) rfl hdg kk
theorem gf_C_9 (hx : p.tables.exec = Jvm.exec) (hb : c.code = cc) (hts : ∀ w ∈ AW_, w.before args s = true) (hown : s.vm.findClass "StagedParsers$Code" = some m.cls) (hK : va_K (dC, dI) cls_ (tyX cA) s) (hP : va_P (dC, dI) cls_ (wX q cA σ) H) (hdg : decode cc pc = .ok (.getfield 9, 3)) (kk : W p l e R s m args below meth c H locs cells slots Q (F0 m (pc + 3) ls (.ref (q 15) :: rest))) : W p l e R s m args below meth c H locs cells slots Q (F0 m pc ls (.ref (q 14) :: rest)) :=
  va_get (D := (dC, dI)) (cl := cls_) (ci := 3) (v := .ref (q 15)) (ws := wX q cA σ) (tys := tyX cA) (C := Rz_C) (T := Tz_C) (N := 6) hx hb hts uz_C hown hK hP 14 rfl rfl 0 (by decide) (hts _ kw_90) (fun _ h9 => h9) rfl hdg kk
end RW
def f_C_operation (σ : MZ_) (a1 : Int32) : Option (Int32) :=
  if a1 < 0 then some 0
  else if (σ 32 0) ≤ a1 then some 0
  else gd_ a1 561 (some (σ 15 a1.toNatClampNeg))
set_option maxHeartbeats 4000000 in
set_option maxRecDepth 100000 in
theorem c_C_operation (l : Launch) (dC : Nat → ClassId) (dI : Nat → Nat → Nat) (q : Nat → Nat) (cA : Nat → ClassId) (pt : Nat) (σ : MZ_) (a1 : Int32) (u : Int32) (h : f_C_operation σ a1 = some u) : Met l y_C_operation w_C_operation rm_C_operation (va_Pc [.ref (q 14), .int a1] (PX_ dC dI q cA pt σ)) (QcRead u) 0 0 (fun _ => False) := by
  refine Met.ofW (cc := prog_2_method_2_code) (maxL := 2) (ret := (some .int)) (by decide) rfl ?_
  intro p e s m args below meth c s₁ B hml hv
  obtain ⟨rfl, hP, hK, hD, hN, hZ⟩ := hv
  have hx := B.exec
  have hb := B.bytes
  have hr := B.returns
  have hts : ∀ w ∈ AW_, w.before _ s = true := fun w h => atoms_spec (ws := w_C_operation) B.pre w (List.mem_cons_of_mem _ h)
  have hown : s.vm.findClass "StagedParsers$Code" = some m.cls := findClass_of_methodNamed B.named
  have hlocks := B.notSynchronized
  have hS : va_S (AX q) s.heap s.heap [] := va_S.rf
  have hl := lv_entry ([.ref (q 14), .int a1]) (n := 2) (Nat.le_of_ble_eq_true rfl)
  rw [lg_entry_eq]
  generalize (lg_sl ([.ref (q 14), .int a1]) ++ List.replicate (2 - (lg_sl ([.ref (q 14), .int a1])).length) Slot.unset).toArray = ls at hl ⊢
  have hl : lv_has ls 2 [(0, .ref (q 14)), (1, .int a1)] := hl
  rw [f_C_operation] at h
  refine lv_iload_n hx hb d_C_operation_0 rfl (lv_at hl 1 rfl) ?_
  refine lv_if_lt (tgt := 21) hx hb d_C_operation_1 rfl (fun hc => ?_) (fun hc => ?_)
  · have h := if_t hc h
    refine lv_iconst (v := 0) hx hb d_C_operation_21 (by decide) ?_
    obtain rfl := Option.some.inj h
    exact W.iret hx hb hr (fun t ht hW => ⟨rfl, ht⟩) (fun _ h9 => nomatch h9) d_C_operation_22
  · have h := if_f hc h
    refine lv_iload_n hx hb d_C_operation_4 rfl (lv_at hl 1 rfl) ?_
    refine lv_aload_n hx hb d_C_operation_5 rfl (lv_at hl 0 rfl) ?_
    refine gf_C_27 hx hb hts hown hK hP d_C_operation_6 ?_
    refine lv_icmp_ge (tgt := 21) hx hb d_C_operation_9 rfl (fun hc => ?_) (fun hc => ?_)
    · have h := if_t hc h
      refine lv_iconst (v := 0) hx hb d_C_operation_21 (by decide) ?_
      obtain rfl := Option.some.inj h
      exact W.iret hx hb hr (fun t ht hW => ⟨rfl, ht⟩) (fun _ h9 => nomatch h9) d_C_operation_22
    · have h := if_f hc h
      refine lv_aload_n hx hb d_C_operation_12 rfl (lv_at hl 0 rfl) ?_
      refine gf_C_9 hx hb hts hown hK hP d_C_operation_13 ?_
      refine lv_iload_n hx hb d_C_operation_16 rfl (lv_at hl 1 rfl) ?_
      obtain ⟨hgd, h⟩ := gd_some h
      refine al_X_15 hx hb hK hP hgd d_C_operation_17 ?_
      refine lv_goto (tgt := 22) hx hb d_C_operation_18 rfl ?_
      obtain rfl := Option.some.inj h
      exact W.iret hx hb hr (fun t ht hW => ⟨rfl, ht⟩) (fun _ h9 => nomatch h9) d_C_operation_22
def y_C_p : MethodName := ⟨"StagedParsers$Code", "p", "(I)I"⟩
def w_C_p : List Cond := .code y_C_p prog_2_method_3_code 2 (some .int) :: AW_
def rm_C_p : Room := { frames := 0, cells := 0, slots := 0, locals := 0 }
theorem d_C_p_0 : decode prog_2_method_3_code 0 = .ok (.iload_n 1, 1) := by decide +kernel
theorem d_C_p_1 : decode prog_2_method_3_code 1 = .ok (.ifCond .lt 20, 3) := by decide +kernel
theorem d_C_p_4 : decode prog_2_method_3_code 4 = .ok (.iload_n 1, 1) := by decide +kernel
theorem d_C_p_5 : decode prog_2_method_3_code 5 = .ok (.aload_n 0, 1) := by decide +kernel
theorem d_C_p_6 : decode prog_2_method_3_code 6 = .ok (.getfield 27, 3) := by decide +kernel
theorem d_C_p_9 : decode prog_2_method_3_code 9 = .ok (.if_icmp .ge 12, 3) := by decide +kernel
theorem d_C_p_12 : decode prog_2_method_3_code 12 = .ok (.aload_n 0, 1) := by decide +kernel
theorem d_C_p_13 : decode prog_2_method_3_code 13 = .ok (.getfield 15, 3) := by decide +kernel
theorem d_C_p_16 : decode prog_2_method_3_code 16 = .ok (.iload_n 1, 1) := by decide +kernel
theorem d_C_p_17 : decode prog_2_method_3_code 17 = .ok (.iaload, 1) := by decide +kernel
theorem d_C_p_18 : decode prog_2_method_3_code 18 = .ok (.goto 4, 3) := by decide +kernel
theorem d_C_p_21 : decode prog_2_method_3_code 21 = .ok (.iconst 0, 1) := by decide +kernel
theorem d_C_p_22 : decode prog_2_method_3_code 22 = .ok (.ireturn, 1) := by decide +kernel
section RW
variable {p : Program} {l : Launch} {e : Env} {R : Room} {s : State} {m : MethodId} {args : Array Value} {below : List Frame} {meth : Method} {c : Code} {H : Heap} {locs : List Loc} {cells slots : Nat} {Q : State → Prop}
variable {cc : ByteArray} {pc : Nat} {ls : Array Slot} {rest : List Value} {dC : Nat → ClassId} {dI : Nat → Nat → Nat} {q : Nat → Nat} {cA : Nat → ClassId} {σ : MZ_} {H0 : Heap} {A : Nat → Prop}

theorem gf_C_15 (hx : p.tables.exec = Jvm.exec) (hb : c.code = cc) (hts : ∀ w ∈ AW_, w.before args s = true) (hown : s.vm.findClass "StagedParsers$Code" = some m.cls) (hK : va_K (dC, dI) cls_ (tyX cA) s) (hP : va_P (dC, dI) cls_ (wX q cA σ) H) (hdg : decode cc pc = .ok (.getfield 15, 3)) (kk : W p l e R s m args below meth c H locs cells slots Q (F0 m (pc + 3) ls (.ref (q 16) :: rest))) : W p l e R s m args below meth c H locs cells slots Q (F0 m pc ls (.ref (q 14) :: rest)) :=
  va_get (D := (dC, dI)) (cl := cls_) (ci := 3) (v := .ref (q 16)) (ws := wX q cA σ) (tys := tyX cA) (C := Rz_C) (T := Tz_C) (N := 6) hx hb hts uz_C hown hK hP 14 rfl rfl 1 (by decide) (hts _ kw_91) (fun _ h9 => h9) rfl hdg kk
end RW
def f_C_p (σ : MZ_) (a1 : Int32) : Option (Int32) :=
  if a1 < 0 then some 0
  else if (σ 32 0) ≤ a1 then some 0
  else gd_ a1 561 (some (σ 16 a1.toNatClampNeg))
set_option maxHeartbeats 4000000 in
set_option maxRecDepth 100000 in
theorem c_C_p (l : Launch) (dC : Nat → ClassId) (dI : Nat → Nat → Nat) (q : Nat → Nat) (cA : Nat → ClassId) (pt : Nat) (σ : MZ_) (a1 : Int32) (u : Int32) (h : f_C_p σ a1 = some u) : Met l y_C_p w_C_p rm_C_p (va_Pc [.ref (q 14), .int a1] (PX_ dC dI q cA pt σ)) (QcRead u) 0 0 (fun _ => False) := by
  refine Met.ofW (cc := prog_2_method_3_code) (maxL := 2) (ret := (some .int)) (by decide) rfl ?_
  intro p e s m args below meth c s₁ B hml hv
  obtain ⟨rfl, hP, hK, hD, hN, hZ⟩ := hv
  have hx := B.exec
  have hb := B.bytes
  have hr := B.returns
  have hts : ∀ w ∈ AW_, w.before _ s = true := fun w h => atoms_spec (ws := w_C_p) B.pre w (List.mem_cons_of_mem _ h)
  have hown : s.vm.findClass "StagedParsers$Code" = some m.cls := findClass_of_methodNamed B.named
  have hlocks := B.notSynchronized
  have hS : va_S (AX q) s.heap s.heap [] := va_S.rf
  have hl := lv_entry ([.ref (q 14), .int a1]) (n := 2) (Nat.le_of_ble_eq_true rfl)
  rw [lg_entry_eq]
  generalize (lg_sl ([.ref (q 14), .int a1]) ++ List.replicate (2 - (lg_sl ([.ref (q 14), .int a1])).length) Slot.unset).toArray = ls at hl ⊢
  have hl : lv_has ls 2 [(0, .ref (q 14)), (1, .int a1)] := hl
  rw [f_C_p] at h
  refine lv_iload_n hx hb d_C_p_0 rfl (lv_at hl 1 rfl) ?_
  refine lv_if_lt (tgt := 21) hx hb d_C_p_1 rfl (fun hc => ?_) (fun hc => ?_)
  · have h := if_t hc h
    refine lv_iconst (v := 0) hx hb d_C_p_21 (by decide) ?_
    obtain rfl := Option.some.inj h
    exact W.iret hx hb hr (fun t ht hW => ⟨rfl, ht⟩) (fun _ h9 => nomatch h9) d_C_p_22
  · have h := if_f hc h
    refine lv_iload_n hx hb d_C_p_4 rfl (lv_at hl 1 rfl) ?_
    refine lv_aload_n hx hb d_C_p_5 rfl (lv_at hl 0 rfl) ?_
    refine gf_C_27 hx hb hts hown hK hP d_C_p_6 ?_
    refine lv_icmp_ge (tgt := 21) hx hb d_C_p_9 rfl (fun hc => ?_) (fun hc => ?_)
    · have h := if_t hc h
      refine lv_iconst (v := 0) hx hb d_C_p_21 (by decide) ?_
      obtain rfl := Option.some.inj h
      exact W.iret hx hb hr (fun t ht hW => ⟨rfl, ht⟩) (fun _ h9 => nomatch h9) d_C_p_22
    · have h := if_f hc h
      refine lv_aload_n hx hb d_C_p_12 rfl (lv_at hl 0 rfl) ?_
      refine gf_C_15 hx hb hts hown hK hP d_C_p_13 ?_
      refine lv_iload_n hx hb d_C_p_16 rfl (lv_at hl 1 rfl) ?_
      obtain ⟨hgd, h⟩ := gd_some h
      refine al_X_16 hx hb hK hP hgd d_C_p_17 ?_
      refine lv_goto (tgt := 22) hx hb d_C_p_18 rfl ?_
      obtain rfl := Option.some.inj h
      exact W.iret hx hb hr (fun t ht hW => ⟨rfl, ht⟩) (fun _ h9 => nomatch h9) d_C_p_22
def y_C_q : MethodName := ⟨"StagedParsers$Code", "q", "(I)I"⟩
def w_C_q : List Cond := .code y_C_q prog_2_method_4_code 2 (some .int) :: AW_
def rm_C_q : Room := { frames := 0, cells := 0, slots := 0, locals := 0 }
theorem d_C_q_0 : decode prog_2_method_4_code 0 = .ok (.iload_n 1, 1) := by decide +kernel
theorem d_C_q_1 : decode prog_2_method_4_code 1 = .ok (.ifCond .lt 20, 3) := by decide +kernel
theorem d_C_q_4 : decode prog_2_method_4_code 4 = .ok (.iload_n 1, 1) := by decide +kernel
theorem d_C_q_5 : decode prog_2_method_4_code 5 = .ok (.aload_n 0, 1) := by decide +kernel
theorem d_C_q_6 : decode prog_2_method_4_code 6 = .ok (.getfield 27, 3) := by decide +kernel
theorem d_C_q_9 : decode prog_2_method_4_code 9 = .ok (.if_icmp .ge 12, 3) := by decide +kernel
theorem d_C_q_12 : decode prog_2_method_4_code 12 = .ok (.aload_n 0, 1) := by decide +kernel
theorem d_C_q_13 : decode prog_2_method_4_code 13 = .ok (.getfield 18, 3) := by decide +kernel
theorem d_C_q_16 : decode prog_2_method_4_code 16 = .ok (.iload_n 1, 1) := by decide +kernel
theorem d_C_q_17 : decode prog_2_method_4_code 17 = .ok (.iaload, 1) := by decide +kernel
theorem d_C_q_18 : decode prog_2_method_4_code 18 = .ok (.goto 4, 3) := by decide +kernel
theorem d_C_q_21 : decode prog_2_method_4_code 21 = .ok (.iconst 0, 1) := by decide +kernel
theorem d_C_q_22 : decode prog_2_method_4_code 22 = .ok (.ireturn, 1) := by decide +kernel
section RW
variable {p : Program} {l : Launch} {e : Env} {R : Room} {s : State} {m : MethodId} {args : Array Value} {below : List Frame} {meth : Method} {c : Code} {H : Heap} {locs : List Loc} {cells slots : Nat} {Q : State → Prop}
variable {cc : ByteArray} {pc : Nat} {ls : Array Slot} {rest : List Value} {dC : Nat → ClassId} {dI : Nat → Nat → Nat} {q : Nat → Nat} {cA : Nat → ClassId} {σ : MZ_} {H0 : Heap} {A : Nat → Prop}

theorem gf_C_18 (hx : p.tables.exec = Jvm.exec) (hb : c.code = cc) (hts : ∀ w ∈ AW_, w.before args s = true) (hown : s.vm.findClass "StagedParsers$Code" = some m.cls) (hK : va_K (dC, dI) cls_ (tyX cA) s) (hP : va_P (dC, dI) cls_ (wX q cA σ) H) (hdg : decode cc pc = .ok (.getfield 18, 3)) (kk : W p l e R s m args below meth c H locs cells slots Q (F0 m (pc + 3) ls (.ref (q 17) :: rest))) : W p l e R s m args below meth c H locs cells slots Q (F0 m pc ls (.ref (q 14) :: rest)) :=
  va_get (D := (dC, dI)) (cl := cls_) (ci := 3) (v := .ref (q 17)) (ws := wX q cA σ) (tys := tyX cA) (C := Rz_C) (T := Tz_C) (N := 6) hx hb hts uz_C hown hK hP 14 rfl rfl 2 (by decide) (hts _ kw_92) (fun _ h9 => h9) rfl hdg kk
end RW
def f_C_q (σ : MZ_) (a1 : Int32) : Option (Int32) :=
  if a1 < 0 then some 0
  else if (σ 32 0) ≤ a1 then some 0
  else gd_ a1 561 (some (σ 17 a1.toNatClampNeg))
set_option maxHeartbeats 4000000 in
set_option maxRecDepth 100000 in
theorem c_C_q (l : Launch) (dC : Nat → ClassId) (dI : Nat → Nat → Nat) (q : Nat → Nat) (cA : Nat → ClassId) (pt : Nat) (σ : MZ_) (a1 : Int32) (u : Int32) (h : f_C_q σ a1 = some u) : Met l y_C_q w_C_q rm_C_q (va_Pc [.ref (q 14), .int a1] (PX_ dC dI q cA pt σ)) (QcRead u) 0 0 (fun _ => False) := by
  refine Met.ofW (cc := prog_2_method_4_code) (maxL := 2) (ret := (some .int)) (by decide) rfl ?_
  intro p e s m args below meth c s₁ B hml hv
  obtain ⟨rfl, hP, hK, hD, hN, hZ⟩ := hv
  have hx := B.exec
  have hb := B.bytes
  have hr := B.returns
  have hts : ∀ w ∈ AW_, w.before _ s = true := fun w h => atoms_spec (ws := w_C_q) B.pre w (List.mem_cons_of_mem _ h)
  have hown : s.vm.findClass "StagedParsers$Code" = some m.cls := findClass_of_methodNamed B.named
  have hlocks := B.notSynchronized
  have hS : va_S (AX q) s.heap s.heap [] := va_S.rf
  have hl := lv_entry ([.ref (q 14), .int a1]) (n := 2) (Nat.le_of_ble_eq_true rfl)
  rw [lg_entry_eq]
  generalize (lg_sl ([.ref (q 14), .int a1]) ++ List.replicate (2 - (lg_sl ([.ref (q 14), .int a1])).length) Slot.unset).toArray = ls at hl ⊢
  have hl : lv_has ls 2 [(0, .ref (q 14)), (1, .int a1)] := hl
  rw [f_C_q] at h
  refine lv_iload_n hx hb d_C_q_0 rfl (lv_at hl 1 rfl) ?_
  refine lv_if_lt (tgt := 21) hx hb d_C_q_1 rfl (fun hc => ?_) (fun hc => ?_)
  · have h := if_t hc h
    refine lv_iconst (v := 0) hx hb d_C_q_21 (by decide) ?_
    obtain rfl := Option.some.inj h
    exact W.iret hx hb hr (fun t ht hW => ⟨rfl, ht⟩) (fun _ h9 => nomatch h9) d_C_q_22
  · have h := if_f hc h
    refine lv_iload_n hx hb d_C_q_4 rfl (lv_at hl 1 rfl) ?_
    refine lv_aload_n hx hb d_C_q_5 rfl (lv_at hl 0 rfl) ?_
    refine gf_C_27 hx hb hts hown hK hP d_C_q_6 ?_
    refine lv_icmp_ge (tgt := 21) hx hb d_C_q_9 rfl (fun hc => ?_) (fun hc => ?_)
    · have h := if_t hc h
      refine lv_iconst (v := 0) hx hb d_C_q_21 (by decide) ?_
      obtain rfl := Option.some.inj h
      exact W.iret hx hb hr (fun t ht hW => ⟨rfl, ht⟩) (fun _ h9 => nomatch h9) d_C_q_22
    · have h := if_f hc h
      refine lv_aload_n hx hb d_C_q_12 rfl (lv_at hl 0 rfl) ?_
      refine gf_C_18 hx hb hts hown hK hP d_C_q_13 ?_
      refine lv_iload_n hx hb d_C_q_16 rfl (lv_at hl 1 rfl) ?_
      obtain ⟨hgd, h⟩ := gd_some h
      refine al_X_17 hx hb hK hP hgd d_C_q_17 ?_
      refine lv_goto (tgt := 22) hx hb d_C_q_18 rfl ?_
      obtain rfl := Option.some.inj h
      exact W.iret hx hb hr (fun t ht hW => ⟨rfl, ht⟩) (fun _ h9 => nomatch h9) d_C_q_22
def y_C_entry : MethodName := ⟨"StagedParsers$Code", "entry", "(I)I"⟩
def w_C_entry : List Cond := .code y_C_entry prog_2_method_5_code 2 (some .int) :: AW_
def rm_C_entry : Room := { frames := 0, cells := 0, slots := 0, locals := 0 }
theorem d_C_entry_0 : decode prog_2_method_5_code 0 = .ok (.iload_n 1, 1) := by decide +kernel
theorem d_C_entry_1 : decode prog_2_method_5_code 1 = .ok (.ifCond .lt 18, 3) := by decide +kernel
theorem d_C_entry_4 : decode prog_2_method_5_code 4 = .ok (.iload_n 1, 1) := by decide +kernel
theorem d_C_entry_5 : decode prog_2_method_5_code 5 = .ok (.bipush 6, 2) := by decide +kernel
theorem d_C_entry_7 : decode prog_2_method_5_code 7 = .ok (.if_icmp .ge 12, 3) := by decide +kernel
theorem d_C_entry_10 : decode prog_2_method_5_code 10 = .ok (.aload_n 0, 1) := by decide +kernel
theorem d_C_entry_11 : decode prog_2_method_5_code 11 = .ok (.getfield 24, 3) := by decide +kernel
theorem d_C_entry_14 : decode prog_2_method_5_code 14 = .ok (.iload_n 1, 1) := by decide +kernel
theorem d_C_entry_15 : decode prog_2_method_5_code 15 = .ok (.iaload, 1) := by decide +kernel
theorem d_C_entry_16 : decode prog_2_method_5_code 16 = .ok (.goto 4, 3) := by decide +kernel
theorem d_C_entry_19 : decode prog_2_method_5_code 19 = .ok (.iconst 0, 1) := by decide +kernel
theorem d_C_entry_20 : decode prog_2_method_5_code 20 = .ok (.ireturn, 1) := by decide +kernel
section RW
variable {p : Program} {l : Launch} {e : Env} {R : Room} {s : State} {m : MethodId} {args : Array Value} {below : List Frame} {meth : Method} {c : Code} {H : Heap} {locs : List Loc} {cells slots : Nat} {Q : State → Prop}
variable {cc : ByteArray} {pc : Nat} {ls : Array Slot} {rest : List Value} {dC : Nat → ClassId} {dI : Nat → Nat → Nat} {q : Nat → Nat} {cA : Nat → ClassId} {σ : MZ_} {H0 : Heap} {A : Nat → Prop}

theorem gf_C_24 (hx : p.tables.exec = Jvm.exec) (hb : c.code = cc) (hts : ∀ w ∈ AW_, w.before args s = true) (hown : s.vm.findClass "StagedParsers$Code" = some m.cls) (hK : va_K (dC, dI) cls_ (tyX cA) s) (hP : va_P (dC, dI) cls_ (wX q cA σ) H) (hdg : decode cc pc = .ok (.getfield 24, 3)) (kk : W p l e R s m args below meth c H locs cells slots Q (F0 m (pc + 3) ls (.ref (q 19) :: rest))) : W p l e R s m args below meth c H locs cells slots Q (F0 m pc ls (.ref (q 14) :: rest)) :=
  va_get (D := (dC, dI)) (cl := cls_) (ci := 3) (v := .ref (q 19)) (ws := wX q cA σ) (tys := tyX cA) (C := Rz_C) (T := Tz_C) (N := 6) hx hb hts uz_C hown hK hP 14 rfl rfl 4 (by decide) (hts _ kw_94) (fun _ h9 => h9) rfl hdg kk
end RW
def f_C_entry (σ : MZ_) (a1 : Int32) : Option (Int32) :=
  if a1 < 0 then some 0
  else if 6 ≤ a1 then some 0
  else gd_ a1 6 (some (σ 19 a1.toNatClampNeg))
set_option maxHeartbeats 4000000 in
set_option maxRecDepth 100000 in
theorem c_C_entry (l : Launch) (dC : Nat → ClassId) (dI : Nat → Nat → Nat) (q : Nat → Nat) (cA : Nat → ClassId) (pt : Nat) (σ : MZ_) (a1 : Int32) (u : Int32) (h : f_C_entry σ a1 = some u) : Met l y_C_entry w_C_entry rm_C_entry (va_Pc [.ref (q 14), .int a1] (PX_ dC dI q cA pt σ)) (QcRead u) 0 0 (fun _ => False) := by
  refine Met.ofW (cc := prog_2_method_5_code) (maxL := 2) (ret := (some .int)) (by decide) rfl ?_
  intro p e s m args below meth c s₁ B hml hv
  obtain ⟨rfl, hP, hK, hD, hN, hZ⟩ := hv
  have hx := B.exec
  have hb := B.bytes
  have hr := B.returns
  have hts : ∀ w ∈ AW_, w.before _ s = true := fun w h => atoms_spec (ws := w_C_entry) B.pre w (List.mem_cons_of_mem _ h)
  have hown : s.vm.findClass "StagedParsers$Code" = some m.cls := findClass_of_methodNamed B.named
  have hlocks := B.notSynchronized
  have hS : va_S (AX q) s.heap s.heap [] := va_S.rf
  have hl := lv_entry ([.ref (q 14), .int a1]) (n := 2) (Nat.le_of_ble_eq_true rfl)
  rw [lg_entry_eq]
  generalize (lg_sl ([.ref (q 14), .int a1]) ++ List.replicate (2 - (lg_sl ([.ref (q 14), .int a1])).length) Slot.unset).toArray = ls at hl ⊢
  have hl : lv_has ls 2 [(0, .ref (q 14)), (1, .int a1)] := hl
  rw [f_C_entry] at h
  refine lv_iload_n hx hb d_C_entry_0 rfl (lv_at hl 1 rfl) ?_
  refine lv_if_lt (tgt := 19) hx hb d_C_entry_1 rfl (fun hc => ?_) (fun hc => ?_)
  · have h := if_t hc h
    refine lv_iconst (v := 0) hx hb d_C_entry_19 (by decide) ?_
    obtain rfl := Option.some.inj h
    exact W.iret hx hb hr (fun t ht hW => ⟨rfl, ht⟩) (fun _ h9 => nomatch h9) d_C_entry_20
  · have h := if_f hc h
    refine lv_iload_n hx hb d_C_entry_4 rfl (lv_at hl 1 rfl) ?_
    refine lv_bipush (v := 6) hx hb d_C_entry_5 (by decide) ?_
    refine lv_icmp_ge (tgt := 19) hx hb d_C_entry_7 rfl (fun hc => ?_) (fun hc => ?_)
    · have h := if_t hc h
      refine lv_iconst (v := 0) hx hb d_C_entry_19 (by decide) ?_
      obtain rfl := Option.some.inj h
      exact W.iret hx hb hr (fun t ht hW => ⟨rfl, ht⟩) (fun _ h9 => nomatch h9) d_C_entry_20
    · have h := if_f hc h
      refine lv_aload_n hx hb d_C_entry_10 rfl (lv_at hl 0 rfl) ?_
      refine gf_C_24 hx hb hts hown hK hP d_C_entry_11 ?_
      refine lv_iload_n hx hb d_C_entry_14 rfl (lv_at hl 1 rfl) ?_
      obtain ⟨hgd, h⟩ := gd_some h
      refine al_X_19 hx hb hK hP hgd d_C_entry_15 ?_
      refine lv_goto (tgt := 20) hx hb d_C_entry_16 rfl ?_
      obtain rfl := Option.some.inj h
      exact W.iret hx hb hr (fun t ht hW => ⟨rfl, ht⟩) (fun _ h9 => nomatch h9) d_C_entry_20
def y_C_put : MethodName := ⟨"StagedParsers$Code", "put", "(III)V"⟩
def w_C_put : List Cond := .code y_C_put prog_2_method_7_code 4 none :: AW_
def rm_C_put : Room := { frames := 0, cells := 0, slots := 0, locals := 0 }
theorem d_C_put_0 : decode prog_2_method_7_code 0 = .ok (.aload_n 0, 1) := by decide +kernel
theorem d_C_put_1 : decode prog_2_method_7_code 1 = .ok (.getfield 27, 3) := by decide +kernel
theorem d_C_put_4 : decode prog_2_method_7_code 4 = .ok (.sipush 561, 3) := by decide +kernel
theorem d_C_put_7 : decode prog_2_method_7_code 7 = .ok (.if_icmp .ge 43, 3) := by decide +kernel
theorem d_C_put_10 : decode prog_2_method_7_code 10 = .ok (.aload_n 0, 1) := by decide +kernel
theorem d_C_put_11 : decode prog_2_method_7_code 11 = .ok (.getfield 9, 3) := by decide +kernel
theorem d_C_put_14 : decode prog_2_method_7_code 14 = .ok (.aload_n 0, 1) := by decide +kernel
theorem d_C_put_15 : decode prog_2_method_7_code 15 = .ok (.getfield 27, 3) := by decide +kernel
theorem d_C_put_18 : decode prog_2_method_7_code 18 = .ok (.iload_n 1, 1) := by decide +kernel
theorem d_C_put_19 : decode prog_2_method_7_code 19 = .ok (.iastore, 1) := by decide +kernel
theorem d_C_put_20 : decode prog_2_method_7_code 20 = .ok (.aload_n 0, 1) := by decide +kernel
theorem d_C_put_21 : decode prog_2_method_7_code 21 = .ok (.getfield 15, 3) := by decide +kernel
theorem d_C_put_24 : decode prog_2_method_7_code 24 = .ok (.aload_n 0, 1) := by decide +kernel
theorem d_C_put_25 : decode prog_2_method_7_code 25 = .ok (.getfield 27, 3) := by decide +kernel
theorem d_C_put_28 : decode prog_2_method_7_code 28 = .ok (.iload_n 2, 1) := by decide +kernel
theorem d_C_put_29 : decode prog_2_method_7_code 29 = .ok (.iastore, 1) := by decide +kernel
theorem d_C_put_30 : decode prog_2_method_7_code 30 = .ok (.aload_n 0, 1) := by decide +kernel
theorem d_C_put_31 : decode prog_2_method_7_code 31 = .ok (.getfield 18, 3) := by decide +kernel
theorem d_C_put_34 : decode prog_2_method_7_code 34 = .ok (.aload_n 0, 1) := by decide +kernel
theorem d_C_put_35 : decode prog_2_method_7_code 35 = .ok (.getfield 27, 3) := by decide +kernel
theorem d_C_put_38 : decode prog_2_method_7_code 38 = .ok (.iload_n 3, 1) := by decide +kernel
theorem d_C_put_39 : decode prog_2_method_7_code 39 = .ok (.iastore, 1) := by decide +kernel
theorem d_C_put_40 : decode prog_2_method_7_code 40 = .ok (.aload_n 0, 1) := by decide +kernel
theorem d_C_put_41 : decode prog_2_method_7_code 41 = .ok (.dup, 1) := by decide +kernel
theorem d_C_put_42 : decode prog_2_method_7_code 42 = .ok (.getfield 27, 3) := by decide +kernel
theorem d_C_put_45 : decode prog_2_method_7_code 45 = .ok (.iconst 1, 1) := by decide +kernel
theorem d_C_put_46 : decode prog_2_method_7_code 46 = .ok (.iadd, 1) := by decide +kernel
theorem d_C_put_47 : decode prog_2_method_7_code 47 = .ok (.putfield 27, 3) := by decide +kernel
theorem d_C_put_50 : decode prog_2_method_7_code 50 = .ok (.return_, 1) := by decide +kernel
section RW
variable {p : Program} {l : Launch} {e : Env} {R : Room} {s : State} {m : MethodId} {args : Array Value} {below : List Frame} {meth : Method} {c : Code} {H : Heap} {locs : List Loc} {cells slots : Nat} {Q : State → Prop}
variable {cc : ByteArray} {pc : Nat} {ls : Array Slot} {rest : List Value} {dC : Nat → ClassId} {dI : Nat → Nat → Nat} {q : Nat → Nat} {cA : Nat → ClassId} {σ : MZ_} {H0 : Heap} {A : Nat → Prop}

theorem pf_C_27 (hx : p.tables.exec = Jvm.exec) (hb : c.code = cc) (hts : ∀ w ∈ AW_, w.before args s = true) (hown : s.vm.findClass "StagedParsers$Code" = some m.cls) (hK : va_K (dC, dI) cls_ (tyX cA) s) (hP : va_P (dC, dI) cls_ (wX q cA σ) H) (hD : va_D A (wX q cA σ)) (hS : va_S A H0 H locs) {v : Int32} (hdg : decode cc pc = .ok (.putfield 27, 3)) (kk : ∀ (H1 : Heap) (locs1 : List Loc), va_P (dC, dI) cls_ (wX q cA (va_up σ 32 (fun _ => v))) H1 → va_S A H0 H1 locs1 → W p l e R s m args below meth c H1 locs1 cells slots Q (F0 m (pc + 3) ls rest)) : W p l e R s m args below meth c H locs cells slots Q (F0 m pc ls (.int v :: .ref (q 14) :: rest)) :=
  va_put (D := (dC, dI)) (cl := cls_) (ci := 3) (v := .int v) (ty := .int) (ws := wX q cA σ) (tys := tyX cA) (C := Rz_C) (T := Tz_C) (N := 6) hx hb hts uz_C tz_C tz_C_ok nz_C hown hK hP hD hS 14 rfl rfl 5 (by decide) (hts _ kw_95) (fun _ h9 => h9) rfl (by decide +kernel) rfl rfl (Nat.le_of_ble_eq_true rfl) hdg (fun H1 locs1 hP _ hS => kk H1 locs1 hP hS)
end RW
def f_C_put (σ : MZ_) (a1 : Int32) (a2 : Int32) (a3 : Int32) : Option (MZ_) :=
  if 561 ≤ (σ 32 0) then some σ
  else gd_ (σ 32 0) 561 (st_ (va_up σ 15 (upd (σ 15) (σ 32 0).toNatClampNeg a1)) fun σ1 => gd_ (σ1 32 0) 561 (st_ (va_up σ1 16 (upd (σ1 16) (σ1 32 0).toNatClampNeg a2)) fun σ2 => gd_ (σ2 32 0) 561 (st_ (va_up σ2 17 (upd (σ2 17) (σ2 32 0).toNatClampNeg a3)) fun σ3 => st_ (va_up σ3 32 (fun _ => (σ3 32 0) + 1)) fun σ4 => some σ4)))
set_option maxHeartbeats 4000000 in
set_option maxRecDepth 100000 in
theorem c_C_put (l : Launch) (dC : Nat → ClassId) (dI : Nat → Nat → Nat) (q : Nat → Nat) (cA : Nat → ClassId) (pt : Nat) (σ : MZ_) (a1 : Int32) (a2 : Int32) (a3 : Int32) (u : MZ_) (h : f_C_put σ a1 a2 a3 = some u) : Met l y_C_put w_C_put rm_C_put (va_Pc [.ref (q 14), .int a1, .int a2, .int a3] (PX_ dC dI q cA pt σ)) (QW_ none (fun H => va_P (dC, dI) cls_ (wX q cA u) H) (AX q)) 0 0 (AX q) := by
  refine Met.ofW (cc := prog_2_method_7_code) (maxL := 4) (ret := none) (by decide) rfl ?_
  intro p e s m args below meth c s₁ B hml hv
  obtain ⟨rfl, hP, hK, hD, hN, hZ⟩ := hv
  have hx := B.exec
  have hb := B.bytes
  have hr := B.returns
  have hts : ∀ w ∈ AW_, w.before _ s = true := fun w h => atoms_spec (ws := w_C_put) B.pre w (List.mem_cons_of_mem _ h)
  have hown : s.vm.findClass "StagedParsers$Code" = some m.cls := findClass_of_methodNamed B.named
  have hlocks := B.notSynchronized
  have hS : va_S (AX q) s.heap s.heap [] := va_S.rf
  have hl := lv_entry ([.ref (q 14), .int a1, .int a2, .int a3]) (n := 4) (Nat.le_of_ble_eq_true rfl)
  rw [lg_entry_eq]
  generalize (lg_sl ([.ref (q 14), .int a1, .int a2, .int a3]) ++ List.replicate (4 - (lg_sl ([.ref (q 14), .int a1, .int a2, .int a3])).length) Slot.unset).toArray = ls at hl ⊢
  have hl : lv_has ls 4 [(0, .ref (q 14)), (1, .int a1), (2, .int a2), (3, .int a3)] := hl
  rw [f_C_put] at h
  refine lv_aload_n hx hb d_C_put_0 rfl (lv_at hl 0 rfl) ?_
  refine gf_C_27 hx hb hts hown hK hP d_C_put_1 ?_
  refine lv_sipush (v := 561) hx hb d_C_put_4 (by decide) ?_
  refine lv_icmp_ge (tgt := 50) hx hb d_C_put_7 rfl (fun hc => ?_) (fun hc => ?_)
  · have h := if_t hc h
    obtain rfl := Option.some.inj h
    exact W.vret hx hb hr (fun t ht hW => ⟨rfl, by rw [ht]; exact hP, hS.F ht⟩) hS.2.2 d_C_put_50
  · have h := if_f hc h
    refine lv_aload_n hx hb d_C_put_10 rfl (lv_at hl 0 rfl) ?_
    refine gf_C_9 hx hb hts hown hK hP d_C_put_11 ?_
    refine lv_aload_n hx hb d_C_put_14 rfl (lv_at hl 0 rfl) ?_
    refine gf_C_27 hx hb hts hown hK hP d_C_put_15 ?_
    refine lv_iload_n hx hb d_C_put_18 rfl (lv_at hl 1 rfl) ?_
    obtain ⟨hgd, h⟩ := gd_some h
    refine as_X_15 hx hb hK hP hD hS hgd d_C_put_19 (fun H locs hP hS => ?_)
    obtain ⟨σ1, eσ1, h⟩ := st_some h
    rw [← eσ1] at hP
    have hD : va_D (AX q) (wX q cA σ1) := dd_re (wX_f _ _ _ _) hD
    refine lv_aload_n hx hb d_C_put_20 rfl (lv_at hl 0 rfl) ?_
    refine gf_C_15 hx hb hts hown hK hP d_C_put_21 ?_
    refine lv_aload_n hx hb d_C_put_24 rfl (lv_at hl 0 rfl) ?_
    refine gf_C_27 hx hb hts hown hK hP d_C_put_25 ?_
    refine lv_iload_n hx hb d_C_put_28 rfl (lv_at hl 2 rfl) ?_
    obtain ⟨hgd, h⟩ := gd_some h
    refine as_X_16 hx hb hK hP hD hS hgd d_C_put_29 (fun H locs hP hS => ?_)
    obtain ⟨σ2, eσ2, h⟩ := st_some h
    rw [← eσ2] at hP
    have hD : va_D (AX q) (wX q cA σ2) := dd_re (wX_f _ _ _ _) hD
    refine lv_aload_n hx hb d_C_put_30 rfl (lv_at hl 0 rfl) ?_
    refine gf_C_18 hx hb hts hown hK hP d_C_put_31 ?_
    refine lv_aload_n hx hb d_C_put_34 rfl (lv_at hl 0 rfl) ?_
    refine gf_C_27 hx hb hts hown hK hP d_C_put_35 ?_
    refine lv_iload_n hx hb d_C_put_38 rfl (lv_at hl 3 rfl) ?_
    obtain ⟨hgd, h⟩ := gd_some h
    refine as_X_17 hx hb hK hP hD hS hgd d_C_put_39 (fun H locs hP hS => ?_)
    obtain ⟨σ3, eσ3, h⟩ := st_some h
    rw [← eσ3] at hP
    have hD : va_D (AX q) (wX q cA σ3) := dd_re (wX_f _ _ _ _) hD
    refine lv_aload_n hx hb d_C_put_40 rfl (lv_at hl 0 rfl) ?_
    refine lv_dup hx hb d_C_put_41 rfl ?_
    refine gf_C_27 hx hb hts hown hK hP d_C_put_42 ?_
    refine lv_iconst (v := 1) hx hb d_C_put_45 (by decide) ?_
    refine lv_iadd hx hb d_C_put_46 ?_
    refine pf_C_27 hx hb hts hown hK hP hD hS d_C_put_47 (fun H locs hP hS => ?_)
    obtain ⟨σ4, eσ4, h⟩ := st_some h
    rw [← eσ4] at hP
    have hD : va_D (AX q) (wX q cA σ4) := dd_re (wX_f _ _ _ _) hD
    obtain rfl := Option.some.inj h
    exact W.vret hx hb hr (fun t ht hW => ⟨rfl, by rw [ht]; exact hP, hS.F ht⟩) hS.2.2 d_C_put_50
def y_C_piece : MethodName := ⟨"StagedParsers$Code", "piece", "(I)I"⟩
def w_C_piece : List Cond := .code y_C_piece prog_2_method_8_code 2 (some .int) :: AW_
def rm_C_piece : Room := { frames := 0, cells := 0, slots := 0, locals := 0 }
theorem d_C_piece_0 : decode prog_2_method_8_code 0 = .ok (.iload_n 1, 1) := by decide +kernel
theorem d_C_piece_1 : decode prog_2_method_8_code 1 = .ok (.ifCond .lt 18, 3) := by decide +kernel
theorem d_C_piece_4 : decode prog_2_method_8_code 4 = .ok (.iload_n 1, 1) := by decide +kernel
theorem d_C_piece_5 : decode prog_2_method_8_code 5 = .ok (.bipush 80, 2) := by decide +kernel
theorem d_C_piece_7 : decode prog_2_method_8_code 7 = .ok (.if_icmp .ge 12, 3) := by decide +kernel
theorem d_C_piece_10 : decode prog_2_method_8_code 10 = .ok (.aload_n 0, 1) := by decide +kernel
theorem d_C_piece_11 : decode prog_2_method_8_code 11 = .ok (.getfield 21, 3) := by decide +kernel
theorem d_C_piece_14 : decode prog_2_method_8_code 14 = .ok (.iload_n 1, 1) := by decide +kernel
theorem d_C_piece_15 : decode prog_2_method_8_code 15 = .ok (.iaload, 1) := by decide +kernel
theorem d_C_piece_16 : decode prog_2_method_8_code 16 = .ok (.goto 4, 3) := by decide +kernel
theorem d_C_piece_19 : decode prog_2_method_8_code 19 = .ok (.iconst 0, 1) := by decide +kernel
theorem d_C_piece_20 : decode prog_2_method_8_code 20 = .ok (.ireturn, 1) := by decide +kernel
section RW
variable {p : Program} {l : Launch} {e : Env} {R : Room} {s : State} {m : MethodId} {args : Array Value} {below : List Frame} {meth : Method} {c : Code} {H : Heap} {locs : List Loc} {cells slots : Nat} {Q : State → Prop}
variable {cc : ByteArray} {pc : Nat} {ls : Array Slot} {rest : List Value} {dC : Nat → ClassId} {dI : Nat → Nat → Nat} {q : Nat → Nat} {cA : Nat → ClassId} {σ : MZ_} {H0 : Heap} {A : Nat → Prop}

theorem gf_C_21 (hx : p.tables.exec = Jvm.exec) (hb : c.code = cc) (hts : ∀ w ∈ AW_, w.before args s = true) (hown : s.vm.findClass "StagedParsers$Code" = some m.cls) (hK : va_K (dC, dI) cls_ (tyX cA) s) (hP : va_P (dC, dI) cls_ (wX q cA σ) H) (hdg : decode cc pc = .ok (.getfield 21, 3)) (kk : W p l e R s m args below meth c H locs cells slots Q (F0 m (pc + 3) ls (.ref (q 18) :: rest))) : W p l e R s m args below meth c H locs cells slots Q (F0 m pc ls (.ref (q 14) :: rest)) :=
  va_get (D := (dC, dI)) (cl := cls_) (ci := 3) (v := .ref (q 18)) (ws := wX q cA σ) (tys := tyX cA) (C := Rz_C) (T := Tz_C) (N := 6) hx hb hts uz_C hown hK hP 14 rfl rfl 3 (by decide) (hts _ kw_93) (fun _ h9 => h9) rfl hdg kk
end RW
def f_C_piece (σ : MZ_) (a1 : Int32) : Option (Int32) :=
  if a1 < 0 then some 0
  else if 80 ≤ a1 then some 0
  else gd_ a1 80 (some (σ 18 a1.toNatClampNeg))
set_option maxHeartbeats 4000000 in
set_option maxRecDepth 100000 in
theorem c_C_piece (l : Launch) (dC : Nat → ClassId) (dI : Nat → Nat → Nat) (q : Nat → Nat) (cA : Nat → ClassId) (pt : Nat) (σ : MZ_) (a1 : Int32) (u : Int32) (h : f_C_piece σ a1 = some u) : Met l y_C_piece w_C_piece rm_C_piece (va_Pc [.ref (q 14), .int a1] (PX_ dC dI q cA pt σ)) (QcRead u) 0 0 (fun _ => False) := by
  refine Met.ofW (cc := prog_2_method_8_code) (maxL := 2) (ret := (some .int)) (by decide) rfl ?_
  intro p e s m args below meth c s₁ B hml hv
  obtain ⟨rfl, hP, hK, hD, hN, hZ⟩ := hv
  have hx := B.exec
  have hb := B.bytes
  have hr := B.returns
  have hts : ∀ w ∈ AW_, w.before _ s = true := fun w h => atoms_spec (ws := w_C_piece) B.pre w (List.mem_cons_of_mem _ h)
  have hown : s.vm.findClass "StagedParsers$Code" = some m.cls := findClass_of_methodNamed B.named
  have hlocks := B.notSynchronized
  have hS : va_S (AX q) s.heap s.heap [] := va_S.rf
  have hl := lv_entry ([.ref (q 14), .int a1]) (n := 2) (Nat.le_of_ble_eq_true rfl)
  rw [lg_entry_eq]
  generalize (lg_sl ([.ref (q 14), .int a1]) ++ List.replicate (2 - (lg_sl ([.ref (q 14), .int a1])).length) Slot.unset).toArray = ls at hl ⊢
  have hl : lv_has ls 2 [(0, .ref (q 14)), (1, .int a1)] := hl
  rw [f_C_piece] at h
  refine lv_iload_n hx hb d_C_piece_0 rfl (lv_at hl 1 rfl) ?_
  refine lv_if_lt (tgt := 19) hx hb d_C_piece_1 rfl (fun hc => ?_) (fun hc => ?_)
  · have h := if_t hc h
    refine lv_iconst (v := 0) hx hb d_C_piece_19 (by decide) ?_
    obtain rfl := Option.some.inj h
    exact W.iret hx hb hr (fun t ht hW => ⟨rfl, ht⟩) (fun _ h9 => nomatch h9) d_C_piece_20
  · have h := if_f hc h
    refine lv_iload_n hx hb d_C_piece_4 rfl (lv_at hl 1 rfl) ?_
    refine lv_bipush (v := 80) hx hb d_C_piece_5 (by decide) ?_
    refine lv_icmp_ge (tgt := 19) hx hb d_C_piece_7 rfl (fun hc => ?_) (fun hc => ?_)
    · have h := if_t hc h
      refine lv_iconst (v := 0) hx hb d_C_piece_19 (by decide) ?_
      obtain rfl := Option.some.inj h
      exact W.iret hx hb hr (fun t ht hW => ⟨rfl, ht⟩) (fun _ h9 => nomatch h9) d_C_piece_20
    · have h := if_f hc h
      refine lv_aload_n hx hb d_C_piece_10 rfl (lv_at hl 0 rfl) ?_
      refine gf_C_21 hx hb hts hown hK hP d_C_piece_11 ?_
      refine lv_iload_n hx hb d_C_piece_14 rfl (lv_at hl 1 rfl) ?_
      obtain ⟨hgd, h⟩ := gd_some h
      refine al_X_18 hx hb hK hP hgd d_C_piece_15 ?_
      refine lv_goto (tgt := 20) hx hb d_C_piece_16 rfl ?_
      obtain rfl := Option.some.inj h
      exact W.iret hx hb hr (fun t ht hW => ⟨rfl, ht⟩) (fun _ h9 => nomatch h9) d_C_piece_20
def y_C_putCall : MethodName := ⟨"StagedParsers$Code", "putCall", "(I)V"⟩
def w_C_putCall : List Cond := .code y_C_putCall prog_2_method_10_code 2 none :: AW_
def rm_C_putCall : Room := { frames := 1, cells := 0, slots := 0, locals := 23 }
theorem d_C_putCall_0 : decode prog_2_method_10_code 0 = .ok (.aload_n 0, 1) := by decide +kernel
theorem d_C_putCall_1 : decode prog_2_method_10_code 1 = .ok (.iconst 4, 1) := by decide +kernel
theorem d_C_putCall_2 : decode prog_2_method_10_code 2 = .ok (.aload_n 0, 1) := by decide +kernel
theorem d_C_putCall_3 : decode prog_2_method_10_code 3 = .ok (.iload_n 1, 1) := by decide +kernel
theorem d_C_putCall_4 : decode prog_2_method_10_code 4 = .ok (.invokevirtual 66, 3) := by decide +kernel
theorem d_C_putCall_7 : decode prog_2_method_10_code 7 = .ok (.iconst 0, 1) := by decide +kernel
theorem d_C_putCall_8 : decode prog_2_method_10_code 8 = .ok (.invokevirtual 31, 3) := by decide +kernel
theorem d_C_putCall_11 : decode prog_2_method_10_code 11 = .ok (.return_, 1) := by decide +kernel
section RW
variable {p : Program} {l : Launch} {e : Env} {R : Room} {s : State} {m : MethodId} {args : Array Value} {below : List Frame} {meth : Method} {c : Code} {H : Heap} {locs : List Loc} {cells slots : Nat} {Q : State → Prop}
variable {cc : ByteArray} {pc : Nat} {ls : Array Slot} {rest : List Value} {dC : Nat → ClassId} {dI : Nat → Nat → Nat} {q : Nat → Nat} {cA : Nat → ClassId} {σ : MZ_} {H0 : Heap} {A : Nat → Prop}

theorem cw_C_66 (hts : ∀ w ∈ AW_, w.before args s = true) (hR : rm_C_piece.frames + 1 ≤ R.frames ∧ 8 + (2 + 11) + rm_C_piece.locals ≤ R.locals) : CallW R s args "StagedParsers$Code" "StagedParsers$Code" 66 y_C_piece prog_2_method_8_code 2 (some .int) w_C_piece rm_C_piece 0 0 1 :=
  ⟨callB_of 1 hts (aw_in kw_339) rfl rfl rfl (hts _ kw_5) (hts _ kw_336) ⟨by decide, by decide, by decide +kernel⟩ hR, hts _ kw_338, hts _ ks_16⟩
theorem cw_C_31 (hts : ∀ w ∈ AW_, w.before args s = true) (hR : rm_C_put.frames + 1 ≤ R.frames ∧ 8 + (4 + 11) + rm_C_put.locals ≤ R.locals) : CallW R s args "StagedParsers$Code" "StagedParsers$Code" 31 y_C_put prog_2_method_7_code 4 none w_C_put rm_C_put 0 0 3 :=
  ⟨callB_of 3 hts (aw_in kw_315) rfl rfl rfl (hts _ kw_5) (hts _ kw_312) ⟨by decide, by decide, by decide +kernel⟩ hR, hts _ kw_314, hts _ ks_13⟩
end RW
def f_C_putCall (σ : MZ_) (a1 : Int32) : Option (MZ_) :=
  (f_C_piece σ a1).bind fun r1 => (f_C_put σ 4 r1 0).bind fun u2 => some u2
set_option maxHeartbeats 4000000 in
set_option maxRecDepth 100000 in
theorem c_C_putCall (l : Launch) (dC : Nat → ClassId) (dI : Nat → Nat → Nat) (q : Nat → Nat) (cA : Nat → ClassId) (pt : Nat) (σ : MZ_) (a1 : Int32) (u : MZ_) (h : f_C_putCall σ a1 = some u) : Met l y_C_putCall w_C_putCall rm_C_putCall (va_Pc [.ref (q 14), .int a1] (PX_ dC dI q cA pt σ)) (QW_ none (fun H => va_P (dC, dI) cls_ (wX q cA u) H) (AX q)) 0 0 (AX q) := by
  refine Met.ofW (cc := prog_2_method_10_code) (maxL := 2) (ret := none) (by decide) rfl ?_
  intro p e s m args below meth c s₁ B hml hv
  obtain ⟨rfl, hP, hK, hD, hN, hZ⟩ := hv
  have hx := B.exec
  have hb := B.bytes
  have hr := B.returns
  have hts : ∀ w ∈ AW_, w.before _ s = true := fun w h => atoms_spec (ws := w_C_putCall) B.pre w (List.mem_cons_of_mem _ h)
  have hown : s.vm.findClass "StagedParsers$Code" = some m.cls := findClass_of_methodNamed B.named
  have hlocks := B.notSynchronized
  have hS : va_S (AX q) s.heap s.heap [] := va_S.rf
  have hl := lv_entry ([.ref (q 14), .int a1]) (n := 2) (Nat.le_of_ble_eq_true rfl)
  rw [lg_entry_eq]
  generalize (lg_sl ([.ref (q 14), .int a1]) ++ List.replicate (2 - (lg_sl ([.ref (q 14), .int a1])).length) Slot.unset).toArray = ls at hl ⊢
  have hl : lv_has ls 2 [(0, .ref (q 14)), (1, .int a1)] := hl
  rw [f_C_putCall] at h
  refine lv_aload_n hx hb d_C_putCall_0 rfl (lv_at hl 0 rfl) ?_
  refine lv_iconst (v := 4) hx hb d_C_putCall_1 (by decide) ?_
  refine lv_aload_n hx hb d_C_putCall_2 rfl (lv_at hl 0 rfl) ?_
  refine lv_iload_n hx hb d_C_putCall_3 rfl (lv_at hl 1 rfl) ?_
  obtain ⟨r1, hcl, h⟩ := bd_some h
  refine cx_read (va_runV (As := [.int a1]) (rest := [.int 4, .ref (q 14)]) ⟨hx, hb, hml, hown, hts⟩ (c_C_piece l dC dI q cA pt σ a1 _ hcl) (cw_C_66 hts ⟨Nat.le_of_ble_eq_true rfl, Nat.le_of_ble_eq_true rfl⟩) ⟨pxX_B, va_recv hK hP (ci := 3) (q0 := 14) rfl rfl, pxX_U hP hK hD hN hZ hS⟩ rfl rfl hl.1 rfl (lv_room (Nat.le_of_ble_eq_true rfl)) d_C_putCall_4 ⟨Nat.zero_le _, Nat.zero_le _⟩) ?_
  refine lv_iconst (v := 0) hx hb d_C_putCall_7 (by decide) ?_
  obtain ⟨u2, hcl, h⟩ := bd_some h
  refine cx_wrv (va_runV (As := [.int 4, .int r1, .int 0]) (rest := []) ⟨hx, hb, hml, hown, hts⟩ (c_C_put l dC dI q cA pt σ 4 r1 0 _ hcl) (cw_C_31 hts ⟨Nat.le_of_ble_eq_true rfl, Nat.le_of_ble_eq_true rfl⟩) ⟨pxX_B, va_recv hK hP (ci := 3) (q0 := 14) rfl rfl, pxX_U hP hK hD hN hZ hS⟩ rfl rfl hl.1 rfl (lv_room (Nat.le_of_ble_eq_true rfl)) d_C_putCall_8 ⟨Nat.zero_le _, Nat.zero_le _⟩) hS (fun _ h => h) (fun H locs hP hS => ?_)
  have hD : va_D (AX q) (wX q cA u2) := dd_re (wX_f _ _ _ _) hD
  obtain rfl := Option.some.inj h
  exact W.vret hx hb hr (fun t ht hW => ⟨rfl, by rw [ht]; exact hP, hS.F ht⟩) hS.2.2 d_C_putCall_11
def y_C_writeOr : MethodName := ⟨"StagedParsers$Code", "writeOr", "(II)V"⟩
def w_C_writeOr : List Cond := .code y_C_writeOr prog_2_method_11_code 3 none :: AW_
def rm_C_writeOr : Room := { frames := 2, cells := 0, slots := 0, locals := 44 }
theorem d_C_writeOr_0 : decode prog_2_method_11_code 0 = .ok (.aload_n 0, 1) := by decide +kernel
theorem d_C_writeOr_1 : decode prog_2_method_11_code 1 = .ok (.bipush 9, 2) := by decide +kernel
theorem d_C_writeOr_3 : decode prog_2_method_11_code 3 = .ok (.iconst 2, 1) := by decide +kernel
theorem d_C_writeOr_4 : decode prog_2_method_11_code 4 = .ok (.aload_n 0, 1) := by decide +kernel
theorem d_C_writeOr_5 : decode prog_2_method_11_code 5 = .ok (.getfield 27, 3) := by decide +kernel
theorem d_C_writeOr_8 : decode prog_2_method_11_code 8 = .ok (.iconst 4, 1) := by decide +kernel
theorem d_C_writeOr_9 : decode prog_2_method_11_code 9 = .ok (.iadd, 1) := by decide +kernel
theorem d_C_writeOr_10 : decode prog_2_method_11_code 10 = .ok (.invokevirtual 31, 3) := by decide +kernel
theorem d_C_writeOr_13 : decode prog_2_method_11_code 13 = .ok (.aload_n 0, 1) := by decide +kernel
theorem d_C_writeOr_14 : decode prog_2_method_11_code 14 = .ok (.iload_n 1, 1) := by decide +kernel
theorem d_C_writeOr_15 : decode prog_2_method_11_code 15 = .ok (.invokevirtual 69, 3) := by decide +kernel
theorem d_C_writeOr_18 : decode prog_2_method_11_code 18 = .ok (.aload_n 0, 1) := by decide +kernel
theorem d_C_writeOr_19 : decode prog_2_method_11_code 19 = .ok (.bipush 10, 2) := by decide +kernel
theorem d_C_writeOr_21 : decode prog_2_method_11_code 21 = .ok (.iconst 0, 1) := by decide +kernel
theorem d_C_writeOr_22 : decode prog_2_method_11_code 22 = .ok (.iconst 0, 1) := by decide +kernel
theorem d_C_writeOr_23 : decode prog_2_method_11_code 23 = .ok (.invokevirtual 31, 3) := by decide +kernel
theorem d_C_writeOr_26 : decode prog_2_method_11_code 26 = .ok (.aload_n 0, 1) := by decide +kernel
theorem d_C_writeOr_27 : decode prog_2_method_11_code 27 = .ok (.bipush 6, 2) := by decide +kernel
theorem d_C_writeOr_29 : decode prog_2_method_11_code 29 = .ok (.iconst 0, 1) := by decide +kernel
theorem d_C_writeOr_30 : decode prog_2_method_11_code 30 = .ok (.iconst 0, 1) := by decide +kernel
theorem d_C_writeOr_31 : decode prog_2_method_11_code 31 = .ok (.invokevirtual 31, 3) := by decide +kernel
theorem d_C_writeOr_34 : decode prog_2_method_11_code 34 = .ok (.aload_n 0, 1) := by decide +kernel
theorem d_C_writeOr_35 : decode prog_2_method_11_code 35 = .ok (.iload_n 2, 1) := by decide +kernel
theorem d_C_writeOr_36 : decode prog_2_method_11_code 36 = .ok (.invokevirtual 69, 3) := by decide +kernel
theorem d_C_writeOr_39 : decode prog_2_method_11_code 39 = .ok (.return_, 1) := by decide +kernel
section RW
variable {p : Program} {l : Launch} {e : Env} {R : Room} {s : State} {m : MethodId} {args : Array Value} {below : List Frame} {meth : Method} {c : Code} {H : Heap} {locs : List Loc} {cells slots : Nat} {Q : State → Prop}
variable {cc : ByteArray} {pc : Nat} {ls : Array Slot} {rest : List Value} {dC : Nat → ClassId} {dI : Nat → Nat → Nat} {q : Nat → Nat} {cA : Nat → ClassId} {σ : MZ_} {H0 : Heap} {A : Nat → Prop}

theorem cw_C_69 (hts : ∀ w ∈ AW_, w.before args s = true) (hR : rm_C_putCall.frames + 1 ≤ R.frames ∧ 8 + (2 + 11) + rm_C_putCall.locals ≤ R.locals) : CallW R s args "StagedParsers$Code" "StagedParsers$Code" 69 y_C_putCall prog_2_method_10_code 2 none w_C_putCall rm_C_putCall 0 0 1 :=
  ⟨callB_of 1 hts (aw_in kw_335) rfl rfl rfl (hts _ kw_5) (hts _ kw_332) ⟨by decide, by decide, by decide +kernel⟩ hR, hts _ kw_334, hts _ ks_15⟩
end RW
def f_C_writeOr (σ : MZ_) (a1 : Int32) (a2 : Int32) : Option (MZ_) :=
  (f_C_put σ 9 2 ((σ 32 0) + 4)).bind fun u1 => (f_C_putCall u1 a1).bind fun u2 => (f_C_put u2 10 0 0).bind fun u3 => (f_C_put u3 6 0 0).bind fun u4 => (f_C_putCall u4 a2).bind fun u5 => some u5
set_option maxHeartbeats 4000000 in
set_option maxRecDepth 100000 in
theorem c_C_writeOr (l : Launch) (dC : Nat → ClassId) (dI : Nat → Nat → Nat) (q : Nat → Nat) (cA : Nat → ClassId) (pt : Nat) (σ : MZ_) (a1 : Int32) (a2 : Int32) (u : MZ_) (h : f_C_writeOr σ a1 a2 = some u) : Met l y_C_writeOr w_C_writeOr rm_C_writeOr (va_Pc [.ref (q 14), .int a1, .int a2] (PX_ dC dI q cA pt σ)) (QW_ none (fun H => va_P (dC, dI) cls_ (wX q cA u) H) (AX q)) 0 0 (AX q) := by
  refine Met.ofW (cc := prog_2_method_11_code) (maxL := 3) (ret := none) (by decide) rfl ?_
  intro p e s m args below meth c s₁ B hml hv
  obtain ⟨rfl, hP, hK, hD, hN, hZ⟩ := hv
  have hx := B.exec
  have hb := B.bytes
  have hr := B.returns
  have hts : ∀ w ∈ AW_, w.before _ s = true := fun w h => atoms_spec (ws := w_C_writeOr) B.pre w (List.mem_cons_of_mem _ h)
  have hown : s.vm.findClass "StagedParsers$Code" = some m.cls := findClass_of_methodNamed B.named
  have hlocks := B.notSynchronized
  have hS : va_S (AX q) s.heap s.heap [] := va_S.rf
  have hl := lv_entry ([.ref (q 14), .int a1, .int a2]) (n := 3) (Nat.le_of_ble_eq_true rfl)
  rw [lg_entry_eq]
  generalize (lg_sl ([.ref (q 14), .int a1, .int a2]) ++ List.replicate (3 - (lg_sl ([.ref (q 14), .int a1, .int a2])).length) Slot.unset).toArray = ls at hl ⊢
  have hl : lv_has ls 3 [(0, .ref (q 14)), (1, .int a1), (2, .int a2)] := hl
  rw [f_C_writeOr] at h
  refine lv_aload_n hx hb d_C_writeOr_0 rfl (lv_at hl 0 rfl) ?_
  refine lv_bipush (v := 9) hx hb d_C_writeOr_1 (by decide) ?_
  refine lv_iconst (v := 2) hx hb d_C_writeOr_3 (by decide) ?_
  refine lv_aload_n hx hb d_C_writeOr_4 rfl (lv_at hl 0 rfl) ?_
  refine gf_C_27 hx hb hts hown hK hP d_C_writeOr_5 ?_
  refine lv_iconst (v := 4) hx hb d_C_writeOr_8 (by decide) ?_
  refine lv_iadd hx hb d_C_writeOr_9 ?_
  obtain ⟨u1, hcl, h⟩ := bd_some h
  refine cx_wrv (va_runV (As := [.int 9, .int 2, .int ((σ 32 0) + 4)]) (rest := []) ⟨hx, hb, hml, hown, hts⟩ (c_C_put l dC dI q cA pt σ 9 2 ((σ 32 0) + 4) _ hcl) (cw_C_31 hts ⟨Nat.le_of_ble_eq_true rfl, Nat.le_of_ble_eq_true rfl⟩) ⟨pxX_B, va_recv hK hP (ci := 3) (q0 := 14) rfl rfl, pxX_U hP hK hD hN hZ hS⟩ rfl rfl hl.1 rfl (lv_room (Nat.le_of_ble_eq_true rfl)) d_C_writeOr_10 ⟨Nat.zero_le _, Nat.zero_le _⟩) hS (fun _ h => h) (fun H locs hP hS => ?_)
  have hD : va_D (AX q) (wX q cA u1) := dd_re (wX_f _ _ _ _) hD
  refine lv_aload_n hx hb d_C_writeOr_13 rfl (lv_at hl 0 rfl) ?_
  refine lv_iload_n hx hb d_C_writeOr_14 rfl (lv_at hl 1 rfl) ?_
  obtain ⟨u2, hcl, h⟩ := bd_some h
  refine cx_wrv (va_runV (As := [.int a1]) (rest := []) ⟨hx, hb, hml, hown, hts⟩ (c_C_putCall l dC dI q cA pt u1 a1 _ hcl) (cw_C_69 hts ⟨Nat.le_of_ble_eq_true rfl, Nat.le_of_ble_eq_true rfl⟩) ⟨pxX_B, va_recv hK hP (ci := 3) (q0 := 14) rfl rfl, pxX_U hP hK hD hN hZ hS⟩ rfl rfl hl.1 rfl (lv_room (Nat.le_of_ble_eq_true rfl)) d_C_writeOr_15 ⟨Nat.zero_le _, Nat.zero_le _⟩) hS (fun _ h => h) (fun H locs hP hS => ?_)
  have hD : va_D (AX q) (wX q cA u2) := dd_re (wX_f _ _ _ _) hD
  refine lv_aload_n hx hb d_C_writeOr_18 rfl (lv_at hl 0 rfl) ?_
  refine lv_bipush (v := 10) hx hb d_C_writeOr_19 (by decide) ?_
  refine lv_iconst (v := 0) hx hb d_C_writeOr_21 (by decide) ?_
  refine lv_iconst (v := 0) hx hb d_C_writeOr_22 (by decide) ?_
  obtain ⟨u3, hcl, h⟩ := bd_some h
  refine cx_wrv (va_runV (As := [.int 10, .int 0, .int 0]) (rest := []) ⟨hx, hb, hml, hown, hts⟩ (c_C_put l dC dI q cA pt u2 10 0 0 _ hcl) (cw_C_31 hts ⟨Nat.le_of_ble_eq_true rfl, Nat.le_of_ble_eq_true rfl⟩) ⟨pxX_B, va_recv hK hP (ci := 3) (q0 := 14) rfl rfl, pxX_U hP hK hD hN hZ hS⟩ rfl rfl hl.1 rfl (lv_room (Nat.le_of_ble_eq_true rfl)) d_C_writeOr_23 ⟨Nat.zero_le _, Nat.zero_le _⟩) hS (fun _ h => h) (fun H locs hP hS => ?_)
  have hD : va_D (AX q) (wX q cA u3) := dd_re (wX_f _ _ _ _) hD
  refine lv_aload_n hx hb d_C_writeOr_26 rfl (lv_at hl 0 rfl) ?_
  refine lv_bipush (v := 6) hx hb d_C_writeOr_27 (by decide) ?_
  refine lv_iconst (v := 0) hx hb d_C_writeOr_29 (by decide) ?_
  refine lv_iconst (v := 0) hx hb d_C_writeOr_30 (by decide) ?_
  obtain ⟨u4, hcl, h⟩ := bd_some h
  refine cx_wrv (va_runV (As := [.int 6, .int 0, .int 0]) (rest := []) ⟨hx, hb, hml, hown, hts⟩ (c_C_put l dC dI q cA pt u3 6 0 0 _ hcl) (cw_C_31 hts ⟨Nat.le_of_ble_eq_true rfl, Nat.le_of_ble_eq_true rfl⟩) ⟨pxX_B, va_recv hK hP (ci := 3) (q0 := 14) rfl rfl, pxX_U hP hK hD hN hZ hS⟩ rfl rfl hl.1 rfl (lv_room (Nat.le_of_ble_eq_true rfl)) d_C_writeOr_31 ⟨Nat.zero_le _, Nat.zero_le _⟩) hS (fun _ h => h) (fun H locs hP hS => ?_)
  have hD : va_D (AX q) (wX q cA u4) := dd_re (wX_f _ _ _ _) hD
  refine lv_aload_n hx hb d_C_writeOr_34 rfl (lv_at hl 0 rfl) ?_
  refine lv_iload_n hx hb d_C_writeOr_35 rfl (lv_at hl 2 rfl) ?_
  obtain ⟨u5, hcl, h⟩ := bd_some h
  refine cx_wrv (va_runV (As := [.int a2]) (rest := []) ⟨hx, hb, hml, hown, hts⟩ (c_C_putCall l dC dI q cA pt u4 a2 _ hcl) (cw_C_69 hts ⟨Nat.le_of_ble_eq_true rfl, Nat.le_of_ble_eq_true rfl⟩) ⟨pxX_B, va_recv hK hP (ci := 3) (q0 := 14) rfl rfl, pxX_U hP hK hD hN hZ hS⟩ rfl rfl hl.1 rfl (lv_room (Nat.le_of_ble_eq_true rfl)) d_C_writeOr_36 ⟨Nat.zero_le _, Nat.zero_le _⟩) hS (fun _ h => h) (fun H locs hP hS => ?_)
  have hD : va_D (AX q) (wX q cA u5) := dd_re (wX_f _ _ _ _) hD
  obtain rfl := Option.some.inj h
  exact W.vret hx hb hr (fun t ht hW => ⟨rfl, by rw [ht]; exact hP, hS.F ht⟩) hS.2.2 d_C_writeOr_39
def y_C_writeNot : MethodName := ⟨"StagedParsers$Code", "writeNot", "(I)V"⟩
def w_C_writeNot : List Cond := .code y_C_writeNot prog_2_method_12_code 2 none :: AW_
def rm_C_writeNot : Room := { frames := 2, cells := 0, slots := 0, locals := 44 }
theorem d_C_writeNot_0 : decode prog_2_method_12_code 0 = .ok (.aload_n 0, 1) := by decide +kernel
theorem d_C_writeNot_1 : decode prog_2_method_12_code 1 = .ok (.bipush 9, 2) := by decide +kernel
theorem d_C_writeNot_3 : decode prog_2_method_12_code 3 = .ok (.iconst 5, 1) := by decide +kernel
theorem d_C_writeNot_4 : decode prog_2_method_12_code 4 = .ok (.aload_n 0, 1) := by decide +kernel
theorem d_C_writeNot_5 : decode prog_2_method_12_code 5 = .ok (.getfield 27, 3) := by decide +kernel
theorem d_C_writeNot_8 : decode prog_2_method_12_code 8 = .ok (.iconst 4, 1) := by decide +kernel
theorem d_C_writeNot_9 : decode prog_2_method_12_code 9 = .ok (.iadd, 1) := by decide +kernel
theorem d_C_writeNot_10 : decode prog_2_method_12_code 10 = .ok (.invokevirtual 31, 3) := by decide +kernel
theorem d_C_writeNot_13 : decode prog_2_method_12_code 13 = .ok (.aload_n 0, 1) := by decide +kernel
theorem d_C_writeNot_14 : decode prog_2_method_12_code 14 = .ok (.iload_n 1, 1) := by decide +kernel
theorem d_C_writeNot_15 : decode prog_2_method_12_code 15 = .ok (.invokevirtual 69, 3) := by decide +kernel
theorem d_C_writeNot_18 : decode prog_2_method_12_code 18 = .ok (.aload_n 0, 1) := by decide +kernel
theorem d_C_writeNot_19 : decode prog_2_method_12_code 19 = .ok (.bipush 11, 2) := by decide +kernel
theorem d_C_writeNot_21 : decode prog_2_method_12_code 21 = .ok (.iconst 0, 1) := by decide +kernel
theorem d_C_writeNot_22 : decode prog_2_method_12_code 22 = .ok (.iconst 0, 1) := by decide +kernel
theorem d_C_writeNot_23 : decode prog_2_method_12_code 23 = .ok (.invokevirtual 31, 3) := by decide +kernel
theorem d_C_writeNot_26 : decode prog_2_method_12_code 26 = .ok (.aload_n 0, 1) := by decide +kernel
theorem d_C_writeNot_27 : decode prog_2_method_12_code 27 = .ok (.iconst 3, 1) := by decide +kernel
theorem d_C_writeNot_28 : decode prog_2_method_12_code 28 = .ok (.iconst 0, 1) := by decide +kernel
theorem d_C_writeNot_29 : decode prog_2_method_12_code 29 = .ok (.iconst 0, 1) := by decide +kernel
theorem d_C_writeNot_30 : decode prog_2_method_12_code 30 = .ok (.invokevirtual 31, 3) := by decide +kernel
theorem d_C_writeNot_33 : decode prog_2_method_12_code 33 = .ok (.aload_n 0, 1) := by decide +kernel
theorem d_C_writeNot_34 : decode prog_2_method_12_code 34 = .ok (.iconst 1, 1) := by decide +kernel
theorem d_C_writeNot_35 : decode prog_2_method_12_code 35 = .ok (.iconst 0, 1) := by decide +kernel
theorem d_C_writeNot_36 : decode prog_2_method_12_code 36 = .ok (.iconst 0, 1) := by decide +kernel
theorem d_C_writeNot_37 : decode prog_2_method_12_code 37 = .ok (.invokevirtual 31, 3) := by decide +kernel
theorem d_C_writeNot_40 : decode prog_2_method_12_code 40 = .ok (.return_, 1) := by decide +kernel
def f_C_writeNot (σ : MZ_) (a1 : Int32) : Option (MZ_) :=
  (f_C_put σ 9 5 ((σ 32 0) + 4)).bind fun u1 => (f_C_putCall u1 a1).bind fun u2 => (f_C_put u2 11 0 0).bind fun u3 => (f_C_put u3 3 0 0).bind fun u4 => (f_C_put u4 1 0 0).bind fun u5 => some u5
set_option maxHeartbeats 4000000 in
set_option maxRecDepth 100000 in
theorem c_C_writeNot (l : Launch) (dC : Nat → ClassId) (dI : Nat → Nat → Nat) (q : Nat → Nat) (cA : Nat → ClassId) (pt : Nat) (σ : MZ_) (a1 : Int32) (u : MZ_) (h : f_C_writeNot σ a1 = some u) : Met l y_C_writeNot w_C_writeNot rm_C_writeNot (va_Pc [.ref (q 14), .int a1] (PX_ dC dI q cA pt σ)) (QW_ none (fun H => va_P (dC, dI) cls_ (wX q cA u) H) (AX q)) 0 0 (AX q) := by
  refine Met.ofW (cc := prog_2_method_12_code) (maxL := 2) (ret := none) (by decide) rfl ?_
  intro p e s m args below meth c s₁ B hml hv
  obtain ⟨rfl, hP, hK, hD, hN, hZ⟩ := hv
  have hx := B.exec
  have hb := B.bytes
  have hr := B.returns
  have hts : ∀ w ∈ AW_, w.before _ s = true := fun w h => atoms_spec (ws := w_C_writeNot) B.pre w (List.mem_cons_of_mem _ h)
  have hown : s.vm.findClass "StagedParsers$Code" = some m.cls := findClass_of_methodNamed B.named
  have hlocks := B.notSynchronized
  have hS : va_S (AX q) s.heap s.heap [] := va_S.rf
  have hl := lv_entry ([.ref (q 14), .int a1]) (n := 2) (Nat.le_of_ble_eq_true rfl)
  rw [lg_entry_eq]
  generalize (lg_sl ([.ref (q 14), .int a1]) ++ List.replicate (2 - (lg_sl ([.ref (q 14), .int a1])).length) Slot.unset).toArray = ls at hl ⊢
  have hl : lv_has ls 2 [(0, .ref (q 14)), (1, .int a1)] := hl
  rw [f_C_writeNot] at h
  refine lv_aload_n hx hb d_C_writeNot_0 rfl (lv_at hl 0 rfl) ?_
  refine lv_bipush (v := 9) hx hb d_C_writeNot_1 (by decide) ?_
  refine lv_iconst (v := 5) hx hb d_C_writeNot_3 (by decide) ?_
  refine lv_aload_n hx hb d_C_writeNot_4 rfl (lv_at hl 0 rfl) ?_
  refine gf_C_27 hx hb hts hown hK hP d_C_writeNot_5 ?_
  refine lv_iconst (v := 4) hx hb d_C_writeNot_8 (by decide) ?_
  refine lv_iadd hx hb d_C_writeNot_9 ?_
  obtain ⟨u1, hcl, h⟩ := bd_some h
  refine cx_wrv (va_runV (As := [.int 9, .int 5, .int ((σ 32 0) + 4)]) (rest := []) ⟨hx, hb, hml, hown, hts⟩ (c_C_put l dC dI q cA pt σ 9 5 ((σ 32 0) + 4) _ hcl) (cw_C_31 hts ⟨Nat.le_of_ble_eq_true rfl, Nat.le_of_ble_eq_true rfl⟩) ⟨pxX_B, va_recv hK hP (ci := 3) (q0 := 14) rfl rfl, pxX_U hP hK hD hN hZ hS⟩ rfl rfl hl.1 rfl (lv_room (Nat.le_of_ble_eq_true rfl)) d_C_writeNot_10 ⟨Nat.zero_le _, Nat.zero_le _⟩) hS (fun _ h => h) (fun H locs hP hS => ?_)
  have hD : va_D (AX q) (wX q cA u1) := dd_re (wX_f _ _ _ _) hD
  refine lv_aload_n hx hb d_C_writeNot_13 rfl (lv_at hl 0 rfl) ?_
  refine lv_iload_n hx hb d_C_writeNot_14 rfl (lv_at hl 1 rfl) ?_
  obtain ⟨u2, hcl, h⟩ := bd_some h
  refine cx_wrv (va_runV (As := [.int a1]) (rest := []) ⟨hx, hb, hml, hown, hts⟩ (c_C_putCall l dC dI q cA pt u1 a1 _ hcl) (cw_C_69 hts ⟨Nat.le_of_ble_eq_true rfl, Nat.le_of_ble_eq_true rfl⟩) ⟨pxX_B, va_recv hK hP (ci := 3) (q0 := 14) rfl rfl, pxX_U hP hK hD hN hZ hS⟩ rfl rfl hl.1 rfl (lv_room (Nat.le_of_ble_eq_true rfl)) d_C_writeNot_15 ⟨Nat.zero_le _, Nat.zero_le _⟩) hS (fun _ h => h) (fun H locs hP hS => ?_)
  have hD : va_D (AX q) (wX q cA u2) := dd_re (wX_f _ _ _ _) hD
  refine lv_aload_n hx hb d_C_writeNot_18 rfl (lv_at hl 0 rfl) ?_
  refine lv_bipush (v := 11) hx hb d_C_writeNot_19 (by decide) ?_
  refine lv_iconst (v := 0) hx hb d_C_writeNot_21 (by decide) ?_
  refine lv_iconst (v := 0) hx hb d_C_writeNot_22 (by decide) ?_
  obtain ⟨u3, hcl, h⟩ := bd_some h
  refine cx_wrv (va_runV (As := [.int 11, .int 0, .int 0]) (rest := []) ⟨hx, hb, hml, hown, hts⟩ (c_C_put l dC dI q cA pt u2 11 0 0 _ hcl) (cw_C_31 hts ⟨Nat.le_of_ble_eq_true rfl, Nat.le_of_ble_eq_true rfl⟩) ⟨pxX_B, va_recv hK hP (ci := 3) (q0 := 14) rfl rfl, pxX_U hP hK hD hN hZ hS⟩ rfl rfl hl.1 rfl (lv_room (Nat.le_of_ble_eq_true rfl)) d_C_writeNot_23 ⟨Nat.zero_le _, Nat.zero_le _⟩) hS (fun _ h => h) (fun H locs hP hS => ?_)
  have hD : va_D (AX q) (wX q cA u3) := dd_re (wX_f _ _ _ _) hD
  refine lv_aload_n hx hb d_C_writeNot_26 rfl (lv_at hl 0 rfl) ?_
  refine lv_iconst (v := 3) hx hb d_C_writeNot_27 (by decide) ?_
  refine lv_iconst (v := 0) hx hb d_C_writeNot_28 (by decide) ?_
  refine lv_iconst (v := 0) hx hb d_C_writeNot_29 (by decide) ?_
  obtain ⟨u4, hcl, h⟩ := bd_some h
  refine cx_wrv (va_runV (As := [.int 3, .int 0, .int 0]) (rest := []) ⟨hx, hb, hml, hown, hts⟩ (c_C_put l dC dI q cA pt u3 3 0 0 _ hcl) (cw_C_31 hts ⟨Nat.le_of_ble_eq_true rfl, Nat.le_of_ble_eq_true rfl⟩) ⟨pxX_B, va_recv hK hP (ci := 3) (q0 := 14) rfl rfl, pxX_U hP hK hD hN hZ hS⟩ rfl rfl hl.1 rfl (lv_room (Nat.le_of_ble_eq_true rfl)) d_C_writeNot_30 ⟨Nat.zero_le _, Nat.zero_le _⟩) hS (fun _ h => h) (fun H locs hP hS => ?_)
  have hD : va_D (AX q) (wX q cA u4) := dd_re (wX_f _ _ _ _) hD
  refine lv_aload_n hx hb d_C_writeNot_33 rfl (lv_at hl 0 rfl) ?_
  refine lv_iconst (v := 1) hx hb d_C_writeNot_34 (by decide) ?_
  refine lv_iconst (v := 0) hx hb d_C_writeNot_35 (by decide) ?_
  refine lv_iconst (v := 0) hx hb d_C_writeNot_36 (by decide) ?_
  obtain ⟨u5, hcl, h⟩ := bd_some h
  refine cx_wrv (va_runV (As := [.int 1, .int 0, .int 0]) (rest := []) ⟨hx, hb, hml, hown, hts⟩ (c_C_put l dC dI q cA pt u4 1 0 0 _ hcl) (cw_C_31 hts ⟨Nat.le_of_ble_eq_true rfl, Nat.le_of_ble_eq_true rfl⟩) ⟨pxX_B, va_recv hK hP (ci := 3) (q0 := 14) rfl rfl, pxX_U hP hK hD hN hZ hS⟩ rfl rfl hl.1 rfl (lv_room (Nat.le_of_ble_eq_true rfl)) d_C_writeNot_37 ⟨Nat.zero_le _, Nat.zero_le _⟩) hS (fun _ h => h) (fun H locs hP hS => ?_)
  have hD : va_D (AX q) (wX q cA u5) := dd_re (wX_f _ _ _ _) hD
  obtain rfl := Option.some.inj h
  exact W.vret hx hb hr (fun t ht hW => ⟨rfl, by rw [ht]; exact hP, hS.F ht⟩) hS.2.2 d_C_writeNot_40
def y_C_writeMany : MethodName := ⟨"StagedParsers$Code", "writeMany", "(II)V"⟩
def w_C_writeMany : List Cond := .code y_C_writeMany prog_2_method_13_code 4 none :: AW_
def rm_C_writeMany : Room := { frames := 2, cells := 0, slots := 0, locals := 44 }
theorem d_C_writeMany_0 : decode prog_2_method_13_code 0 = .ok (.aload_n 0, 1) := by decide +kernel
theorem d_C_writeMany_1 : decode prog_2_method_13_code 1 = .ok (.iconst 1, 1) := by decide +kernel
theorem d_C_writeMany_2 : decode prog_2_method_13_code 2 = .ok (.iconst 0, 1) := by decide +kernel
theorem d_C_writeMany_3 : decode prog_2_method_13_code 3 = .ok (.iconst 0, 1) := by decide +kernel
theorem d_C_writeMany_4 : decode prog_2_method_13_code 4 = .ok (.invokevirtual 31, 3) := by decide +kernel
theorem d_C_writeMany_7 : decode prog_2_method_13_code 7 = .ok (.aload_n 0, 1) := by decide +kernel
theorem d_C_writeMany_8 : decode prog_2_method_13_code 8 = .ok (.bipush 9, 2) := by decide +kernel
theorem d_C_writeMany_10 : decode prog_2_method_13_code 10 = .ok (.iconst 2, 1) := by decide +kernel
theorem d_C_writeMany_11 : decode prog_2_method_13_code 11 = .ok (.aload_n 0, 1) := by decide +kernel
theorem d_C_writeMany_12 : decode prog_2_method_13_code 12 = .ok (.getfield 27, 3) := by decide +kernel
theorem d_C_writeMany_15 : decode prog_2_method_13_code 15 = .ok (.iconst 4, 1) := by decide +kernel
theorem d_C_writeMany_16 : decode prog_2_method_13_code 16 = .ok (.iadd, 1) := by decide +kernel
theorem d_C_writeMany_17 : decode prog_2_method_13_code 17 = .ok (.invokevirtual 31, 3) := by decide +kernel
theorem d_C_writeMany_20 : decode prog_2_method_13_code 20 = .ok (.aload_n 0, 1) := by decide +kernel
theorem d_C_writeMany_21 : decode prog_2_method_13_code 21 = .ok (.getfield 27, 3) := by decide +kernel
theorem d_C_writeMany_24 : decode prog_2_method_13_code 24 = .ok (.istore_n 3, 1) := by decide +kernel
theorem d_C_writeMany_25 : decode prog_2_method_13_code 25 = .ok (.aload_n 0, 1) := by decide +kernel
theorem d_C_writeMany_26 : decode prog_2_method_13_code 26 = .ok (.iload_n 1, 1) := by decide +kernel
theorem d_C_writeMany_27 : decode prog_2_method_13_code 27 = .ok (.invokevirtual 69, 3) := by decide +kernel
theorem d_C_writeMany_30 : decode prog_2_method_13_code 30 = .ok (.aload_n 0, 1) := by decide +kernel
theorem d_C_writeMany_31 : decode prog_2_method_13_code 31 = .ok (.bipush 7, 2) := by decide +kernel
theorem d_C_writeMany_33 : decode prog_2_method_13_code 33 = .ok (.iload_n 2, 1) := by decide +kernel
theorem d_C_writeMany_34 : decode prog_2_method_13_code 34 = .ok (.iconst 0, 1) := by decide +kernel
theorem d_C_writeMany_35 : decode prog_2_method_13_code 35 = .ok (.invokevirtual 31, 3) := by decide +kernel
theorem d_C_writeMany_38 : decode prog_2_method_13_code 38 = .ok (.aload_n 0, 1) := by decide +kernel
theorem d_C_writeMany_39 : decode prog_2_method_13_code 39 = .ok (.bipush 12, 2) := by decide +kernel
theorem d_C_writeMany_41 : decode prog_2_method_13_code 41 = .ok (.iload_n 3, 1) := by decide +kernel
theorem d_C_writeMany_42 : decode prog_2_method_13_code 42 = .ok (.iconst 0, 1) := by decide +kernel
theorem d_C_writeMany_43 : decode prog_2_method_13_code 43 = .ok (.invokevirtual 31, 3) := by decide +kernel
theorem d_C_writeMany_46 : decode prog_2_method_13_code 46 = .ok (.return_, 1) := by decide +kernel
def f_C_writeMany (σ : MZ_) (a1 : Int32) (a2 : Int32) : Option (MZ_) :=
  (f_C_put σ 1 0 0).bind fun u1 => (f_C_put u1 9 2 ((u1 32 0) + 4)).bind fun u2 => (f_C_putCall u2 a1).bind fun u3 => (f_C_put u3 7 a2 0).bind fun u4 => (f_C_put u4 12 (u2 32 0) 0).bind fun u5 => some u5
set_option maxHeartbeats 4000000 in
set_option maxRecDepth 100000 in
theorem c_C_writeMany (l : Launch) (dC : Nat → ClassId) (dI : Nat → Nat → Nat) (q : Nat → Nat) (cA : Nat → ClassId) (pt : Nat) (σ : MZ_) (a1 : Int32) (a2 : Int32) (u : MZ_) (h : f_C_writeMany σ a1 a2 = some u) : Met l y_C_writeMany w_C_writeMany rm_C_writeMany (va_Pc [.ref (q 14), .int a1, .int a2] (PX_ dC dI q cA pt σ)) (QW_ none (fun H => va_P (dC, dI) cls_ (wX q cA u) H) (AX q)) 0 0 (AX q) := by
  refine Met.ofW (cc := prog_2_method_13_code) (maxL := 4) (ret := none) (by decide) rfl ?_
  intro p e s m args below meth c s₁ B hml hv
  obtain ⟨rfl, hP, hK, hD, hN, hZ⟩ := hv
  have hx := B.exec
  have hb := B.bytes
  have hr := B.returns
  have hts : ∀ w ∈ AW_, w.before _ s = true := fun w h => atoms_spec (ws := w_C_writeMany) B.pre w (List.mem_cons_of_mem _ h)
  have hown : s.vm.findClass "StagedParsers$Code" = some m.cls := findClass_of_methodNamed B.named
  have hlocks := B.notSynchronized
  have hS : va_S (AX q) s.heap s.heap [] := va_S.rf
  have hl := lv_entry ([.ref (q 14), .int a1, .int a2]) (n := 4) (Nat.le_of_ble_eq_true rfl)
  rw [lg_entry_eq]
  generalize (lg_sl ([.ref (q 14), .int a1, .int a2]) ++ List.replicate (4 - (lg_sl ([.ref (q 14), .int a1, .int a2])).length) Slot.unset).toArray = ls at hl ⊢
  have hl : lv_has ls 4 [(0, .ref (q 14)), (1, .int a1), (2, .int a2)] := hl
  rw [f_C_writeMany] at h
  refine lv_aload_n hx hb d_C_writeMany_0 rfl (lv_at hl 0 rfl) ?_
  refine lv_iconst (v := 1) hx hb d_C_writeMany_1 (by decide) ?_
  refine lv_iconst (v := 0) hx hb d_C_writeMany_2 (by decide) ?_
  refine lv_iconst (v := 0) hx hb d_C_writeMany_3 (by decide) ?_
  obtain ⟨u1, hcl, h⟩ := bd_some h
  refine cx_wrv (va_runV (As := [.int 1, .int 0, .int 0]) (rest := []) ⟨hx, hb, hml, hown, hts⟩ (c_C_put l dC dI q cA pt σ 1 0 0 _ hcl) (cw_C_31 hts ⟨Nat.le_of_ble_eq_true rfl, Nat.le_of_ble_eq_true rfl⟩) ⟨pxX_B, va_recv hK hP (ci := 3) (q0 := 14) rfl rfl, pxX_U hP hK hD hN hZ hS⟩ rfl rfl hl.1 rfl (lv_room (Nat.le_of_ble_eq_true rfl)) d_C_writeMany_4 ⟨Nat.zero_le _, Nat.zero_le _⟩) hS (fun _ h => h) (fun H locs hP hS => ?_)
  have hD : va_D (AX q) (wX q cA u1) := dd_re (wX_f _ _ _ _) hD
  refine lv_aload_n hx hb d_C_writeMany_7 rfl (lv_at hl 0 rfl) ?_
  refine lv_bipush (v := 9) hx hb d_C_writeMany_8 (by decide) ?_
  refine lv_iconst (v := 2) hx hb d_C_writeMany_10 (by decide) ?_
  refine lv_aload_n hx hb d_C_writeMany_11 rfl (lv_at hl 0 rfl) ?_
  refine gf_C_27 hx hb hts hown hK hP d_C_writeMany_12 ?_
  refine lv_iconst (v := 4) hx hb d_C_writeMany_15 (by decide) ?_
  refine lv_iadd hx hb d_C_writeMany_16 ?_
  obtain ⟨u2, hcl, h⟩ := bd_some h
  refine cx_wrv (va_runV (As := [.int 9, .int 2, .int ((u1 32 0) + 4)]) (rest := []) ⟨hx, hb, hml, hown, hts⟩ (c_C_put l dC dI q cA pt u1 9 2 ((u1 32 0) + 4) _ hcl) (cw_C_31 hts ⟨Nat.le_of_ble_eq_true rfl, Nat.le_of_ble_eq_true rfl⟩) ⟨pxX_B, va_recv hK hP (ci := 3) (q0 := 14) rfl rfl, pxX_U hP hK hD hN hZ hS⟩ rfl rfl hl.1 rfl (lv_room (Nat.le_of_ble_eq_true rfl)) d_C_writeMany_17 ⟨Nat.zero_le _, Nat.zero_le _⟩) hS (fun _ h => h) (fun H locs hP hS => ?_)
  have hD : va_D (AX q) (wX q cA u2) := dd_re (wX_f _ _ _ _) hD
  refine lv_aload_n hx hb d_C_writeMany_20 rfl (lv_at hl 0 rfl) ?_
  refine gf_C_27 hx hb hts hown hK hP d_C_writeMany_21 ?_
  refine lv_istore_n hx hb d_C_writeMany_24 rfl hl (by decide) rfl (fun ls hl => ?_)
  have hl : lv_has ls 4 [(3, .int (u2 32 0)), (0, .ref (q 14)), (1, .int a1), (2, .int a2)] := hl
  refine lv_aload_n hx hb d_C_writeMany_25 rfl (lv_at hl 1 rfl) ?_
  refine lv_iload_n hx hb d_C_writeMany_26 rfl (lv_at hl 2 rfl) ?_
  obtain ⟨u3, hcl, h⟩ := bd_some h
  refine cx_wrv (va_runV (As := [.int a1]) (rest := []) ⟨hx, hb, hml, hown, hts⟩ (c_C_putCall l dC dI q cA pt u2 a1 _ hcl) (cw_C_69 hts ⟨Nat.le_of_ble_eq_true rfl, Nat.le_of_ble_eq_true rfl⟩) ⟨pxX_B, va_recv hK hP (ci := 3) (q0 := 14) rfl rfl, pxX_U hP hK hD hN hZ hS⟩ rfl rfl hl.1 rfl (lv_room (Nat.le_of_ble_eq_true rfl)) d_C_writeMany_27 ⟨Nat.zero_le _, Nat.zero_le _⟩) hS (fun _ h => h) (fun H locs hP hS => ?_)
  have hD : va_D (AX q) (wX q cA u3) := dd_re (wX_f _ _ _ _) hD
  refine lv_aload_n hx hb d_C_writeMany_30 rfl (lv_at hl 1 rfl) ?_
  refine lv_bipush (v := 7) hx hb d_C_writeMany_31 (by decide) ?_
  refine lv_iload_n hx hb d_C_writeMany_33 rfl (lv_at hl 3 rfl) ?_
  refine lv_iconst (v := 0) hx hb d_C_writeMany_34 (by decide) ?_
  obtain ⟨u4, hcl, h⟩ := bd_some h
  refine cx_wrv (va_runV (As := [.int 7, .int a2, .int 0]) (rest := []) ⟨hx, hb, hml, hown, hts⟩ (c_C_put l dC dI q cA pt u3 7 a2 0 _ hcl) (cw_C_31 hts ⟨Nat.le_of_ble_eq_true rfl, Nat.le_of_ble_eq_true rfl⟩) ⟨pxX_B, va_recv hK hP (ci := 3) (q0 := 14) rfl rfl, pxX_U hP hK hD hN hZ hS⟩ rfl rfl hl.1 rfl (lv_room (Nat.le_of_ble_eq_true rfl)) d_C_writeMany_35 ⟨Nat.zero_le _, Nat.zero_le _⟩) hS (fun _ h => h) (fun H locs hP hS => ?_)
  have hD : va_D (AX q) (wX q cA u4) := dd_re (wX_f _ _ _ _) hD
  refine lv_aload_n hx hb d_C_writeMany_38 rfl (lv_at hl 1 rfl) ?_
  refine lv_bipush (v := 12) hx hb d_C_writeMany_39 (by decide) ?_
  refine lv_iload_n hx hb d_C_writeMany_41 rfl (lv_at hl 0 rfl) ?_
  refine lv_iconst (v := 0) hx hb d_C_writeMany_42 (by decide) ?_
  obtain ⟨u5, hcl, h⟩ := bd_some h
  refine cx_wrv (va_runV (As := [.int 12, .int (u2 32 0), .int 0]) (rest := []) ⟨hx, hb, hml, hown, hts⟩ (c_C_put l dC dI q cA pt u4 12 (u2 32 0) 0 _ hcl) (cw_C_31 hts ⟨Nat.le_of_ble_eq_true rfl, Nat.le_of_ble_eq_true rfl⟩) ⟨pxX_B, va_recv hK hP (ci := 3) (q0 := 14) rfl rfl, pxX_U hP hK hD hN hZ hS⟩ rfl rfl hl.1 rfl (lv_room (Nat.le_of_ble_eq_true rfl)) d_C_writeMany_43 ⟨Nat.zero_le _, Nat.zero_le _⟩) hS (fun _ h => h) (fun H locs hP hS => ?_)
  have hD : va_D (AX q) (wX q cA u5) := dd_re (wX_f _ _ _ _) hD
  obtain rfl := Option.some.inj h
  exact W.vret hx hb hr (fun t ht hW => ⟨rfl, by rw [ht]; exact hP, hS.F ht⟩) hS.2.2 d_C_writeMany_46
def y_C_writeChain : MethodName := ⟨"StagedParsers$Code", "writeChain", "(II)V"⟩
def w_C_writeChain : List Cond := .code y_C_writeChain prog_2_method_14_code 4 none :: AW_
def rm_C_writeChain : Room := { frames := 2, cells := 0, slots := 0, locals := 44 }
theorem d_C_writeChain_0 : decode prog_2_method_14_code 0 = .ok (.aload_n 0, 1) := by decide +kernel
theorem d_C_writeChain_1 : decode prog_2_method_14_code 1 = .ok (.iload_n 1, 1) := by decide +kernel
theorem d_C_writeChain_2 : decode prog_2_method_14_code 2 = .ok (.invokevirtual 69, 3) := by decide +kernel
theorem d_C_writeChain_5 : decode prog_2_method_14_code 5 = .ok (.aload_n 0, 1) := by decide +kernel
theorem d_C_writeChain_6 : decode prog_2_method_14_code 6 = .ok (.bipush 9, 2) := by decide +kernel
theorem d_C_writeChain_8 : decode prog_2_method_14_code 8 = .ok (.iconst 2, 1) := by decide +kernel
theorem d_C_writeChain_9 : decode prog_2_method_14_code 9 = .ok (.aload_n 0, 1) := by decide +kernel
theorem d_C_writeChain_10 : decode prog_2_method_14_code 10 = .ok (.getfield 27, 3) := by decide +kernel
theorem d_C_writeChain_13 : decode prog_2_method_14_code 13 = .ok (.iconst 5, 1) := by decide +kernel
theorem d_C_writeChain_14 : decode prog_2_method_14_code 14 = .ok (.iadd, 1) := by decide +kernel
theorem d_C_writeChain_15 : decode prog_2_method_14_code 15 = .ok (.invokevirtual 31, 3) := by decide +kernel
theorem d_C_writeChain_18 : decode prog_2_method_14_code 18 = .ok (.aload_n 0, 1) := by decide +kernel
theorem d_C_writeChain_19 : decode prog_2_method_14_code 19 = .ok (.getfield 27, 3) := by decide +kernel
theorem d_C_writeChain_22 : decode prog_2_method_14_code 22 = .ok (.istore_n 3, 1) := by decide +kernel
theorem d_C_writeChain_23 : decode prog_2_method_14_code 23 = .ok (.aload_n 0, 1) := by decide +kernel
theorem d_C_writeChain_24 : decode prog_2_method_14_code 24 = .ok (.iload_n 2, 1) := by decide +kernel
theorem d_C_writeChain_25 : decode prog_2_method_14_code 25 = .ok (.invokevirtual 69, 3) := by decide +kernel
theorem d_C_writeChain_28 : decode prog_2_method_14_code 28 = .ok (.aload_n 0, 1) := by decide +kernel
theorem d_C_writeChain_29 : decode prog_2_method_14_code 29 = .ok (.iload_n 1, 1) := by decide +kernel
theorem d_C_writeChain_30 : decode prog_2_method_14_code 30 = .ok (.invokevirtual 69, 3) := by decide +kernel
theorem d_C_writeChain_33 : decode prog_2_method_14_code 33 = .ok (.aload_n 0, 1) := by decide +kernel
theorem d_C_writeChain_34 : decode prog_2_method_14_code 34 = .ok (.bipush 8, 2) := by decide +kernel
theorem d_C_writeChain_36 : decode prog_2_method_14_code 36 = .ok (.iconst 0, 1) := by decide +kernel
theorem d_C_writeChain_37 : decode prog_2_method_14_code 37 = .ok (.iconst 0, 1) := by decide +kernel
theorem d_C_writeChain_38 : decode prog_2_method_14_code 38 = .ok (.invokevirtual 31, 3) := by decide +kernel
theorem d_C_writeChain_41 : decode prog_2_method_14_code 41 = .ok (.aload_n 0, 1) := by decide +kernel
theorem d_C_writeChain_42 : decode prog_2_method_14_code 42 = .ok (.bipush 12, 2) := by decide +kernel
theorem d_C_writeChain_44 : decode prog_2_method_14_code 44 = .ok (.iload_n 3, 1) := by decide +kernel
theorem d_C_writeChain_45 : decode prog_2_method_14_code 45 = .ok (.iconst 0, 1) := by decide +kernel
theorem d_C_writeChain_46 : decode prog_2_method_14_code 46 = .ok (.invokevirtual 31, 3) := by decide +kernel
theorem d_C_writeChain_49 : decode prog_2_method_14_code 49 = .ok (.return_, 1) := by decide +kernel
def f_C_writeChain (σ : MZ_) (a1 : Int32) (a2 : Int32) : Option (MZ_) :=
  (f_C_putCall σ a1).bind fun u1 => (f_C_put u1 9 2 ((u1 32 0) + 5)).bind fun u2 => (f_C_putCall u2 a2).bind fun u3 => (f_C_putCall u3 a1).bind fun u4 => (f_C_put u4 8 0 0).bind fun u5 => (f_C_put u5 12 (u2 32 0) 0).bind fun u6 => some u6
set_option maxHeartbeats 4000000 in
set_option maxRecDepth 100000 in
theorem c_C_writeChain (l : Launch) (dC : Nat → ClassId) (dI : Nat → Nat → Nat) (q : Nat → Nat) (cA : Nat → ClassId) (pt : Nat) (σ : MZ_) (a1 : Int32) (a2 : Int32) (u : MZ_) (h : f_C_writeChain σ a1 a2 = some u) : Met l y_C_writeChain w_C_writeChain rm_C_writeChain (va_Pc [.ref (q 14), .int a1, .int a2] (PX_ dC dI q cA pt σ)) (QW_ none (fun H => va_P (dC, dI) cls_ (wX q cA u) H) (AX q)) 0 0 (AX q) := by
  refine Met.ofW (cc := prog_2_method_14_code) (maxL := 4) (ret := none) (by decide) rfl ?_
  intro p e s m args below meth c s₁ B hml hv
  obtain ⟨rfl, hP, hK, hD, hN, hZ⟩ := hv
  have hx := B.exec
  have hb := B.bytes
  have hr := B.returns
  have hts : ∀ w ∈ AW_, w.before _ s = true := fun w h => atoms_spec (ws := w_C_writeChain) B.pre w (List.mem_cons_of_mem _ h)
  have hown : s.vm.findClass "StagedParsers$Code" = some m.cls := findClass_of_methodNamed B.named
  have hlocks := B.notSynchronized
  have hS : va_S (AX q) s.heap s.heap [] := va_S.rf
  have hl := lv_entry ([.ref (q 14), .int a1, .int a2]) (n := 4) (Nat.le_of_ble_eq_true rfl)
  rw [lg_entry_eq]
  generalize (lg_sl ([.ref (q 14), .int a1, .int a2]) ++ List.replicate (4 - (lg_sl ([.ref (q 14), .int a1, .int a2])).length) Slot.unset).toArray = ls at hl ⊢
  have hl : lv_has ls 4 [(0, .ref (q 14)), (1, .int a1), (2, .int a2)] := hl
  rw [f_C_writeChain] at h
  refine lv_aload_n hx hb d_C_writeChain_0 rfl (lv_at hl 0 rfl) ?_
  refine lv_iload_n hx hb d_C_writeChain_1 rfl (lv_at hl 1 rfl) ?_
  obtain ⟨u1, hcl, h⟩ := bd_some h
  refine cx_wrv (va_runV (As := [.int a1]) (rest := []) ⟨hx, hb, hml, hown, hts⟩ (c_C_putCall l dC dI q cA pt σ a1 _ hcl) (cw_C_69 hts ⟨Nat.le_of_ble_eq_true rfl, Nat.le_of_ble_eq_true rfl⟩) ⟨pxX_B, va_recv hK hP (ci := 3) (q0 := 14) rfl rfl, pxX_U hP hK hD hN hZ hS⟩ rfl rfl hl.1 rfl (lv_room (Nat.le_of_ble_eq_true rfl)) d_C_writeChain_2 ⟨Nat.zero_le _, Nat.zero_le _⟩) hS (fun _ h => h) (fun H locs hP hS => ?_)
  have hD : va_D (AX q) (wX q cA u1) := dd_re (wX_f _ _ _ _) hD
  refine lv_aload_n hx hb d_C_writeChain_5 rfl (lv_at hl 0 rfl) ?_
  refine lv_bipush (v := 9) hx hb d_C_writeChain_6 (by decide) ?_
  refine lv_iconst (v := 2) hx hb d_C_writeChain_8 (by decide) ?_
  refine lv_aload_n hx hb d_C_writeChain_9 rfl (lv_at hl 0 rfl) ?_
  refine gf_C_27 hx hb hts hown hK hP d_C_writeChain_10 ?_
  refine lv_iconst (v := 5) hx hb d_C_writeChain_13 (by decide) ?_
  refine lv_iadd hx hb d_C_writeChain_14 ?_
  obtain ⟨u2, hcl, h⟩ := bd_some h
  refine cx_wrv (va_runV (As := [.int 9, .int 2, .int ((u1 32 0) + 5)]) (rest := []) ⟨hx, hb, hml, hown, hts⟩ (c_C_put l dC dI q cA pt u1 9 2 ((u1 32 0) + 5) _ hcl) (cw_C_31 hts ⟨Nat.le_of_ble_eq_true rfl, Nat.le_of_ble_eq_true rfl⟩) ⟨pxX_B, va_recv hK hP (ci := 3) (q0 := 14) rfl rfl, pxX_U hP hK hD hN hZ hS⟩ rfl rfl hl.1 rfl (lv_room (Nat.le_of_ble_eq_true rfl)) d_C_writeChain_15 ⟨Nat.zero_le _, Nat.zero_le _⟩) hS (fun _ h => h) (fun H locs hP hS => ?_)
  have hD : va_D (AX q) (wX q cA u2) := dd_re (wX_f _ _ _ _) hD
  refine lv_aload_n hx hb d_C_writeChain_18 rfl (lv_at hl 0 rfl) ?_
  refine gf_C_27 hx hb hts hown hK hP d_C_writeChain_19 ?_
  refine lv_istore_n hx hb d_C_writeChain_22 rfl hl (by decide) rfl (fun ls hl => ?_)
  have hl : lv_has ls 4 [(3, .int (u2 32 0)), (0, .ref (q 14)), (1, .int a1), (2, .int a2)] := hl
  refine lv_aload_n hx hb d_C_writeChain_23 rfl (lv_at hl 1 rfl) ?_
  refine lv_iload_n hx hb d_C_writeChain_24 rfl (lv_at hl 3 rfl) ?_
  obtain ⟨u3, hcl, h⟩ := bd_some h
  refine cx_wrv (va_runV (As := [.int a2]) (rest := []) ⟨hx, hb, hml, hown, hts⟩ (c_C_putCall l dC dI q cA pt u2 a2 _ hcl) (cw_C_69 hts ⟨Nat.le_of_ble_eq_true rfl, Nat.le_of_ble_eq_true rfl⟩) ⟨pxX_B, va_recv hK hP (ci := 3) (q0 := 14) rfl rfl, pxX_U hP hK hD hN hZ hS⟩ rfl rfl hl.1 rfl (lv_room (Nat.le_of_ble_eq_true rfl)) d_C_writeChain_25 ⟨Nat.zero_le _, Nat.zero_le _⟩) hS (fun _ h => h) (fun H locs hP hS => ?_)
  have hD : va_D (AX q) (wX q cA u3) := dd_re (wX_f _ _ _ _) hD
  refine lv_aload_n hx hb d_C_writeChain_28 rfl (lv_at hl 1 rfl) ?_
  refine lv_iload_n hx hb d_C_writeChain_29 rfl (lv_at hl 2 rfl) ?_
  obtain ⟨u4, hcl, h⟩ := bd_some h
  refine cx_wrv (va_runV (As := [.int a1]) (rest := []) ⟨hx, hb, hml, hown, hts⟩ (c_C_putCall l dC dI q cA pt u3 a1 _ hcl) (cw_C_69 hts ⟨Nat.le_of_ble_eq_true rfl, Nat.le_of_ble_eq_true rfl⟩) ⟨pxX_B, va_recv hK hP (ci := 3) (q0 := 14) rfl rfl, pxX_U hP hK hD hN hZ hS⟩ rfl rfl hl.1 rfl (lv_room (Nat.le_of_ble_eq_true rfl)) d_C_writeChain_30 ⟨Nat.zero_le _, Nat.zero_le _⟩) hS (fun _ h => h) (fun H locs hP hS => ?_)
  have hD : va_D (AX q) (wX q cA u4) := dd_re (wX_f _ _ _ _) hD
  refine lv_aload_n hx hb d_C_writeChain_33 rfl (lv_at hl 1 rfl) ?_
  refine lv_bipush (v := 8) hx hb d_C_writeChain_34 (by decide) ?_
  refine lv_iconst (v := 0) hx hb d_C_writeChain_36 (by decide) ?_
  refine lv_iconst (v := 0) hx hb d_C_writeChain_37 (by decide) ?_
  obtain ⟨u5, hcl, h⟩ := bd_some h
  refine cx_wrv (va_runV (As := [.int 8, .int 0, .int 0]) (rest := []) ⟨hx, hb, hml, hown, hts⟩ (c_C_put l dC dI q cA pt u4 8 0 0 _ hcl) (cw_C_31 hts ⟨Nat.le_of_ble_eq_true rfl, Nat.le_of_ble_eq_true rfl⟩) ⟨pxX_B, va_recv hK hP (ci := 3) (q0 := 14) rfl rfl, pxX_U hP hK hD hN hZ hS⟩ rfl rfl hl.1 rfl (lv_room (Nat.le_of_ble_eq_true rfl)) d_C_writeChain_38 ⟨Nat.zero_le _, Nat.zero_le _⟩) hS (fun _ h => h) (fun H locs hP hS => ?_)
  have hD : va_D (AX q) (wX q cA u5) := dd_re (wX_f _ _ _ _) hD
  refine lv_aload_n hx hb d_C_writeChain_41 rfl (lv_at hl 1 rfl) ?_
  refine lv_bipush (v := 12) hx hb d_C_writeChain_42 (by decide) ?_
  refine lv_iload_n hx hb d_C_writeChain_44 rfl (lv_at hl 0 rfl) ?_
  refine lv_iconst (v := 0) hx hb d_C_writeChain_45 (by decide) ?_
  obtain ⟨u6, hcl, h⟩ := bd_some h
  refine cx_wrv (va_runV (As := [.int 12, .int (u2 32 0), .int 0]) (rest := []) ⟨hx, hb, hml, hown, hts⟩ (c_C_put l dC dI q cA pt u5 12 (u2 32 0) 0 _ hcl) (cw_C_31 hts ⟨Nat.le_of_ble_eq_true rfl, Nat.le_of_ble_eq_true rfl⟩) ⟨pxX_B, va_recv hK hP (ci := 3) (q0 := 14) rfl rfl, pxX_U hP hK hD hN hZ hS⟩ rfl rfl hl.1 rfl (lv_room (Nat.le_of_ble_eq_true rfl)) d_C_writeChain_46 ⟨Nat.zero_le _, Nat.zero_le _⟩) hS (fun _ h => h) (fun H locs hP hS => ?_)
  have hD : va_D (AX q) (wX q cA u6) := dd_re (wX_f _ _ _ _) hD
  obtain rfl := Option.some.inj h
  exact W.vret hx hb hr (fun t ht hW => ⟨rfl, by rw [ht]; exact hP, hS.F ht⟩) hS.2.2 d_C_writeChain_49
def y_C_writePiece : MethodName := ⟨"StagedParsers$Code", "writePiece", "(IIII)V"⟩
def w_C_writePiece : List Cond := .code y_C_writePiece prog_2_method_9_code 5 none :: AW_
def rm_C_writePiece : Room := { frames := 3, cells := 0, slots := 0, locals := 67 }
theorem d_C_writePiece_0 : decode prog_2_method_9_code 0 = .ok (.iload_n 1, 1) := by decide +kernel
theorem d_C_writePiece_1 : decode prog_2_method_9_code 1 = .ok (.tableswitch 243 0 13 #[71, 81, 91, 243, 101, 123, 132, 156, 180, 188, 197, 206, 216, 232], 71) := by decide +kernel
theorem d_C_writePiece_72 : decode prog_2_method_9_code 72 = .ok (.aload_n 0, 1) := by decide +kernel
theorem d_C_writePiece_73 : decode prog_2_method_9_code 73 = .ok (.iconst 1, 1) := by decide +kernel
theorem d_C_writePiece_74 : decode prog_2_method_9_code 74 = .ok (.iload_n 2, 1) := by decide +kernel
theorem d_C_writePiece_75 : decode prog_2_method_9_code 75 = .ok (.iconst 0, 1) := by decide +kernel
theorem d_C_writePiece_76 : decode prog_2_method_9_code 76 = .ok (.invokevirtual 31, 3) := by decide +kernel
theorem d_C_writePiece_79 : decode prog_2_method_9_code 79 = .ok (.goto 172, 3) := by decide +kernel
theorem d_C_writePiece_82 : decode prog_2_method_9_code 82 = .ok (.aload_n 0, 1) := by decide +kernel
theorem d_C_writePiece_83 : decode prog_2_method_9_code 83 = .ok (.iconst 2, 1) := by decide +kernel
theorem d_C_writePiece_84 : decode prog_2_method_9_code 84 = .ok (.iload_n 2, 1) := by decide +kernel
theorem d_C_writePiece_85 : decode prog_2_method_9_code 85 = .ok (.iload_n 2, 1) := by decide +kernel
theorem d_C_writePiece_86 : decode prog_2_method_9_code 86 = .ok (.invokevirtual 31, 3) := by decide +kernel
theorem d_C_writePiece_89 : decode prog_2_method_9_code 89 = .ok (.goto 162, 3) := by decide +kernel
theorem d_C_writePiece_92 : decode prog_2_method_9_code 92 = .ok (.aload_n 0, 1) := by decide +kernel
theorem d_C_writePiece_93 : decode prog_2_method_9_code 93 = .ok (.iconst 2, 1) := by decide +kernel
theorem d_C_writePiece_94 : decode prog_2_method_9_code 94 = .ok (.iload_n 2, 1) := by decide +kernel
theorem d_C_writePiece_95 : decode prog_2_method_9_code 95 = .ok (.iload_n 3, 1) := by decide +kernel
theorem d_C_writePiece_96 : decode prog_2_method_9_code 96 = .ok (.invokevirtual 31, 3) := by decide +kernel
theorem d_C_writePiece_99 : decode prog_2_method_9_code 99 = .ok (.goto 152, 3) := by decide +kernel
theorem d_C_writePiece_102 : decode prog_2_method_9_code 102 = .ok (.aload_n 0, 1) := by decide +kernel
theorem d_C_writePiece_103 : decode prog_2_method_9_code 103 = .ok (.iload_n 2, 1) := by decide +kernel
theorem d_C_writePiece_104 : decode prog_2_method_9_code 104 = .ok (.invokevirtual 69, 3) := by decide +kernel
theorem d_C_writePiece_107 : decode prog_2_method_9_code 107 = .ok (.aload_n 0, 1) := by decide +kernel
theorem d_C_writePiece_108 : decode prog_2_method_9_code 108 = .ok (.iload_n 3, 1) := by decide +kernel
theorem d_C_writePiece_109 : decode prog_2_method_9_code 109 = .ok (.invokevirtual 69, 3) := by decide +kernel
theorem d_C_writePiece_112 : decode prog_2_method_9_code 112 = .ok (.aload_n 0, 1) := by decide +kernel
theorem d_C_writePiece_113 : decode prog_2_method_9_code 113 = .ok (.bipush 7, 2) := by decide +kernel
theorem d_C_writePiece_115 : decode prog_2_method_9_code 115 = .ok (.iload 4, 2) := by decide +kernel
theorem d_C_writePiece_117 : decode prog_2_method_9_code 117 = .ok (.iconst 0, 1) := by decide +kernel
theorem d_C_writePiece_118 : decode prog_2_method_9_code 118 = .ok (.invokevirtual 31, 3) := by decide +kernel
theorem d_C_writePiece_121 : decode prog_2_method_9_code 121 = .ok (.goto 130, 3) := by decide +kernel
theorem d_C_writePiece_124 : decode prog_2_method_9_code 124 = .ok (.aload_n 0, 1) := by decide +kernel
theorem d_C_writePiece_125 : decode prog_2_method_9_code 125 = .ok (.iload_n 2, 1) := by decide +kernel
theorem d_C_writePiece_126 : decode prog_2_method_9_code 126 = .ok (.iload_n 3, 1) := by decide +kernel
theorem d_C_writePiece_127 : decode prog_2_method_9_code 127 = .ok (.invokevirtual 73, 3) := by decide +kernel
theorem d_C_writePiece_130 : decode prog_2_method_9_code 130 = .ok (.goto 121, 3) := by decide +kernel
theorem d_C_writePiece_133 : decode prog_2_method_9_code 133 = .ok (.aload_n 0, 1) := by decide +kernel
theorem d_C_writePiece_134 : decode prog_2_method_9_code 134 = .ok (.bipush 9, 2) := by decide +kernel
theorem d_C_writePiece_136 : decode prog_2_method_9_code 136 = .ok (.iconst 3, 1) := by decide +kernel
theorem d_C_writePiece_137 : decode prog_2_method_9_code 137 = .ok (.iconst 0, 1) := by decide +kernel
theorem d_C_writePiece_138 : decode prog_2_method_9_code 138 = .ok (.invokevirtual 31, 3) := by decide +kernel
theorem d_C_writePiece_141 : decode prog_2_method_9_code 141 = .ok (.aload_n 0, 1) := by decide +kernel
theorem d_C_writePiece_142 : decode prog_2_method_9_code 142 = .ok (.iload_n 2, 1) := by decide +kernel
theorem d_C_writePiece_143 : decode prog_2_method_9_code 143 = .ok (.invokevirtual 69, 3) := by decide +kernel
theorem d_C_writePiece_146 : decode prog_2_method_9_code 146 = .ok (.aload_n 0, 1) := by decide +kernel
theorem d_C_writePiece_147 : decode prog_2_method_9_code 147 = .ok (.bipush 10, 2) := by decide +kernel
theorem d_C_writePiece_149 : decode prog_2_method_9_code 149 = .ok (.iconst 0, 1) := by decide +kernel
theorem d_C_writePiece_150 : decode prog_2_method_9_code 150 = .ok (.iconst 0, 1) := by decide +kernel
theorem d_C_writePiece_151 : decode prog_2_method_9_code 151 = .ok (.invokevirtual 31, 3) := by decide +kernel
theorem d_C_writePiece_154 : decode prog_2_method_9_code 154 = .ok (.goto 97, 3) := by decide +kernel
theorem d_C_writePiece_157 : decode prog_2_method_9_code 157 = .ok (.aload_n 0, 1) := by decide +kernel
theorem d_C_writePiece_158 : decode prog_2_method_9_code 158 = .ok (.bipush 9, 2) := by decide +kernel
theorem d_C_writePiece_160 : decode prog_2_method_9_code 160 = .ok (.iconst 4, 1) := by decide +kernel
theorem d_C_writePiece_161 : decode prog_2_method_9_code 161 = .ok (.iconst 0, 1) := by decide +kernel
theorem d_C_writePiece_162 : decode prog_2_method_9_code 162 = .ok (.invokevirtual 31, 3) := by decide +kernel
theorem d_C_writePiece_165 : decode prog_2_method_9_code 165 = .ok (.aload_n 0, 1) := by decide +kernel
theorem d_C_writePiece_166 : decode prog_2_method_9_code 166 = .ok (.iload_n 2, 1) := by decide +kernel
theorem d_C_writePiece_167 : decode prog_2_method_9_code 167 = .ok (.invokevirtual 69, 3) := by decide +kernel
theorem d_C_writePiece_170 : decode prog_2_method_9_code 170 = .ok (.aload_n 0, 1) := by decide +kernel
theorem d_C_writePiece_171 : decode prog_2_method_9_code 171 = .ok (.bipush 11, 2) := by decide +kernel
theorem d_C_writePiece_173 : decode prog_2_method_9_code 173 = .ok (.iconst 0, 1) := by decide +kernel
theorem d_C_writePiece_174 : decode prog_2_method_9_code 174 = .ok (.iconst 0, 1) := by decide +kernel
theorem d_C_writePiece_175 : decode prog_2_method_9_code 175 = .ok (.invokevirtual 31, 3) := by decide +kernel
theorem d_C_writePiece_178 : decode prog_2_method_9_code 178 = .ok (.goto 73, 3) := by decide +kernel
theorem d_C_writePiece_181 : decode prog_2_method_9_code 181 = .ok (.aload_n 0, 1) := by decide +kernel
theorem d_C_writePiece_182 : decode prog_2_method_9_code 182 = .ok (.iload_n 2, 1) := by decide +kernel
theorem d_C_writePiece_183 : decode prog_2_method_9_code 183 = .ok (.invokevirtual 77, 3) := by decide +kernel
theorem d_C_writePiece_186 : decode prog_2_method_9_code 186 = .ok (.goto 65, 3) := by decide +kernel
theorem d_C_writePiece_189 : decode prog_2_method_9_code 189 = .ok (.aload_n 0, 1) := by decide +kernel
theorem d_C_writePiece_190 : decode prog_2_method_9_code 190 = .ok (.iload_n 2, 1) := by decide +kernel
theorem d_C_writePiece_191 : decode prog_2_method_9_code 191 = .ok (.iload_n 3, 1) := by decide +kernel
theorem d_C_writePiece_192 : decode prog_2_method_9_code 192 = .ok (.invokevirtual 80, 3) := by decide +kernel
theorem d_C_writePiece_195 : decode prog_2_method_9_code 195 = .ok (.goto 56, 3) := by decide +kernel
theorem d_C_writePiece_198 : decode prog_2_method_9_code 198 = .ok (.aload_n 0, 1) := by decide +kernel
theorem d_C_writePiece_199 : decode prog_2_method_9_code 199 = .ok (.iload_n 2, 1) := by decide +kernel
theorem d_C_writePiece_200 : decode prog_2_method_9_code 200 = .ok (.iload_n 3, 1) := by decide +kernel
theorem d_C_writePiece_201 : decode prog_2_method_9_code 201 = .ok (.invokevirtual 83, 3) := by decide +kernel
theorem d_C_writePiece_204 : decode prog_2_method_9_code 204 = .ok (.goto 47, 3) := by decide +kernel
theorem d_C_writePiece_207 : decode prog_2_method_9_code 207 = .ok (.aload_n 0, 1) := by decide +kernel
theorem d_C_writePiece_208 : decode prog_2_method_9_code 208 = .ok (.iconst 5, 1) := by decide +kernel
theorem d_C_writePiece_209 : decode prog_2_method_9_code 209 = .ok (.iload_n 2, 1) := by decide +kernel
theorem d_C_writePiece_210 : decode prog_2_method_9_code 210 = .ok (.iconst 0, 1) := by decide +kernel
theorem d_C_writePiece_211 : decode prog_2_method_9_code 211 = .ok (.invokevirtual 31, 3) := by decide +kernel
theorem d_C_writePiece_214 : decode prog_2_method_9_code 214 = .ok (.goto 37, 3) := by decide +kernel
theorem d_C_writePiece_217 : decode prog_2_method_9_code 217 = .ok (.aload_n 0, 1) := by decide +kernel
theorem d_C_writePiece_218 : decode prog_2_method_9_code 218 = .ok (.iload_n 2, 1) := by decide +kernel
theorem d_C_writePiece_219 : decode prog_2_method_9_code 219 = .ok (.invokevirtual 69, 3) := by decide +kernel
theorem d_C_writePiece_222 : decode prog_2_method_9_code 222 = .ok (.aload_n 0, 1) := by decide +kernel
theorem d_C_writePiece_223 : decode prog_2_method_9_code 223 = .ok (.bipush 13, 2) := by decide +kernel
theorem d_C_writePiece_225 : decode prog_2_method_9_code 225 = .ok (.iload_n 3, 1) := by decide +kernel
theorem d_C_writePiece_226 : decode prog_2_method_9_code 226 = .ok (.iconst 0, 1) := by decide +kernel
theorem d_C_writePiece_227 : decode prog_2_method_9_code 227 = .ok (.invokevirtual 31, 3) := by decide +kernel
theorem d_C_writePiece_230 : decode prog_2_method_9_code 230 = .ok (.goto 21, 3) := by decide +kernel
theorem d_C_writePiece_233 : decode prog_2_method_9_code 233 = .ok (.aload_n 0, 1) := by decide +kernel
theorem d_C_writePiece_234 : decode prog_2_method_9_code 234 = .ok (.bipush 14, 2) := by decide +kernel
theorem d_C_writePiece_236 : decode prog_2_method_9_code 236 = .ok (.iload_n 2, 1) := by decide +kernel
theorem d_C_writePiece_237 : decode prog_2_method_9_code 237 = .ok (.iconst 0, 1) := by decide +kernel
theorem d_C_writePiece_238 : decode prog_2_method_9_code 238 = .ok (.invokevirtual 31, 3) := by decide +kernel
theorem d_C_writePiece_241 : decode prog_2_method_9_code 241 = .ok (.goto 10, 3) := by decide +kernel
theorem d_C_writePiece_244 : decode prog_2_method_9_code 244 = .ok (.aload_n 0, 1) := by decide +kernel
theorem d_C_writePiece_245 : decode prog_2_method_9_code 245 = .ok (.iconst 3, 1) := by decide +kernel
theorem d_C_writePiece_246 : decode prog_2_method_9_code 246 = .ok (.iconst 0, 1) := by decide +kernel
theorem d_C_writePiece_247 : decode prog_2_method_9_code 247 = .ok (.iconst 0, 1) := by decide +kernel
theorem d_C_writePiece_248 : decode prog_2_method_9_code 248 = .ok (.invokevirtual 31, 3) := by decide +kernel
theorem d_C_writePiece_251 : decode prog_2_method_9_code 251 = .ok (.return_, 1) := by decide +kernel
section RW
variable {p : Program} {l : Launch} {e : Env} {R : Room} {s : State} {m : MethodId} {args : Array Value} {below : List Frame} {meth : Method} {c : Code} {H : Heap} {locs : List Loc} {cells slots : Nat} {Q : State → Prop}
variable {cc : ByteArray} {pc : Nat} {ls : Array Slot} {rest : List Value} {dC : Nat → ClassId} {dI : Nat → Nat → Nat} {q : Nat → Nat} {cA : Nat → ClassId} {σ : MZ_} {H0 : Heap} {A : Nat → Prop}

theorem cw_C_73 (hts : ∀ w ∈ AW_, w.before args s = true) (hR : rm_C_writeOr.frames + 1 ≤ R.frames ∧ 8 + (3 + 11) + rm_C_writeOr.locals ≤ R.locals) : CallW R s args "StagedParsers$Code" "StagedParsers$Code" 73 y_C_writeOr prog_2_method_11_code 3 none w_C_writeOr rm_C_writeOr 0 0 2 :=
  ⟨callB_of 2 hts (aw_in kw_343) rfl rfl rfl (hts _ kw_5) (hts _ kw_340) ⟨by decide, by decide, by decide +kernel⟩ hR, hts _ kw_342, hts _ ks_17⟩
theorem cw_C_77 (hts : ∀ w ∈ AW_, w.before args s = true) (hR : rm_C_writeNot.frames + 1 ≤ R.frames ∧ 8 + (2 + 11) + rm_C_writeNot.locals ≤ R.locals) : CallW R s args "StagedParsers$Code" "StagedParsers$Code" 77 y_C_writeNot prog_2_method_12_code 2 none w_C_writeNot rm_C_writeNot 0 0 1 :=
  ⟨callB_of 1 hts (aw_in kw_347) rfl rfl rfl (hts _ kw_5) (hts _ kw_344) ⟨by decide, by decide, by decide +kernel⟩ hR, hts _ kw_346, hts _ ks_18⟩
theorem cw_C_80 (hts : ∀ w ∈ AW_, w.before args s = true) (hR : rm_C_writeMany.frames + 1 ≤ R.frames ∧ 8 + (4 + 11) + rm_C_writeMany.locals ≤ R.locals) : CallW R s args "StagedParsers$Code" "StagedParsers$Code" 80 y_C_writeMany prog_2_method_13_code 4 none w_C_writeMany rm_C_writeMany 0 0 2 :=
  ⟨callB_of 2 hts (aw_in kw_351) rfl rfl rfl (hts _ kw_5) (hts _ kw_348) ⟨by decide, by decide, by decide +kernel⟩ hR, hts _ kw_350, hts _ ks_19⟩
theorem cw_C_83 (hts : ∀ w ∈ AW_, w.before args s = true) (hR : rm_C_writeChain.frames + 1 ≤ R.frames ∧ 8 + (4 + 11) + rm_C_writeChain.locals ≤ R.locals) : CallW R s args "StagedParsers$Code" "StagedParsers$Code" 83 y_C_writeChain prog_2_method_14_code 4 none w_C_writeChain rm_C_writeChain 0 0 2 :=
  ⟨callB_of 2 hts (aw_in kw_355) rfl rfl rfl (hts _ kw_5) (hts _ kw_352) ⟨by decide, by decide, by decide +kernel⟩ hR, hts _ kw_354, hts _ ks_20⟩
end RW
def f_C_writePiece (σ : MZ_) (a1 : Int32) (a2 : Int32) (a3 : Int32) (a4 : Int32) : Option (MZ_) :=
  if a1 = 0 then (f_C_put σ 1 a2 0).bind fun u1 => some u1
  else if a1 = 1 then (f_C_put σ 2 a2 a2).bind fun u2 => some u2
  else if a1 = 2 then (f_C_put σ 2 a2 a3).bind fun u3 => some u3
  else if a1 = 3 then (f_C_put σ 3 0 0).bind fun u4 => some u4
  else if a1 = 4 then (f_C_putCall σ a2).bind fun u5 => (f_C_putCall u5 a3).bind fun u6 => (f_C_put u6 7 a4 0).bind fun u7 => some u7
  else if a1 = 5 then (f_C_writeOr σ a2 a3).bind fun u8 => some u8
  else if a1 = 6 then (f_C_put σ 9 3 0).bind fun u9 => (f_C_putCall u9 a2).bind fun u10 => (f_C_put u10 10 0 0).bind fun u11 => some u11
  else if a1 = 7 then (f_C_put σ 9 4 0).bind fun u12 => (f_C_putCall u12 a2).bind fun u13 => (f_C_put u13 11 0 0).bind fun u14 => some u14
  else if a1 = 8 then (f_C_writeNot σ a2).bind fun u15 => some u15
  else if a1 = 9 then (f_C_writeMany σ a2 a3).bind fun u16 => some u16
  else if a1 = 10 then (f_C_writeChain σ a2 a3).bind fun u17 => some u17
  else if a1 = 11 then (f_C_put σ 5 a2 0).bind fun u18 => some u18
  else if a1 = 12 then (f_C_putCall σ a2).bind fun u19 => (f_C_put u19 13 a3 0).bind fun u20 => some u20
  else if a1 = 13 then (f_C_put σ 14 a2 0).bind fun u21 => some u21
  else (f_C_put σ 3 0 0).bind fun u22 => some u22
set_option maxHeartbeats 4000000 in
set_option maxRecDepth 100000 in
theorem c_C_writePiece (l : Launch) (dC : Nat → ClassId) (dI : Nat → Nat → Nat) (q : Nat → Nat) (cA : Nat → ClassId) (pt : Nat) (σ : MZ_) (a1 : Int32) (a2 : Int32) (a3 : Int32) (a4 : Int32) (u : MZ_) (h : f_C_writePiece σ a1 a2 a3 a4 = some u) : Met l y_C_writePiece w_C_writePiece rm_C_writePiece (va_Pc [.ref (q 14), .int a1, .int a2, .int a3, .int a4] (PX_ dC dI q cA pt σ)) (QW_ none (fun H => va_P (dC, dI) cls_ (wX q cA u) H) (AX q)) 0 0 (AX q) := by
  refine Met.ofW (cc := prog_2_method_9_code) (maxL := 5) (ret := none) (by decide) rfl ?_
  intro p e s m args below meth c s₁ B hml hv
  obtain ⟨rfl, hP, hK, hD, hN, hZ⟩ := hv
  have hx := B.exec
  have hb := B.bytes
  have hr := B.returns
  have hts : ∀ w ∈ AW_, w.before _ s = true := fun w h => atoms_spec (ws := w_C_writePiece) B.pre w (List.mem_cons_of_mem _ h)
  have hown : s.vm.findClass "StagedParsers$Code" = some m.cls := findClass_of_methodNamed B.named
  have hlocks := B.notSynchronized
  have hS : va_S (AX q) s.heap s.heap [] := va_S.rf
  have hl := lv_entry ([.ref (q 14), .int a1, .int a2, .int a3, .int a4]) (n := 5) (Nat.le_of_ble_eq_true rfl)
  rw [lg_entry_eq]
  generalize (lg_sl ([.ref (q 14), .int a1, .int a2, .int a3, .int a4]) ++ List.replicate (5 - (lg_sl ([.ref (q 14), .int a1, .int a2, .int a3, .int a4])).length) Slot.unset).toArray = ls at hl ⊢
  have hl : lv_has ls 5 [(0, .ref (q 14)), (1, .int a1), (2, .int a2), (3, .int a3), (4, .int a4)] := hl
  rw [f_C_writePiece] at h
  refine lv_iload_n hx hb d_C_writePiece_0 rfl (lv_at hl 1 rfl) ?_
  by_cases hc0 : a1 = 0
  · have h := if_t hc0 h
    refine sw_in (tgt := 72) hx hb d_C_writePiece_1 hc0 (by decide) (by decide) rfl rfl ?_
    refine lv_aload_n hx hb d_C_writePiece_72 rfl (lv_at hl 0 rfl) ?_
    refine lv_iconst (v := 1) hx hb d_C_writePiece_73 (by decide) ?_
    refine lv_iload_n hx hb d_C_writePiece_74 rfl (lv_at hl 2 rfl) ?_
    refine lv_iconst (v := 0) hx hb d_C_writePiece_75 (by decide) ?_
    obtain ⟨u1, hcl, h⟩ := bd_some h
    refine cx_wrv (va_runV (As := [.int 1, .int a2, .int 0]) (rest := []) ⟨hx, hb, hml, hown, hts⟩ (c_C_put l dC dI q cA pt σ 1 a2 0 _ hcl) (cw_C_31 hts ⟨Nat.le_of_ble_eq_true rfl, Nat.le_of_ble_eq_true rfl⟩) ⟨pxX_B, va_recv hK hP (ci := 3) (q0 := 14) rfl rfl, pxX_U hP hK hD hN hZ hS⟩ rfl rfl hl.1 rfl (lv_room (Nat.le_of_ble_eq_true rfl)) d_C_writePiece_76 ⟨Nat.zero_le _, Nat.zero_le _⟩) hS (fun _ h => h) (fun H locs hP hS => ?_)
    have hD : va_D (AX q) (wX q cA u1) := dd_re (wX_f _ _ _ _) hD
    refine lv_goto (tgt := 251) hx hb d_C_writePiece_79 rfl ?_
    obtain rfl := Option.some.inj h
    exact W.vret hx hb hr (fun t ht hW => ⟨rfl, by rw [ht]; exact hP, hS.F ht⟩) hS.2.2 d_C_writePiece_251
  have h := if_f hc0 h
  by_cases hc1 : a1 = 1
  · have h := if_t hc1 h
    refine sw_in (tgt := 82) hx hb d_C_writePiece_1 hc1 (by decide) (by decide) rfl rfl ?_
    refine lv_aload_n hx hb d_C_writePiece_82 rfl (lv_at hl 0 rfl) ?_
    refine lv_iconst (v := 2) hx hb d_C_writePiece_83 (by decide) ?_
    refine lv_iload_n hx hb d_C_writePiece_84 rfl (lv_at hl 2 rfl) ?_
    refine lv_iload_n hx hb d_C_writePiece_85 rfl (lv_at hl 2 rfl) ?_
    obtain ⟨u2, hcl, h⟩ := bd_some h
    refine cx_wrv (va_runV (As := [.int 2, .int a2, .int a2]) (rest := []) ⟨hx, hb, hml, hown, hts⟩ (c_C_put l dC dI q cA pt σ 2 a2 a2 _ hcl) (cw_C_31 hts ⟨Nat.le_of_ble_eq_true rfl, Nat.le_of_ble_eq_true rfl⟩) ⟨pxX_B, va_recv hK hP (ci := 3) (q0 := 14) rfl rfl, pxX_U hP hK hD hN hZ hS⟩ rfl rfl hl.1 rfl (lv_room (Nat.le_of_ble_eq_true rfl)) d_C_writePiece_86 ⟨Nat.zero_le _, Nat.zero_le _⟩) hS (fun _ h => h) (fun H locs hP hS => ?_)
    have hD : va_D (AX q) (wX q cA u2) := dd_re (wX_f _ _ _ _) hD
    refine lv_goto (tgt := 251) hx hb d_C_writePiece_89 rfl ?_
    obtain rfl := Option.some.inj h
    exact W.vret hx hb hr (fun t ht hW => ⟨rfl, by rw [ht]; exact hP, hS.F ht⟩) hS.2.2 d_C_writePiece_251
  have h := if_f hc1 h
  by_cases hc2 : a1 = 2
  · have h := if_t hc2 h
    refine sw_in (tgt := 92) hx hb d_C_writePiece_1 hc2 (by decide) (by decide) rfl rfl ?_
    refine lv_aload_n hx hb d_C_writePiece_92 rfl (lv_at hl 0 rfl) ?_
    refine lv_iconst (v := 2) hx hb d_C_writePiece_93 (by decide) ?_
    refine lv_iload_n hx hb d_C_writePiece_94 rfl (lv_at hl 2 rfl) ?_
    refine lv_iload_n hx hb d_C_writePiece_95 rfl (lv_at hl 3 rfl) ?_
    obtain ⟨u3, hcl, h⟩ := bd_some h
    refine cx_wrv (va_runV (As := [.int 2, .int a2, .int a3]) (rest := []) ⟨hx, hb, hml, hown, hts⟩ (c_C_put l dC dI q cA pt σ 2 a2 a3 _ hcl) (cw_C_31 hts ⟨Nat.le_of_ble_eq_true rfl, Nat.le_of_ble_eq_true rfl⟩) ⟨pxX_B, va_recv hK hP (ci := 3) (q0 := 14) rfl rfl, pxX_U hP hK hD hN hZ hS⟩ rfl rfl hl.1 rfl (lv_room (Nat.le_of_ble_eq_true rfl)) d_C_writePiece_96 ⟨Nat.zero_le _, Nat.zero_le _⟩) hS (fun _ h => h) (fun H locs hP hS => ?_)
    have hD : va_D (AX q) (wX q cA u3) := dd_re (wX_f _ _ _ _) hD
    refine lv_goto (tgt := 251) hx hb d_C_writePiece_99 rfl ?_
    obtain rfl := Option.some.inj h
    exact W.vret hx hb hr (fun t ht hW => ⟨rfl, by rw [ht]; exact hP, hS.F ht⟩) hS.2.2 d_C_writePiece_251
  have h := if_f hc2 h
  by_cases hc3 : a1 = 3
  · have h := if_t hc3 h
    refine sw_in (tgt := 244) hx hb d_C_writePiece_1 hc3 (by decide) (by decide) rfl rfl ?_
    refine lv_aload_n hx hb d_C_writePiece_244 rfl (lv_at hl 0 rfl) ?_
    refine lv_iconst (v := 3) hx hb d_C_writePiece_245 (by decide) ?_
    refine lv_iconst (v := 0) hx hb d_C_writePiece_246 (by decide) ?_
    refine lv_iconst (v := 0) hx hb d_C_writePiece_247 (by decide) ?_
    obtain ⟨u4, hcl, h⟩ := bd_some h
    refine cx_wrv (va_runV (As := [.int 3, .int 0, .int 0]) (rest := []) ⟨hx, hb, hml, hown, hts⟩ (c_C_put l dC dI q cA pt σ 3 0 0 _ hcl) (cw_C_31 hts ⟨Nat.le_of_ble_eq_true rfl, Nat.le_of_ble_eq_true rfl⟩) ⟨pxX_B, va_recv hK hP (ci := 3) (q0 := 14) rfl rfl, pxX_U hP hK hD hN hZ hS⟩ rfl rfl hl.1 rfl (lv_room (Nat.le_of_ble_eq_true rfl)) d_C_writePiece_248 ⟨Nat.zero_le _, Nat.zero_le _⟩) hS (fun _ h => h) (fun H locs hP hS => ?_)
    have hD : va_D (AX q) (wX q cA u4) := dd_re (wX_f _ _ _ _) hD
    obtain rfl := Option.some.inj h
    exact W.vret hx hb hr (fun t ht hW => ⟨rfl, by rw [ht]; exact hP, hS.F ht⟩) hS.2.2 d_C_writePiece_251
  have h := if_f hc3 h
  by_cases hc4 : a1 = 4
  · have h := if_t hc4 h
    refine sw_in (tgt := 102) hx hb d_C_writePiece_1 hc4 (by decide) (by decide) rfl rfl ?_
    refine lv_aload_n hx hb d_C_writePiece_102 rfl (lv_at hl 0 rfl) ?_
    refine lv_iload_n hx hb d_C_writePiece_103 rfl (lv_at hl 2 rfl) ?_
    obtain ⟨u5, hcl, h⟩ := bd_some h
    refine cx_wrv (va_runV (As := [.int a2]) (rest := []) ⟨hx, hb, hml, hown, hts⟩ (c_C_putCall l dC dI q cA pt σ a2 _ hcl) (cw_C_69 hts ⟨Nat.le_of_ble_eq_true rfl, Nat.le_of_ble_eq_true rfl⟩) ⟨pxX_B, va_recv hK hP (ci := 3) (q0 := 14) rfl rfl, pxX_U hP hK hD hN hZ hS⟩ rfl rfl hl.1 rfl (lv_room (Nat.le_of_ble_eq_true rfl)) d_C_writePiece_104 ⟨Nat.zero_le _, Nat.zero_le _⟩) hS (fun _ h => h) (fun H locs hP hS => ?_)
    have hD : va_D (AX q) (wX q cA u5) := dd_re (wX_f _ _ _ _) hD
    refine lv_aload_n hx hb d_C_writePiece_107 rfl (lv_at hl 0 rfl) ?_
    refine lv_iload_n hx hb d_C_writePiece_108 rfl (lv_at hl 3 rfl) ?_
    obtain ⟨u6, hcl, h⟩ := bd_some h
    refine cx_wrv (va_runV (As := [.int a3]) (rest := []) ⟨hx, hb, hml, hown, hts⟩ (c_C_putCall l dC dI q cA pt u5 a3 _ hcl) (cw_C_69 hts ⟨Nat.le_of_ble_eq_true rfl, Nat.le_of_ble_eq_true rfl⟩) ⟨pxX_B, va_recv hK hP (ci := 3) (q0 := 14) rfl rfl, pxX_U hP hK hD hN hZ hS⟩ rfl rfl hl.1 rfl (lv_room (Nat.le_of_ble_eq_true rfl)) d_C_writePiece_109 ⟨Nat.zero_le _, Nat.zero_le _⟩) hS (fun _ h => h) (fun H locs hP hS => ?_)
    have hD : va_D (AX q) (wX q cA u6) := dd_re (wX_f _ _ _ _) hD
    refine lv_aload_n hx hb d_C_writePiece_112 rfl (lv_at hl 0 rfl) ?_
    refine lv_bipush (v := 7) hx hb d_C_writePiece_113 (by decide) ?_
    refine lv_iload hx hb d_C_writePiece_115 (lv_at hl 4 rfl) ?_
    refine lv_iconst (v := 0) hx hb d_C_writePiece_117 (by decide) ?_
    obtain ⟨u7, hcl, h⟩ := bd_some h
    refine cx_wrv (va_runV (As := [.int 7, .int a4, .int 0]) (rest := []) ⟨hx, hb, hml, hown, hts⟩ (c_C_put l dC dI q cA pt u6 7 a4 0 _ hcl) (cw_C_31 hts ⟨Nat.le_of_ble_eq_true rfl, Nat.le_of_ble_eq_true rfl⟩) ⟨pxX_B, va_recv hK hP (ci := 3) (q0 := 14) rfl rfl, pxX_U hP hK hD hN hZ hS⟩ rfl rfl hl.1 rfl (lv_room (Nat.le_of_ble_eq_true rfl)) d_C_writePiece_118 ⟨Nat.zero_le _, Nat.zero_le _⟩) hS (fun _ h => h) (fun H locs hP hS => ?_)
    have hD : va_D (AX q) (wX q cA u7) := dd_re (wX_f _ _ _ _) hD
    refine lv_goto (tgt := 251) hx hb d_C_writePiece_121 rfl ?_
    obtain rfl := Option.some.inj h
    exact W.vret hx hb hr (fun t ht hW => ⟨rfl, by rw [ht]; exact hP, hS.F ht⟩) hS.2.2 d_C_writePiece_251
  have h := if_f hc4 h
  by_cases hc5 : a1 = 5
  · have h := if_t hc5 h
    refine sw_in (tgt := 124) hx hb d_C_writePiece_1 hc5 (by decide) (by decide) rfl rfl ?_
    refine lv_aload_n hx hb d_C_writePiece_124 rfl (lv_at hl 0 rfl) ?_
    refine lv_iload_n hx hb d_C_writePiece_125 rfl (lv_at hl 2 rfl) ?_
    refine lv_iload_n hx hb d_C_writePiece_126 rfl (lv_at hl 3 rfl) ?_
    obtain ⟨u8, hcl, h⟩ := bd_some h
    refine cx_wrv (va_runV (As := [.int a2, .int a3]) (rest := []) ⟨hx, hb, hml, hown, hts⟩ (c_C_writeOr l dC dI q cA pt σ a2 a3 _ hcl) (cw_C_73 hts ⟨Nat.le_of_ble_eq_true rfl, Nat.le_of_ble_eq_true rfl⟩) ⟨pxX_B, va_recv hK hP (ci := 3) (q0 := 14) rfl rfl, pxX_U hP hK hD hN hZ hS⟩ rfl rfl hl.1 rfl (lv_room (Nat.le_of_ble_eq_true rfl)) d_C_writePiece_127 ⟨Nat.zero_le _, Nat.zero_le _⟩) hS (fun _ h => h) (fun H locs hP hS => ?_)
    have hD : va_D (AX q) (wX q cA u8) := dd_re (wX_f _ _ _ _) hD
    refine lv_goto (tgt := 251) hx hb d_C_writePiece_130 rfl ?_
    obtain rfl := Option.some.inj h
    exact W.vret hx hb hr (fun t ht hW => ⟨rfl, by rw [ht]; exact hP, hS.F ht⟩) hS.2.2 d_C_writePiece_251
  have h := if_f hc5 h
  by_cases hc6 : a1 = 6
  · have h := if_t hc6 h
    refine sw_in (tgt := 133) hx hb d_C_writePiece_1 hc6 (by decide) (by decide) rfl rfl ?_
    refine lv_aload_n hx hb d_C_writePiece_133 rfl (lv_at hl 0 rfl) ?_
    refine lv_bipush (v := 9) hx hb d_C_writePiece_134 (by decide) ?_
    refine lv_iconst (v := 3) hx hb d_C_writePiece_136 (by decide) ?_
    refine lv_iconst (v := 0) hx hb d_C_writePiece_137 (by decide) ?_
    obtain ⟨u9, hcl, h⟩ := bd_some h
    refine cx_wrv (va_runV (As := [.int 9, .int 3, .int 0]) (rest := []) ⟨hx, hb, hml, hown, hts⟩ (c_C_put l dC dI q cA pt σ 9 3 0 _ hcl) (cw_C_31 hts ⟨Nat.le_of_ble_eq_true rfl, Nat.le_of_ble_eq_true rfl⟩) ⟨pxX_B, va_recv hK hP (ci := 3) (q0 := 14) rfl rfl, pxX_U hP hK hD hN hZ hS⟩ rfl rfl hl.1 rfl (lv_room (Nat.le_of_ble_eq_true rfl)) d_C_writePiece_138 ⟨Nat.zero_le _, Nat.zero_le _⟩) hS (fun _ h => h) (fun H locs hP hS => ?_)
    have hD : va_D (AX q) (wX q cA u9) := dd_re (wX_f _ _ _ _) hD
    refine lv_aload_n hx hb d_C_writePiece_141 rfl (lv_at hl 0 rfl) ?_
    refine lv_iload_n hx hb d_C_writePiece_142 rfl (lv_at hl 2 rfl) ?_
    obtain ⟨u10, hcl, h⟩ := bd_some h
    refine cx_wrv (va_runV (As := [.int a2]) (rest := []) ⟨hx, hb, hml, hown, hts⟩ (c_C_putCall l dC dI q cA pt u9 a2 _ hcl) (cw_C_69 hts ⟨Nat.le_of_ble_eq_true rfl, Nat.le_of_ble_eq_true rfl⟩) ⟨pxX_B, va_recv hK hP (ci := 3) (q0 := 14) rfl rfl, pxX_U hP hK hD hN hZ hS⟩ rfl rfl hl.1 rfl (lv_room (Nat.le_of_ble_eq_true rfl)) d_C_writePiece_143 ⟨Nat.zero_le _, Nat.zero_le _⟩) hS (fun _ h => h) (fun H locs hP hS => ?_)
    have hD : va_D (AX q) (wX q cA u10) := dd_re (wX_f _ _ _ _) hD
    refine lv_aload_n hx hb d_C_writePiece_146 rfl (lv_at hl 0 rfl) ?_
    refine lv_bipush (v := 10) hx hb d_C_writePiece_147 (by decide) ?_
    refine lv_iconst (v := 0) hx hb d_C_writePiece_149 (by decide) ?_
    refine lv_iconst (v := 0) hx hb d_C_writePiece_150 (by decide) ?_
    obtain ⟨u11, hcl, h⟩ := bd_some h
    refine cx_wrv (va_runV (As := [.int 10, .int 0, .int 0]) (rest := []) ⟨hx, hb, hml, hown, hts⟩ (c_C_put l dC dI q cA pt u10 10 0 0 _ hcl) (cw_C_31 hts ⟨Nat.le_of_ble_eq_true rfl, Nat.le_of_ble_eq_true rfl⟩) ⟨pxX_B, va_recv hK hP (ci := 3) (q0 := 14) rfl rfl, pxX_U hP hK hD hN hZ hS⟩ rfl rfl hl.1 rfl (lv_room (Nat.le_of_ble_eq_true rfl)) d_C_writePiece_151 ⟨Nat.zero_le _, Nat.zero_le _⟩) hS (fun _ h => h) (fun H locs hP hS => ?_)
    have hD : va_D (AX q) (wX q cA u11) := dd_re (wX_f _ _ _ _) hD
    refine lv_goto (tgt := 251) hx hb d_C_writePiece_154 rfl ?_
    obtain rfl := Option.some.inj h
    exact W.vret hx hb hr (fun t ht hW => ⟨rfl, by rw [ht]; exact hP, hS.F ht⟩) hS.2.2 d_C_writePiece_251
  have h := if_f hc6 h
  by_cases hc7 : a1 = 7
  · have h := if_t hc7 h
    refine sw_in (tgt := 157) hx hb d_C_writePiece_1 hc7 (by decide) (by decide) rfl rfl ?_
    refine lv_aload_n hx hb d_C_writePiece_157 rfl (lv_at hl 0 rfl) ?_
    refine lv_bipush (v := 9) hx hb d_C_writePiece_158 (by decide) ?_
    refine lv_iconst (v := 4) hx hb d_C_writePiece_160 (by decide) ?_
    refine lv_iconst (v := 0) hx hb d_C_writePiece_161 (by decide) ?_
    obtain ⟨u12, hcl, h⟩ := bd_some h
    refine cx_wrv (va_runV (As := [.int 9, .int 4, .int 0]) (rest := []) ⟨hx, hb, hml, hown, hts⟩ (c_C_put l dC dI q cA pt σ 9 4 0 _ hcl) (cw_C_31 hts ⟨Nat.le_of_ble_eq_true rfl, Nat.le_of_ble_eq_true rfl⟩) ⟨pxX_B, va_recv hK hP (ci := 3) (q0 := 14) rfl rfl, pxX_U hP hK hD hN hZ hS⟩ rfl rfl hl.1 rfl (lv_room (Nat.le_of_ble_eq_true rfl)) d_C_writePiece_162 ⟨Nat.zero_le _, Nat.zero_le _⟩) hS (fun _ h => h) (fun H locs hP hS => ?_)
    have hD : va_D (AX q) (wX q cA u12) := dd_re (wX_f _ _ _ _) hD
    refine lv_aload_n hx hb d_C_writePiece_165 rfl (lv_at hl 0 rfl) ?_
    refine lv_iload_n hx hb d_C_writePiece_166 rfl (lv_at hl 2 rfl) ?_
    obtain ⟨u13, hcl, h⟩ := bd_some h
    refine cx_wrv (va_runV (As := [.int a2]) (rest := []) ⟨hx, hb, hml, hown, hts⟩ (c_C_putCall l dC dI q cA pt u12 a2 _ hcl) (cw_C_69 hts ⟨Nat.le_of_ble_eq_true rfl, Nat.le_of_ble_eq_true rfl⟩) ⟨pxX_B, va_recv hK hP (ci := 3) (q0 := 14) rfl rfl, pxX_U hP hK hD hN hZ hS⟩ rfl rfl hl.1 rfl (lv_room (Nat.le_of_ble_eq_true rfl)) d_C_writePiece_167 ⟨Nat.zero_le _, Nat.zero_le _⟩) hS (fun _ h => h) (fun H locs hP hS => ?_)
    have hD : va_D (AX q) (wX q cA u13) := dd_re (wX_f _ _ _ _) hD
    refine lv_aload_n hx hb d_C_writePiece_170 rfl (lv_at hl 0 rfl) ?_
    refine lv_bipush (v := 11) hx hb d_C_writePiece_171 (by decide) ?_
    refine lv_iconst (v := 0) hx hb d_C_writePiece_173 (by decide) ?_
    refine lv_iconst (v := 0) hx hb d_C_writePiece_174 (by decide) ?_
    obtain ⟨u14, hcl, h⟩ := bd_some h
    refine cx_wrv (va_runV (As := [.int 11, .int 0, .int 0]) (rest := []) ⟨hx, hb, hml, hown, hts⟩ (c_C_put l dC dI q cA pt u13 11 0 0 _ hcl) (cw_C_31 hts ⟨Nat.le_of_ble_eq_true rfl, Nat.le_of_ble_eq_true rfl⟩) ⟨pxX_B, va_recv hK hP (ci := 3) (q0 := 14) rfl rfl, pxX_U hP hK hD hN hZ hS⟩ rfl rfl hl.1 rfl (lv_room (Nat.le_of_ble_eq_true rfl)) d_C_writePiece_175 ⟨Nat.zero_le _, Nat.zero_le _⟩) hS (fun _ h => h) (fun H locs hP hS => ?_)
    have hD : va_D (AX q) (wX q cA u14) := dd_re (wX_f _ _ _ _) hD
    refine lv_goto (tgt := 251) hx hb d_C_writePiece_178 rfl ?_
    obtain rfl := Option.some.inj h
    exact W.vret hx hb hr (fun t ht hW => ⟨rfl, by rw [ht]; exact hP, hS.F ht⟩) hS.2.2 d_C_writePiece_251
  have h := if_f hc7 h
  by_cases hc8 : a1 = 8
  · have h := if_t hc8 h
    refine sw_in (tgt := 181) hx hb d_C_writePiece_1 hc8 (by decide) (by decide) rfl rfl ?_
    refine lv_aload_n hx hb d_C_writePiece_181 rfl (lv_at hl 0 rfl) ?_
    refine lv_iload_n hx hb d_C_writePiece_182 rfl (lv_at hl 2 rfl) ?_
    obtain ⟨u15, hcl, h⟩ := bd_some h
    refine cx_wrv (va_runV (As := [.int a2]) (rest := []) ⟨hx, hb, hml, hown, hts⟩ (c_C_writeNot l dC dI q cA pt σ a2 _ hcl) (cw_C_77 hts ⟨Nat.le_of_ble_eq_true rfl, Nat.le_of_ble_eq_true rfl⟩) ⟨pxX_B, va_recv hK hP (ci := 3) (q0 := 14) rfl rfl, pxX_U hP hK hD hN hZ hS⟩ rfl rfl hl.1 rfl (lv_room (Nat.le_of_ble_eq_true rfl)) d_C_writePiece_183 ⟨Nat.zero_le _, Nat.zero_le _⟩) hS (fun _ h => h) (fun H locs hP hS => ?_)
    have hD : va_D (AX q) (wX q cA u15) := dd_re (wX_f _ _ _ _) hD
    refine lv_goto (tgt := 251) hx hb d_C_writePiece_186 rfl ?_
    obtain rfl := Option.some.inj h
    exact W.vret hx hb hr (fun t ht hW => ⟨rfl, by rw [ht]; exact hP, hS.F ht⟩) hS.2.2 d_C_writePiece_251
  have h := if_f hc8 h
  by_cases hc9 : a1 = 9
  · have h := if_t hc9 h
    refine sw_in (tgt := 189) hx hb d_C_writePiece_1 hc9 (by decide) (by decide) rfl rfl ?_
    refine lv_aload_n hx hb d_C_writePiece_189 rfl (lv_at hl 0 rfl) ?_
    refine lv_iload_n hx hb d_C_writePiece_190 rfl (lv_at hl 2 rfl) ?_
    refine lv_iload_n hx hb d_C_writePiece_191 rfl (lv_at hl 3 rfl) ?_
    obtain ⟨u16, hcl, h⟩ := bd_some h
    refine cx_wrv (va_runV (As := [.int a2, .int a3]) (rest := []) ⟨hx, hb, hml, hown, hts⟩ (c_C_writeMany l dC dI q cA pt σ a2 a3 _ hcl) (cw_C_80 hts ⟨Nat.le_of_ble_eq_true rfl, Nat.le_of_ble_eq_true rfl⟩) ⟨pxX_B, va_recv hK hP (ci := 3) (q0 := 14) rfl rfl, pxX_U hP hK hD hN hZ hS⟩ rfl rfl hl.1 rfl (lv_room (Nat.le_of_ble_eq_true rfl)) d_C_writePiece_192 ⟨Nat.zero_le _, Nat.zero_le _⟩) hS (fun _ h => h) (fun H locs hP hS => ?_)
    have hD : va_D (AX q) (wX q cA u16) := dd_re (wX_f _ _ _ _) hD
    refine lv_goto (tgt := 251) hx hb d_C_writePiece_195 rfl ?_
    obtain rfl := Option.some.inj h
    exact W.vret hx hb hr (fun t ht hW => ⟨rfl, by rw [ht]; exact hP, hS.F ht⟩) hS.2.2 d_C_writePiece_251
  have h := if_f hc9 h
  by_cases hc10 : a1 = 10
  · have h := if_t hc10 h
    refine sw_in (tgt := 198) hx hb d_C_writePiece_1 hc10 (by decide) (by decide) rfl rfl ?_
    refine lv_aload_n hx hb d_C_writePiece_198 rfl (lv_at hl 0 rfl) ?_
    refine lv_iload_n hx hb d_C_writePiece_199 rfl (lv_at hl 2 rfl) ?_
    refine lv_iload_n hx hb d_C_writePiece_200 rfl (lv_at hl 3 rfl) ?_
    obtain ⟨u17, hcl, h⟩ := bd_some h
    refine cx_wrv (va_runV (As := [.int a2, .int a3]) (rest := []) ⟨hx, hb, hml, hown, hts⟩ (c_C_writeChain l dC dI q cA pt σ a2 a3 _ hcl) (cw_C_83 hts ⟨Nat.le_of_ble_eq_true rfl, Nat.le_of_ble_eq_true rfl⟩) ⟨pxX_B, va_recv hK hP (ci := 3) (q0 := 14) rfl rfl, pxX_U hP hK hD hN hZ hS⟩ rfl rfl hl.1 rfl (lv_room (Nat.le_of_ble_eq_true rfl)) d_C_writePiece_201 ⟨Nat.zero_le _, Nat.zero_le _⟩) hS (fun _ h => h) (fun H locs hP hS => ?_)
    have hD : va_D (AX q) (wX q cA u17) := dd_re (wX_f _ _ _ _) hD
    refine lv_goto (tgt := 251) hx hb d_C_writePiece_204 rfl ?_
    obtain rfl := Option.some.inj h
    exact W.vret hx hb hr (fun t ht hW => ⟨rfl, by rw [ht]; exact hP, hS.F ht⟩) hS.2.2 d_C_writePiece_251
  have h := if_f hc10 h
  by_cases hc11 : a1 = 11
  · have h := if_t hc11 h
    refine sw_in (tgt := 207) hx hb d_C_writePiece_1 hc11 (by decide) (by decide) rfl rfl ?_
    refine lv_aload_n hx hb d_C_writePiece_207 rfl (lv_at hl 0 rfl) ?_
    refine lv_iconst (v := 5) hx hb d_C_writePiece_208 (by decide) ?_
    refine lv_iload_n hx hb d_C_writePiece_209 rfl (lv_at hl 2 rfl) ?_
    refine lv_iconst (v := 0) hx hb d_C_writePiece_210 (by decide) ?_
    obtain ⟨u18, hcl, h⟩ := bd_some h
    refine cx_wrv (va_runV (As := [.int 5, .int a2, .int 0]) (rest := []) ⟨hx, hb, hml, hown, hts⟩ (c_C_put l dC dI q cA pt σ 5 a2 0 _ hcl) (cw_C_31 hts ⟨Nat.le_of_ble_eq_true rfl, Nat.le_of_ble_eq_true rfl⟩) ⟨pxX_B, va_recv hK hP (ci := 3) (q0 := 14) rfl rfl, pxX_U hP hK hD hN hZ hS⟩ rfl rfl hl.1 rfl (lv_room (Nat.le_of_ble_eq_true rfl)) d_C_writePiece_211 ⟨Nat.zero_le _, Nat.zero_le _⟩) hS (fun _ h => h) (fun H locs hP hS => ?_)
    have hD : va_D (AX q) (wX q cA u18) := dd_re (wX_f _ _ _ _) hD
    refine lv_goto (tgt := 251) hx hb d_C_writePiece_214 rfl ?_
    obtain rfl := Option.some.inj h
    exact W.vret hx hb hr (fun t ht hW => ⟨rfl, by rw [ht]; exact hP, hS.F ht⟩) hS.2.2 d_C_writePiece_251
  have h := if_f hc11 h
  by_cases hc12 : a1 = 12
  · have h := if_t hc12 h
    refine sw_in (tgt := 217) hx hb d_C_writePiece_1 hc12 (by decide) (by decide) rfl rfl ?_
    refine lv_aload_n hx hb d_C_writePiece_217 rfl (lv_at hl 0 rfl) ?_
    refine lv_iload_n hx hb d_C_writePiece_218 rfl (lv_at hl 2 rfl) ?_
    obtain ⟨u19, hcl, h⟩ := bd_some h
    refine cx_wrv (va_runV (As := [.int a2]) (rest := []) ⟨hx, hb, hml, hown, hts⟩ (c_C_putCall l dC dI q cA pt σ a2 _ hcl) (cw_C_69 hts ⟨Nat.le_of_ble_eq_true rfl, Nat.le_of_ble_eq_true rfl⟩) ⟨pxX_B, va_recv hK hP (ci := 3) (q0 := 14) rfl rfl, pxX_U hP hK hD hN hZ hS⟩ rfl rfl hl.1 rfl (lv_room (Nat.le_of_ble_eq_true rfl)) d_C_writePiece_219 ⟨Nat.zero_le _, Nat.zero_le _⟩) hS (fun _ h => h) (fun H locs hP hS => ?_)
    have hD : va_D (AX q) (wX q cA u19) := dd_re (wX_f _ _ _ _) hD
    refine lv_aload_n hx hb d_C_writePiece_222 rfl (lv_at hl 0 rfl) ?_
    refine lv_bipush (v := 13) hx hb d_C_writePiece_223 (by decide) ?_
    refine lv_iload_n hx hb d_C_writePiece_225 rfl (lv_at hl 3 rfl) ?_
    refine lv_iconst (v := 0) hx hb d_C_writePiece_226 (by decide) ?_
    obtain ⟨u20, hcl, h⟩ := bd_some h
    refine cx_wrv (va_runV (As := [.int 13, .int a3, .int 0]) (rest := []) ⟨hx, hb, hml, hown, hts⟩ (c_C_put l dC dI q cA pt u19 13 a3 0 _ hcl) (cw_C_31 hts ⟨Nat.le_of_ble_eq_true rfl, Nat.le_of_ble_eq_true rfl⟩) ⟨pxX_B, va_recv hK hP (ci := 3) (q0 := 14) rfl rfl, pxX_U hP hK hD hN hZ hS⟩ rfl rfl hl.1 rfl (lv_room (Nat.le_of_ble_eq_true rfl)) d_C_writePiece_227 ⟨Nat.zero_le _, Nat.zero_le _⟩) hS (fun _ h => h) (fun H locs hP hS => ?_)
    have hD : va_D (AX q) (wX q cA u20) := dd_re (wX_f _ _ _ _) hD
    refine lv_goto (tgt := 251) hx hb d_C_writePiece_230 rfl ?_
    obtain rfl := Option.some.inj h
    exact W.vret hx hb hr (fun t ht hW => ⟨rfl, by rw [ht]; exact hP, hS.F ht⟩) hS.2.2 d_C_writePiece_251
  have h := if_f hc12 h
  by_cases hc13 : a1 = 13
  · have h := if_t hc13 h
    refine sw_in (tgt := 233) hx hb d_C_writePiece_1 hc13 (by decide) (by decide) rfl rfl ?_
    refine lv_aload_n hx hb d_C_writePiece_233 rfl (lv_at hl 0 rfl) ?_
    refine lv_bipush (v := 14) hx hb d_C_writePiece_234 (by decide) ?_
    refine lv_iload_n hx hb d_C_writePiece_236 rfl (lv_at hl 2 rfl) ?_
    refine lv_iconst (v := 0) hx hb d_C_writePiece_237 (by decide) ?_
    obtain ⟨u21, hcl, h⟩ := bd_some h
    refine cx_wrv (va_runV (As := [.int 14, .int a2, .int 0]) (rest := []) ⟨hx, hb, hml, hown, hts⟩ (c_C_put l dC dI q cA pt σ 14 a2 0 _ hcl) (cw_C_31 hts ⟨Nat.le_of_ble_eq_true rfl, Nat.le_of_ble_eq_true rfl⟩) ⟨pxX_B, va_recv hK hP (ci := 3) (q0 := 14) rfl rfl, pxX_U hP hK hD hN hZ hS⟩ rfl rfl hl.1 rfl (lv_room (Nat.le_of_ble_eq_true rfl)) d_C_writePiece_238 ⟨Nat.zero_le _, Nat.zero_le _⟩) hS (fun _ h => h) (fun H locs hP hS => ?_)
    have hD : va_D (AX q) (wX q cA u21) := dd_re (wX_f _ _ _ _) hD
    refine lv_goto (tgt := 251) hx hb d_C_writePiece_241 rfl ?_
    obtain rfl := Option.some.inj h
    exact W.vret hx hb hr (fun t ht hW => ⟨rfl, by rw [ht]; exact hP, hS.F ht⟩) hS.2.2 d_C_writePiece_251
  have h := if_f hc13 h
  refine lv_tableOut (tgt := 244) hx hb d_C_writePiece_1 (by have q0 := lv_neT hc0 (a := 0) (by decide); have q1 := lv_neT hc1 (a := 1) (by decide); have q2 := lv_neT hc2 (a := 2) (by decide); have q3 := lv_neT hc3 (a := 3) (by decide); have q4 := lv_neT hc4 (a := 4) (by decide); have q5 := lv_neT hc5 (a := 5) (by decide); have q6 := lv_neT hc6 (a := 6) (by decide); have q7 := lv_neT hc7 (a := 7) (by decide); have q8 := lv_neT hc8 (a := 8) (by decide); have q9 := lv_neT hc9 (a := 9) (by decide); have q10 := lv_neT hc10 (a := 10) (by decide); have q11 := lv_neT hc11 (a := 11) (by decide); have q12 := lv_neT hc12 (a := 12) (by decide); have q13 := lv_neT hc13 (a := 13) (by decide); omega) rfl ?_
  refine lv_aload_n hx hb d_C_writePiece_244 rfl (lv_at hl 0 rfl) ?_
  refine lv_iconst (v := 3) hx hb d_C_writePiece_245 (by decide) ?_
  refine lv_iconst (v := 0) hx hb d_C_writePiece_246 (by decide) ?_
  refine lv_iconst (v := 0) hx hb d_C_writePiece_247 (by decide) ?_
  obtain ⟨u22, hcl, h⟩ := bd_some h
  refine cx_wrv (va_runV (As := [.int 3, .int 0, .int 0]) (rest := []) ⟨hx, hb, hml, hown, hts⟩ (c_C_put l dC dI q cA pt σ 3 0 0 _ hcl) (cw_C_31 hts ⟨Nat.le_of_ble_eq_true rfl, Nat.le_of_ble_eq_true rfl⟩) ⟨pxX_B, va_recv hK hP (ci := 3) (q0 := 14) rfl rfl, pxX_U hP hK hD hN hZ hS⟩ rfl rfl hl.1 rfl (lv_room (Nat.le_of_ble_eq_true rfl)) d_C_writePiece_248 ⟨Nat.zero_le _, Nat.zero_le _⟩) hS (fun _ h => h) (fun H locs hP hS => ?_)
  have hD : va_D (AX q) (wX q cA u22) := dd_re (wX_f _ _ _ _) hD
  obtain rfl := Option.some.inj h
  exact W.vret hx hb hr (fun t ht hW => ⟨rfl, by rw [ht]; exact hP, hS.F ht⟩) hS.2.2 d_C_writePiece_251
def y_C_write : MethodName := ⟨"StagedParsers$Code", "write", "(LStagedParsers$Grammar;LStagedParsers$Study;)V"⟩
def w_C_write : List Cond := .code y_C_write prog_2_method_6_code 4 none :: AW_
def rm_C_write : Room := { frames := 4, cells := 0, slots := 0, locals := 91 }
theorem d_C_write_0 : decode prog_2_method_6_code 0 = .ok (.aload_n 0, 1) := by decide +kernel
theorem d_C_write_1 : decode prog_2_method_6_code 1 = .ok (.iconst 0, 1) := by decide +kernel
theorem d_C_write_2 : decode prog_2_method_6_code 2 = .ok (.putfield 27, 3) := by decide +kernel
theorem d_C_write_5 : decode prog_2_method_6_code 5 = .ok (.aload_n 0, 1) := by decide +kernel
theorem d_C_write_6 : decode prog_2_method_6_code 6 = .ok (.iconst 0, 1) := by decide +kernel
theorem d_C_write_7 : decode prog_2_method_6_code 7 = .ok (.iconst 0, 1) := by decide +kernel
theorem d_C_write_8 : decode prog_2_method_6_code 8 = .ok (.iconst 0, 1) := by decide +kernel
theorem d_C_write_9 : decode prog_2_method_6_code 9 = .ok (.invokevirtual 31, 3) := by decide +kernel
theorem d_C_write_12 : decode prog_2_method_6_code 12 = .ok (.iconst 0, 1) := by decide +kernel
theorem d_C_write_13 : decode prog_2_method_6_code 13 = .ok (.istore_n 3, 1) := by decide +kernel
theorem d_C_write_14 : decode prog_2_method_6_code 14 = .ok (.iload_n 3, 1) := by decide +kernel
theorem d_C_write_15 : decode prog_2_method_6_code 15 = .ok (.aload_n 1, 1) := by decide +kernel
theorem d_C_write_16 : decode prog_2_method_6_code 16 = .ok (.invokevirtual 35, 3) := by decide +kernel
theorem d_C_write_19 : decode prog_2_method_6_code 19 = .ok (.if_icmp .ge 59, 3) := by decide +kernel
theorem d_C_write_22 : decode prog_2_method_6_code 22 = .ok (.aload_n 0, 1) := by decide +kernel
theorem d_C_write_23 : decode prog_2_method_6_code 23 = .ok (.getfield 21, 3) := by decide +kernel
theorem d_C_write_26 : decode prog_2_method_6_code 26 = .ok (.iload_n 3, 1) := by decide +kernel
theorem d_C_write_27 : decode prog_2_method_6_code 27 = .ok (.aload_n 0, 1) := by decide +kernel
theorem d_C_write_28 : decode prog_2_method_6_code 28 = .ok (.getfield 27, 3) := by decide +kernel
theorem d_C_write_31 : decode prog_2_method_6_code 31 = .ok (.iastore, 1) := by decide +kernel
theorem d_C_write_32 : decode prog_2_method_6_code 32 = .ok (.aload_n 2, 1) := by decide +kernel
theorem d_C_write_33 : decode prog_2_method_6_code 33 = .ok (.iload_n 3, 1) := by decide +kernel
theorem d_C_write_34 : decode prog_2_method_6_code 34 = .ok (.invokevirtual 40, 3) := by decide +kernel
theorem d_C_write_37 : decode prog_2_method_6_code 37 = .ok (.ifCond .eq 35, 3) := by decide +kernel
theorem d_C_write_40 : decode prog_2_method_6_code 40 = .ok (.aload_n 0, 1) := by decide +kernel
theorem d_C_write_41 : decode prog_2_method_6_code 41 = .ok (.aload_n 1, 1) := by decide +kernel
theorem d_C_write_42 : decode prog_2_method_6_code 42 = .ok (.iload_n 3, 1) := by decide +kernel
theorem d_C_write_43 : decode prog_2_method_6_code 43 = .ok (.invokevirtual 46, 3) := by decide +kernel
theorem d_C_write_46 : decode prog_2_method_6_code 46 = .ok (.aload_n 1, 1) := by decide +kernel
theorem d_C_write_47 : decode prog_2_method_6_code 47 = .ok (.iload_n 3, 1) := by decide +kernel
theorem d_C_write_48 : decode prog_2_method_6_code 48 = .ok (.invokevirtual 50, 3) := by decide +kernel
theorem d_C_write_51 : decode prog_2_method_6_code 51 = .ok (.aload_n 1, 1) := by decide +kernel
theorem d_C_write_52 : decode prog_2_method_6_code 52 = .ok (.iload_n 3, 1) := by decide +kernel
theorem d_C_write_53 : decode prog_2_method_6_code 53 = .ok (.invokevirtual 53, 3) := by decide +kernel
theorem d_C_write_56 : decode prog_2_method_6_code 56 = .ok (.aload_n 1, 1) := by decide +kernel
theorem d_C_write_57 : decode prog_2_method_6_code 57 = .ok (.iload_n 3, 1) := by decide +kernel
theorem d_C_write_58 : decode prog_2_method_6_code 58 = .ok (.invokevirtual 56, 3) := by decide +kernel
theorem d_C_write_61 : decode prog_2_method_6_code 61 = .ok (.invokevirtual 59, 3) := by decide +kernel
theorem d_C_write_64 : decode prog_2_method_6_code 64 = .ok (.aload_n 0, 1) := by decide +kernel
theorem d_C_write_65 : decode prog_2_method_6_code 65 = .ok (.bipush 6, 2) := by decide +kernel
theorem d_C_write_67 : decode prog_2_method_6_code 67 = .ok (.iconst 0, 1) := by decide +kernel
theorem d_C_write_68 : decode prog_2_method_6_code 68 = .ok (.iconst 0, 1) := by decide +kernel
theorem d_C_write_69 : decode prog_2_method_6_code 69 = .ok (.invokevirtual 31, 3) := by decide +kernel
theorem d_C_write_72 : decode prog_2_method_6_code 72 = .ok (.iinc 3 1, 3) := by decide +kernel
theorem d_C_write_75 : decode prog_2_method_6_code 75 = .ok (.goto (-61), 3) := by decide +kernel
theorem d_C_write_78 : decode prog_2_method_6_code 78 = .ok (.iconst 0, 1) := by decide +kernel
theorem d_C_write_79 : decode prog_2_method_6_code 79 = .ok (.istore_n 3, 1) := by decide +kernel
theorem d_C_write_80 : decode prog_2_method_6_code 80 = .ok (.iload_n 3, 1) := by decide +kernel
theorem d_C_write_81 : decode prog_2_method_6_code 81 = .ok (.bipush 6, 2) := by decide +kernel
theorem d_C_write_83 : decode prog_2_method_6_code 83 = .ok (.if_icmp .ge 24, 3) := by decide +kernel
theorem d_C_write_86 : decode prog_2_method_6_code 86 = .ok (.aload_n 0, 1) := by decide +kernel
theorem d_C_write_87 : decode prog_2_method_6_code 87 = .ok (.getfield 24, 3) := by decide +kernel
theorem d_C_write_90 : decode prog_2_method_6_code 90 = .ok (.iload_n 3, 1) := by decide +kernel
theorem d_C_write_91 : decode prog_2_method_6_code 91 = .ok (.aload_n 0, 1) := by decide +kernel
theorem d_C_write_92 : decode prog_2_method_6_code 92 = .ok (.aload_n 1, 1) := by decide +kernel
theorem d_C_write_93 : decode prog_2_method_6_code 93 = .ok (.iload_n 3, 1) := by decide +kernel
theorem d_C_write_94 : decode prog_2_method_6_code 94 = .ok (.invokevirtual 63, 3) := by decide +kernel
theorem d_C_write_97 : decode prog_2_method_6_code 97 = .ok (.invokevirtual 66, 3) := by decide +kernel
theorem d_C_write_100 : decode prog_2_method_6_code 100 = .ok (.iastore, 1) := by decide +kernel
theorem d_C_write_101 : decode prog_2_method_6_code 101 = .ok (.iinc 3 1, 3) := by decide +kernel
theorem d_C_write_104 : decode prog_2_method_6_code 104 = .ok (.goto (-24), 3) := by decide +kernel
theorem d_C_write_107 : decode prog_2_method_6_code 107 = .ok (.return_, 1) := by decide +kernel
section RW
variable {p : Program} {l : Launch} {e : Env} {R : Room} {s : State} {m : MethodId} {args : Array Value} {below : List Frame} {meth : Method} {c : Code} {H : Heap} {locs : List Loc} {cells slots : Nat} {Q : State → Prop}
variable {cc : ByteArray} {pc : Nat} {ls : Array Slot} {rest : List Value} {dC : Nat → ClassId} {dI : Nat → Nat → Nat} {q : Nat → Nat} {cA : Nat → ClassId} {σ : MZ_} {H0 : Heap} {A : Nat → Prop}

theorem cw_C_35 (hts : ∀ w ∈ AW_, w.before args s = true) (hR : rm_G_size.frames + 1 ≤ R.frames ∧ 8 + (1 + 11) + rm_G_size.locals ≤ R.locals) : CallW R s args "StagedParsers$Code" "StagedParsers$Grammar" 35 y_G_size prog_4_method_2_code 1 (some .int) w_G_size rm_G_size 0 0 0 :=
  ⟨callB_of 0 hts (aw_in kw_248) rfl rfl rfl (hts _ kw_2) (hts _ kw_316) ⟨by decide, by decide, by decide +kernel⟩ hR, hts _ kw_246, hts _ kw_247⟩
theorem cw_C_40 (hts : ∀ w ∈ AW_, w.before args s = true) (hR : rm_Y_isInBodies.frames + 1 ≤ R.frames ∧ 8 + (2 + 11) + rm_Y_isInBodies.locals ≤ R.locals) : CallW R s args "StagedParsers$Code" "StagedParsers$Study" 40 y_Y_isInBodies prog_6_method_5_code 2 (some .boolean) w_Y_isInBodies rm_Y_isInBodies 0 0 1 :=
  ⟨callB_of 1 hts (aw_in kw_320) rfl rfl rfl (hts _ kw_4) (hts _ kw_317) ⟨by decide, by decide, by decide +kernel⟩ hR, hts _ kw_318, hts _ kw_319⟩
theorem cw_C_46 (hts : ∀ w ∈ AW_, w.before args s = true) (hR : rm_G_kind.frames + 1 ≤ R.frames ∧ 8 + (2 + 11) + rm_G_kind.locals ≤ R.locals) : CallW R s args "StagedParsers$Code" "StagedParsers$Grammar" 46 y_G_kind prog_4_method_10_code 2 (some .int) w_G_kind rm_G_kind 0 0 1 :=
  ⟨callB_of 1 hts (aw_in kw_254) rfl rfl rfl (hts _ kw_2) (hts _ kw_321) ⟨by decide, by decide, by decide +kernel⟩ hR, hts _ kw_252, hts _ kw_253⟩
theorem cw_C_50 (hts : ∀ w ∈ AW_, w.before args s = true) (hR : rm_G_a.frames + 1 ≤ R.frames ∧ 8 + (2 + 11) + rm_G_a.locals ≤ R.locals) : CallW R s args "StagedParsers$Code" "StagedParsers$Grammar" 50 y_G_a prog_4_method_11_code 2 (some .int) w_G_a rm_G_a 0 0 1 :=
  ⟨callB_of 1 hts (aw_in kw_259) rfl rfl rfl (hts _ kw_2) (hts _ kw_322) ⟨by decide, by decide, by decide +kernel⟩ hR, hts _ kw_257, hts _ kw_258⟩
theorem cw_C_53 (hts : ∀ w ∈ AW_, w.before args s = true) (hR : rm_G_b.frames + 1 ≤ R.frames ∧ 8 + (2 + 11) + rm_G_b.locals ≤ R.locals) : CallW R s args "StagedParsers$Code" "StagedParsers$Grammar" 53 y_G_b prog_4_method_12_code 2 (some .int) w_G_b rm_G_b 0 0 1 :=
  ⟨callB_of 1 hts (aw_in kw_263) rfl rfl rfl (hts _ kw_2) (hts _ kw_323) ⟨by decide, by decide, by decide +kernel⟩ hR, hts _ kw_261, hts _ kw_262⟩
theorem cw_C_56 (hts : ∀ w ∈ AW_, w.before args s = true) (hR : rm_G_c.frames + 1 ≤ R.frames ∧ 8 + (2 + 11) + rm_G_c.locals ≤ R.locals) : CallW R s args "StagedParsers$Code" "StagedParsers$Grammar" 56 y_G_c prog_4_method_13_code 2 (some .int) w_G_c rm_G_c 0 0 1 :=
  ⟨callB_of 1 hts (aw_in kw_327) rfl rfl rfl (hts _ kw_2) (hts _ kw_324) ⟨by decide, by decide, by decide +kernel⟩ hR, hts _ kw_325, hts _ kw_326⟩
theorem cw_C_59 (hts : ∀ w ∈ AW_, w.before args s = true) (hR : rm_C_writePiece.frames + 1 ≤ R.frames ∧ 8 + (5 + 11) + rm_C_writePiece.locals ≤ R.locals) : CallW R s args "StagedParsers$Code" "StagedParsers$Code" 59 y_C_writePiece prog_2_method_9_code 5 none w_C_writePiece rm_C_writePiece 0 0 4 :=
  ⟨callB_of 4 hts (aw_in kw_331) rfl rfl rfl (hts _ kw_5) (hts _ kw_328) ⟨by decide, by decide, by decide +kernel⟩ hR, hts _ kw_330, hts _ ks_14⟩
theorem cw_C_63 (hts : ∀ w ∈ AW_, w.before args s = true) (hR : rm_G_body.frames + 1 ≤ R.frames ∧ 8 + (2 + 11) + rm_G_body.locals ≤ R.locals) : CallW R s args "StagedParsers$Code" "StagedParsers$Grammar" 63 y_G_body prog_4_method_7_code 2 (some .int) w_G_body rm_G_body 0 0 1 :=
  ⟨callB_of 1 hts (aw_in kw_232) rfl rfl rfl (hts _ kw_2) (hts _ kw_356) ⟨by decide, by decide, by decide +kernel⟩ hR, hts _ kw_230, hts _ kw_231⟩
end RW
def f_C_write_L80 : Nat → MZ_ → Int32 → Option (MZ_)
  | 0, _, _ => none
  | N + 1, σ, x3 => if 6 ≤ x3 then some σ
    else (f_G_body σ x3).bind fun r10 => (f_C_piece σ r10).bind fun r11 => gd_ x3 6 (st_ (va_up σ 19 (upd (σ 19) x3.toNatClampNeg r11)) fun σ3 => f_C_write_L80 N σ3 (x3 + 1))
def f_C_write_L14 : Nat → MZ_ → Int32 → Option (MZ_)
  | 0, _, _ => none
  | N + 1, σ, x3 => (f_G_size σ).bind fun r2 => if r2 ≤ x3 then f_C_write_L80 100 σ 0
    else gd_ x3 80 (st_ (va_up σ 18 (upd (σ 18) x3.toNatClampNeg (σ 32 0))) fun σ2 => (f_Y_isInBodies σ2 x3).bind fun r3 => if r3 = 0 then f_C_write_L14 N σ2 (x3 + 1)
    else (f_G_kind σ2 x3).bind fun r4 => (f_G_a σ2 x3).bind fun r5 => (f_G_b σ2 x3).bind fun r6 => (f_G_c σ2 x3).bind fun r7 => (f_C_writePiece σ2 r4 r5 r6 r7).bind fun u8 => (f_C_put u8 6 0 0).bind fun u9 => f_C_write_L14 N u9 (x3 + 1))
def f_C_write (σ : MZ_) : Option (MZ_) :=
  st_ (va_up σ 32 (fun _ => 0)) fun σ1 => (f_C_put σ1 0 0 0).bind fun u1 => f_C_write_L14 100 u1 0
set_option maxHeartbeats 4000000 in
set_option maxRecDepth 100000 in
theorem c_C_write (l : Launch) (dC : Nat → ClassId) (dI : Nat → Nat → Nat) (q : Nat → Nat) (cA : Nat → ClassId) (pt : Nat) (σ : MZ_) (u : MZ_) (h : f_C_write σ = some u) : Met l y_C_write w_C_write rm_C_write (va_Pc [.ref (q 14), .ref (q 1), .ref (q 8)] (PX_ dC dI q cA pt σ)) (QW_ none (fun H => va_P (dC, dI) cls_ (wX q cA u) H) (AX q)) 0 0 (AX q) := by
  refine Met.ofW (cc := prog_2_method_6_code) (maxL := 4) (ret := none) (by decide) rfl ?_
  intro p e s m args below meth c s₁ B hml hv
  obtain ⟨rfl, hP, hK, hD, hN, hZ⟩ := hv
  have hx := B.exec
  have hb := B.bytes
  have hr := B.returns
  have hts : ∀ w ∈ AW_, w.before _ s = true := fun w h => atoms_spec (ws := w_C_write) B.pre w (List.mem_cons_of_mem _ h)
  have hown : s.vm.findClass "StagedParsers$Code" = some m.cls := findClass_of_methodNamed B.named
  have hlocks := B.notSynchronized
  have hS : va_S (AX q) s.heap s.heap [] := va_S.rf
  have hl := lv_entry ([.ref (q 14), .ref (q 1), .ref (q 8)]) (n := 4) (Nat.le_of_ble_eq_true rfl)
  rw [lg_entry_eq]
  generalize (lg_sl ([.ref (q 14), .ref (q 1), .ref (q 8)]) ++ List.replicate (4 - (lg_sl ([.ref (q 14), .ref (q 1), .ref (q 8)])).length) Slot.unset).toArray = ls at hl ⊢
  have hl : lv_has ls 4 [(0, .ref (q 14)), (1, .ref (q 1)), (2, .ref (q 8))] := hl
  have L80 : ∀ (N80 : Nat) (σ : MZ_) (x3 : Int32), f_C_write_L80 N80 σ x3 = some u → ∀ (H : Heap) (locs : List Loc) (ls : Array Slot), va_P (dC, dI) cls_ (wX q cA σ) H → va_S (AX q) s.heap H locs → lv_has ls 4 [(0, .ref (q 14)), (1, .ref (q 1)), (2, .ref (q 8)), (3, .int x3)] → W p l e (headSpec w_C_write rm_C_write).room s m ([.ref (q 14), .ref (q 1), .ref (q 8)] : List Value).toArray below meth c H locs 0 0 (MQ below (QW_ none (fun H => va_P (dC, dI) cls_ (wX q cA u) H) (AX q)) ([.ref (q 14), .ref (q 1), .ref (q 8)] : List Value).toArray s 0 0 (AX q)) (F0 m 80 ls []) := by
    intro N80
    induction N80 with
    | zero => intro σ x3 h; cases h
    | succ N80 ih80 =>
      intro σ x3 h H locs ls hP hS hl
      have hD : va_D (AX q) (wX q cA σ) := dd_re (wX_f _ _ _ _) hD
      rw [f_C_write_L80] at h
      refine lv_iload_n hx hb d_C_write_80 rfl (lv_at hl 3 rfl) ?_
      refine lv_bipush (v := 6) hx hb d_C_write_81 (by decide) ?_
      refine lv_icmp_ge (tgt := 107) hx hb d_C_write_83 rfl (fun hc => ?_) (fun hc => ?_)
      · have h := if_t hc h
        obtain rfl := Option.some.inj h
        exact W.vret hx hb hr (fun t ht hW => ⟨rfl, by rw [ht]; exact hP, hS.F ht⟩) hS.2.2 d_C_write_107
      · have h := if_f hc h
        refine lv_aload_n hx hb d_C_write_86 rfl (lv_at hl 0 rfl) ?_
        refine gf_C_24 hx hb hts hown hK hP d_C_write_87 ?_
        refine lv_iload_n hx hb d_C_write_90 rfl (lv_at hl 3 rfl) ?_
        refine lv_aload_n hx hb d_C_write_91 rfl (lv_at hl 0 rfl) ?_
        refine lv_aload_n hx hb d_C_write_92 rfl (lv_at hl 1 rfl) ?_
        refine lv_iload_n hx hb d_C_write_93 rfl (lv_at hl 3 rfl) ?_
        obtain ⟨r10, hcl, h⟩ := bd_some h
        refine cx_read (va_runV (As := [.int x3]) (rest := [.ref (q 14), .int x3, .ref (q 19)]) ⟨hx, hb, hml, hown, hts⟩ (c_G_body l dC dI q cA pt σ x3 _ hcl) (cw_C_63 hts ⟨Nat.le_of_ble_eq_true rfl, Nat.le_of_ble_eq_true rfl⟩) ⟨pxX_B, va_recv hK hP (ci := 1) (q0 := 1) rfl rfl, pxX_U hP hK hD hN hZ hS⟩ rfl rfl hl.1 rfl (lv_room (Nat.le_of_ble_eq_true rfl)) d_C_write_94 ⟨Nat.zero_le _, Nat.zero_le _⟩) ?_
        obtain ⟨r11, hcl, h⟩ := bd_some h
        refine cx_read (va_runV (As := [.int r10]) (rest := [.int x3, .ref (q 19)]) ⟨hx, hb, hml, hown, hts⟩ (c_C_piece l dC dI q cA pt σ r10 _ hcl) (cw_C_66 hts ⟨Nat.le_of_ble_eq_true rfl, Nat.le_of_ble_eq_true rfl⟩) ⟨pxX_B, va_recv hK hP (ci := 3) (q0 := 14) rfl rfl, pxX_U hP hK hD hN hZ hS⟩ rfl rfl hl.1 rfl (lv_room (Nat.le_of_ble_eq_true rfl)) d_C_write_97 ⟨Nat.zero_le _, Nat.zero_le _⟩) ?_
        obtain ⟨hgd, h⟩ := gd_some h
        refine as_X_19 hx hb hK hP hD hS hgd d_C_write_100 (fun H locs hP hS => ?_)
        obtain ⟨σ3, eσ3, h⟩ := st_some h
        rw [← eσ3] at hP
        have hD : va_D (AX q) (wX q cA σ3) := dd_re (wX_f _ _ _ _) hD
        refine lv_iinc (v := x3 + 1) hx hb d_C_write_101 hl (k := 3) rfl rfl (by decide) rfl (fun ls hl => ?_)
        have hl : lv_has ls 4 [(3, .int (x3 + 1)), (0, .ref (q 14)), (1, .ref (q 1)), (2, .ref (q 8))] := hl
        refine lv_goto (tgt := 80) hx hb d_C_write_104 rfl ?_
        exact ih80 _ _ h _ _ _ hP hS (lv_sub hl [1, 2, 3, 0] rfl)
  have L14 : ∀ (N14 : Nat) (σ : MZ_) (x3 : Int32), f_C_write_L14 N14 σ x3 = some u → ∀ (H : Heap) (locs : List Loc) (ls : Array Slot), va_P (dC, dI) cls_ (wX q cA σ) H → va_S (AX q) s.heap H locs → lv_has ls 4 [(0, .ref (q 14)), (1, .ref (q 1)), (2, .ref (q 8)), (3, .int x3)] → W p l e (headSpec w_C_write rm_C_write).room s m ([.ref (q 14), .ref (q 1), .ref (q 8)] : List Value).toArray below meth c H locs 0 0 (MQ below (QW_ none (fun H => va_P (dC, dI) cls_ (wX q cA u) H) (AX q)) ([.ref (q 14), .ref (q 1), .ref (q 8)] : List Value).toArray s 0 0 (AX q)) (F0 m 14 ls []) := by
    intro N14
    induction N14 with
    | zero => intro σ x3 h; cases h
    | succ N14 ih14 =>
      intro σ x3 h H locs ls hP hS hl
      have hD : va_D (AX q) (wX q cA σ) := dd_re (wX_f _ _ _ _) hD
      rw [f_C_write_L14] at h
      refine lv_iload_n hx hb d_C_write_14 rfl (lv_at hl 3 rfl) ?_
      refine lv_aload_n hx hb d_C_write_15 rfl (lv_at hl 1 rfl) ?_
      obtain ⟨r2, hcl, h⟩ := bd_some h
      refine cx_read (va_runV (As := []) (rest := [.int x3]) ⟨hx, hb, hml, hown, hts⟩ (c_G_size l dC dI q cA pt σ _ hcl) (cw_C_35 hts ⟨Nat.le_of_ble_eq_true rfl, Nat.le_of_ble_eq_true rfl⟩) ⟨pxX_B, va_recv hK hP (ci := 1) (q0 := 1) rfl rfl, pxX_U hP hK hD hN hZ hS⟩ rfl rfl hl.1 rfl (lv_room (Nat.le_of_ble_eq_true rfl)) d_C_write_16 ⟨Nat.zero_le _, Nat.zero_le _⟩) ?_
      refine lv_icmp_ge (tgt := 78) hx hb d_C_write_19 rfl (fun hc => ?_) (fun hc => ?_)
      · have h := if_t hc h
        refine lv_iconst (v := 0) hx hb d_C_write_78 (by decide) ?_
        refine lv_istore_n hx hb d_C_write_79 rfl hl (by decide) rfl (fun ls hl => ?_)
        have hl : lv_has ls 4 [(3, .int 0), (0, .ref (q 14)), (1, .ref (q 1)), (2, .ref (q 8))] := hl
        exact L80 _ _ _ h _ _ _ hP hS (lv_sub hl [1, 2, 3, 0] rfl)
      · have h := if_f hc h
        refine lv_aload_n hx hb d_C_write_22 rfl (lv_at hl 0 rfl) ?_
        refine gf_C_21 hx hb hts hown hK hP d_C_write_23 ?_
        refine lv_iload_n hx hb d_C_write_26 rfl (lv_at hl 3 rfl) ?_
        refine lv_aload_n hx hb d_C_write_27 rfl (lv_at hl 0 rfl) ?_
        refine gf_C_27 hx hb hts hown hK hP d_C_write_28 ?_
        obtain ⟨hgd, h⟩ := gd_some h
        refine as_X_18 hx hb hK hP hD hS hgd d_C_write_31 (fun H locs hP hS => ?_)
        obtain ⟨σ2, eσ2, h⟩ := st_some h
        rw [← eσ2] at hP
        have hD : va_D (AX q) (wX q cA σ2) := dd_re (wX_f _ _ _ _) hD
        refine lv_aload_n hx hb d_C_write_32 rfl (lv_at hl 2 rfl) ?_
        refine lv_iload_n hx hb d_C_write_33 rfl (lv_at hl 3 rfl) ?_
        obtain ⟨r3, hcl, h⟩ := bd_some h
        refine cx_read (va_runV (As := [.int x3]) (rest := []) ⟨hx, hb, hml, hown, hts⟩ (c_Y_isInBodies l dC dI q cA pt σ2 x3 _ hcl) (cw_C_40 hts ⟨Nat.le_of_ble_eq_true rfl, Nat.le_of_ble_eq_true rfl⟩) ⟨pxX_B, va_recv hK hP (ci := 2) (q0 := 8) rfl rfl, pxX_U hP hK hD hN hZ hS⟩ rfl rfl hl.1 rfl (lv_room (Nat.le_of_ble_eq_true rfl)) d_C_write_34 ⟨Nat.zero_le _, Nat.zero_le _⟩) ?_
        refine lv_if_eq (tgt := 72) hx hb d_C_write_37 rfl (fun hc => ?_) (fun hc => ?_)
        · have h := if_t hc h
          refine lv_iinc (v := x3 + 1) hx hb d_C_write_72 hl (k := 3) rfl rfl (by decide) rfl (fun ls hl => ?_)
          have hl : lv_has ls 4 [(3, .int (x3 + 1)), (0, .ref (q 14)), (1, .ref (q 1)), (2, .ref (q 8))] := hl
          refine lv_goto (tgt := 14) hx hb d_C_write_75 rfl ?_
          exact ih14 _ _ h _ _ _ hP hS (lv_sub hl [1, 2, 3, 0] rfl)
        · have h := if_f hc h
          refine lv_aload_n hx hb d_C_write_40 rfl (lv_at hl 0 rfl) ?_
          refine lv_aload_n hx hb d_C_write_41 rfl (lv_at hl 1 rfl) ?_
          refine lv_iload_n hx hb d_C_write_42 rfl (lv_at hl 3 rfl) ?_
          obtain ⟨r4, hcl, h⟩ := bd_some h
          refine cx_read (va_runV (As := [.int x3]) (rest := [.ref (q 14)]) ⟨hx, hb, hml, hown, hts⟩ (c_G_kind l dC dI q cA pt σ2 x3 _ hcl) (cw_C_46 hts ⟨Nat.le_of_ble_eq_true rfl, Nat.le_of_ble_eq_true rfl⟩) ⟨pxX_B, va_recv hK hP (ci := 1) (q0 := 1) rfl rfl, pxX_U hP hK hD hN hZ hS⟩ rfl rfl hl.1 rfl (lv_room (Nat.le_of_ble_eq_true rfl)) d_C_write_43 ⟨Nat.zero_le _, Nat.zero_le _⟩) ?_
          refine lv_aload_n hx hb d_C_write_46 rfl (lv_at hl 1 rfl) ?_
          refine lv_iload_n hx hb d_C_write_47 rfl (lv_at hl 3 rfl) ?_
          obtain ⟨r5, hcl, h⟩ := bd_some h
          refine cx_read (va_runV (As := [.int x3]) (rest := [.int r4, .ref (q 14)]) ⟨hx, hb, hml, hown, hts⟩ (c_G_a l dC dI q cA pt σ2 x3 _ hcl) (cw_C_50 hts ⟨Nat.le_of_ble_eq_true rfl, Nat.le_of_ble_eq_true rfl⟩) ⟨pxX_B, va_recv hK hP (ci := 1) (q0 := 1) rfl rfl, pxX_U hP hK hD hN hZ hS⟩ rfl rfl hl.1 rfl (lv_room (Nat.le_of_ble_eq_true rfl)) d_C_write_48 ⟨Nat.zero_le _, Nat.zero_le _⟩) ?_
          refine lv_aload_n hx hb d_C_write_51 rfl (lv_at hl 1 rfl) ?_
          refine lv_iload_n hx hb d_C_write_52 rfl (lv_at hl 3 rfl) ?_
          obtain ⟨r6, hcl, h⟩ := bd_some h
          refine cx_read (va_runV (As := [.int x3]) (rest := [.int r5, .int r4, .ref (q 14)]) ⟨hx, hb, hml, hown, hts⟩ (c_G_b l dC dI q cA pt σ2 x3 _ hcl) (cw_C_53 hts ⟨Nat.le_of_ble_eq_true rfl, Nat.le_of_ble_eq_true rfl⟩) ⟨pxX_B, va_recv hK hP (ci := 1) (q0 := 1) rfl rfl, pxX_U hP hK hD hN hZ hS⟩ rfl rfl hl.1 rfl (lv_room (Nat.le_of_ble_eq_true rfl)) d_C_write_53 ⟨Nat.zero_le _, Nat.zero_le _⟩) ?_
          refine lv_aload_n hx hb d_C_write_56 rfl (lv_at hl 1 rfl) ?_
          refine lv_iload_n hx hb d_C_write_57 rfl (lv_at hl 3 rfl) ?_
          obtain ⟨r7, hcl, h⟩ := bd_some h
          refine cx_read (va_runV (As := [.int x3]) (rest := [.int r6, .int r5, .int r4, .ref (q 14)]) ⟨hx, hb, hml, hown, hts⟩ (c_G_c l dC dI q cA pt σ2 x3 _ hcl) (cw_C_56 hts ⟨Nat.le_of_ble_eq_true rfl, Nat.le_of_ble_eq_true rfl⟩) ⟨pxX_B, va_recv hK hP (ci := 1) (q0 := 1) rfl rfl, pxX_U hP hK hD hN hZ hS⟩ rfl rfl hl.1 rfl (lv_room (Nat.le_of_ble_eq_true rfl)) d_C_write_58 ⟨Nat.zero_le _, Nat.zero_le _⟩) ?_
          obtain ⟨u8, hcl, h⟩ := bd_some h
          refine cx_wrv (va_runV (As := [.int r4, .int r5, .int r6, .int r7]) (rest := []) ⟨hx, hb, hml, hown, hts⟩ (c_C_writePiece l dC dI q cA pt σ2 r4 r5 r6 r7 _ hcl) (cw_C_59 hts ⟨Nat.le_of_ble_eq_true rfl, Nat.le_of_ble_eq_true rfl⟩) ⟨pxX_B, va_recv hK hP (ci := 3) (q0 := 14) rfl rfl, pxX_U hP hK hD hN hZ hS⟩ rfl rfl hl.1 rfl (lv_room (Nat.le_of_ble_eq_true rfl)) d_C_write_61 ⟨Nat.zero_le _, Nat.zero_le _⟩) hS (fun _ h => h) (fun H locs hP hS => ?_)
          have hD : va_D (AX q) (wX q cA u8) := dd_re (wX_f _ _ _ _) hD
          refine lv_aload_n hx hb d_C_write_64 rfl (lv_at hl 0 rfl) ?_
          refine lv_bipush (v := 6) hx hb d_C_write_65 (by decide) ?_
          refine lv_iconst (v := 0) hx hb d_C_write_67 (by decide) ?_
          refine lv_iconst (v := 0) hx hb d_C_write_68 (by decide) ?_
          obtain ⟨u9, hcl, h⟩ := bd_some h
          refine cx_wrv (va_runV (As := [.int 6, .int 0, .int 0]) (rest := []) ⟨hx, hb, hml, hown, hts⟩ (c_C_put l dC dI q cA pt u8 6 0 0 _ hcl) (cw_C_31 hts ⟨Nat.le_of_ble_eq_true rfl, Nat.le_of_ble_eq_true rfl⟩) ⟨pxX_B, va_recv hK hP (ci := 3) (q0 := 14) rfl rfl, pxX_U hP hK hD hN hZ hS⟩ rfl rfl hl.1 rfl (lv_room (Nat.le_of_ble_eq_true rfl)) d_C_write_69 ⟨Nat.zero_le _, Nat.zero_le _⟩) hS (fun _ h => h) (fun H locs hP hS => ?_)
          have hD : va_D (AX q) (wX q cA u9) := dd_re (wX_f _ _ _ _) hD
          refine lv_iinc (v := x3 + 1) hx hb d_C_write_72 hl (k := 3) rfl rfl (by decide) rfl (fun ls hl => ?_)
          have hl : lv_has ls 4 [(3, .int (x3 + 1)), (0, .ref (q 14)), (1, .ref (q 1)), (2, .ref (q 8))] := hl
          refine lv_goto (tgt := 14) hx hb d_C_write_75 rfl ?_
          exact ih14 _ _ h _ _ _ hP hS (lv_sub hl [1, 2, 3, 0] rfl)
  rw [f_C_write] at h
  refine lv_aload_n hx hb d_C_write_0 rfl (lv_at hl 0 rfl) ?_
  refine lv_iconst (v := 0) hx hb d_C_write_1 (by decide) ?_
  refine pf_C_27 hx hb hts hown hK hP hD hS d_C_write_2 (fun H locs hP hS => ?_)
  obtain ⟨σ1, eσ1, h⟩ := st_some h
  rw [← eσ1] at hP
  have hD : va_D (AX q) (wX q cA σ1) := dd_re (wX_f _ _ _ _) hD
  refine lv_aload_n hx hb d_C_write_5 rfl (lv_at hl 0 rfl) ?_
  refine lv_iconst (v := 0) hx hb d_C_write_6 (by decide) ?_
  refine lv_iconst (v := 0) hx hb d_C_write_7 (by decide) ?_
  refine lv_iconst (v := 0) hx hb d_C_write_8 (by decide) ?_
  obtain ⟨u1, hcl, h⟩ := bd_some h
  refine cx_wrv (va_runV (As := [.int 0, .int 0, .int 0]) (rest := []) ⟨hx, hb, hml, hown, hts⟩ (c_C_put l dC dI q cA pt σ1 0 0 0 _ hcl) (cw_C_31 hts ⟨Nat.le_of_ble_eq_true rfl, Nat.le_of_ble_eq_true rfl⟩) ⟨pxX_B, va_recv hK hP (ci := 3) (q0 := 14) rfl rfl, pxX_U hP hK hD hN hZ hS⟩ rfl rfl hl.1 rfl (lv_room (Nat.le_of_ble_eq_true rfl)) d_C_write_9 ⟨Nat.zero_le _, Nat.zero_le _⟩) hS (fun _ h => h) (fun H locs hP hS => ?_)
  have hD : va_D (AX q) (wX q cA u1) := dd_re (wX_f _ _ _ _) hD
  refine lv_iconst (v := 0) hx hb d_C_write_12 (by decide) ?_
  refine lv_istore_n hx hb d_C_write_13 rfl hl (by decide) rfl (fun ls hl => ?_)
  have hl : lv_has ls 4 [(3, .int 0), (0, .ref (q 14)), (1, .ref (q 1)), (2, .ref (q 8))] := hl
  exact L14 _ _ _ h _ _ _ hP hS (lv_sub hl [1, 2, 3, 0] rfl)
