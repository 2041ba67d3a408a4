/-! Grammar -/
def y_S_isSign : MethodName := ⟨"StagedParsers", "isSign", "(I)Z"⟩
def w_S_isSign : List Cond := .code y_S_isSign prog_1_method_14_code 1 (some .boolean) :: AW_
def rm_S_isSign : Room := { frames := 0, cells := 0, slots := 0, locals := 0 }
theorem d_S_isSign_0 : decode prog_1_method_14_code 0 = .ok (.iload_n 0, 1) := by decide +kernel
theorem d_S_isSign_1 : decode prog_1_method_14_code 1 = .ok (.ifCond .lt 14, 3) := by decide +kernel
theorem d_S_isSign_4 : decode prog_1_method_14_code 4 = .ok (.iload_n 0, 1) := by decide +kernel
theorem d_S_isSign_5 : decode prog_1_method_14_code 5 = .ok (.sipush 255, 3) := by decide +kernel
theorem d_S_isSign_8 : decode prog_1_method_14_code 8 = .ok (.if_icmp .gt 7, 3) := by decide +kernel
theorem d_S_isSign_11 : decode prog_1_method_14_code 11 = .ok (.iconst 1, 1) := by decide +kernel
theorem d_S_isSign_12 : decode prog_1_method_14_code 12 = .ok (.goto 4, 3) := by decide +kernel
theorem d_S_isSign_15 : decode prog_1_method_14_code 15 = .ok (.iconst 0, 1) := by decide +kernel
theorem d_S_isSign_16 : decode prog_1_method_14_code 16 = .ok (.ireturn, 1) := by decide +kernel
def f_S_isSign (a0 : Int32) : Option (Int32) :=
  if a0 < 0 then some 0
  else if 255 < a0 then some 0
  else some 1
set_option maxHeartbeats 4000000 in
set_option maxRecDepth 100000 in
theorem c_S_isSign (l : Launch) (dC : Nat → ClassId) (dI : Nat → Nat → Nat) (q : Nat → Nat) (cA : Nat → ClassId) (pt : Nat) (σ : MZ_) (a0 : Int32) (u : Int32) (h : f_S_isSign a0 = some u) : Met l y_S_isSign w_S_isSign rm_S_isSign (va_Pc [.int a0] (PX_ dC dI q cA pt σ)) (QcRead u) 0 0 (fun _ => False) := by
  refine Met.ofW (cc := prog_1_method_14_code) (maxL := 1) (ret := (some .boolean)) (by decide) rfl ?_
  intro p e s m args below meth c s₁ B hml hv
  obtain ⟨rfl, hP, hK, hD, hN, hZ⟩ := hv
  have hx := B.exec
  have hb := B.bytes
  have hr := B.returns
  have hts : ∀ w ∈ AW_, w.before _ s = true := fun w h => atoms_spec (ws := w_S_isSign) B.pre w (List.mem_cons_of_mem _ h)
  have hown : s.vm.findClass "StagedParsers" = some m.cls := findClass_of_methodNamed B.named
  have hlocks := B.notSynchronized
  have hS : va_S (AX q) s.heap s.heap [] := va_S.rf
  have hl := lv_entry ([.int a0]) (n := 1) (Nat.le_of_ble_eq_true rfl)
  rw [lg_entry_eq]
  generalize (lg_sl ([.int a0]) ++ List.replicate (1 - (lg_sl ([.int a0])).length) Slot.unset).toArray = ls at hl ⊢
  have hl : lv_has ls 1 [(0, .int a0)] := hl
  rw [f_S_isSign] at h
  refine lv_iload_n hx hb d_S_isSign_0 rfl (lv_at hl 0 rfl) ?_
  refine lv_if_lt (tgt := 15) hx hb d_S_isSign_1 rfl (fun hc => ?_) (fun hc => ?_)
  · have h := if_t hc h
    refine lv_iconst (v := 0) hx hb d_S_isSign_15 (by decide) ?_
    obtain rfl := Option.some.inj h
    exact W.zret hx hb hr rfl (fun t ht hW => ⟨rfl, ht⟩) (fun _ h9 => nomatch h9) d_S_isSign_16
  · have h := if_f hc h
    refine lv_iload_n hx hb d_S_isSign_4 rfl (lv_at hl 0 rfl) ?_
    refine lv_sipush (v := 255) hx hb d_S_isSign_5 (by decide) ?_
    refine lv_icmp_gt (tgt := 15) hx hb d_S_isSign_8 rfl (fun hc => ?_) (fun hc => ?_)
    · have h := if_t hc h
      refine lv_iconst (v := 0) hx hb d_S_isSign_15 (by decide) ?_
      obtain rfl := Option.some.inj h
      exact W.zret hx hb hr rfl (fun t ht hW => ⟨rfl, ht⟩) (fun _ h9 => nomatch h9) d_S_isSign_16
    · have h := if_f hc h
      refine lv_iconst (v := 1) hx hb d_S_isSign_11 (by decide) ?_
      refine lv_goto (tgt := 16) hx hb d_S_isSign_12 rfl ?_
      obtain rfl := Option.some.inj h
      exact W.zret hx hb hr rfl (fun t ht hW => ⟨rfl, ht⟩) (fun _ h9 => nomatch h9) d_S_isSign_16
def y_S_isRegister : MethodName := ⟨"StagedParsers", "isRegister", "(I)Z"⟩
def w_S_isRegister : List Cond := .code y_S_isRegister prog_1_method_15_code 1 (some .boolean) :: AW_
def rm_S_isRegister : Room := { frames := 0, cells := 0, slots := 0, locals := 0 }
theorem d_S_isRegister_0 : decode prog_1_method_15_code 0 = .ok (.iload_n 0, 1) := by decide +kernel
theorem d_S_isRegister_1 : decode prog_1_method_15_code 1 = .ok (.ifCond .lt 12, 3) := by decide +kernel
theorem d_S_isRegister_4 : decode prog_1_method_15_code 4 = .ok (.iload_n 0, 1) := by decide +kernel
theorem d_S_isRegister_5 : decode prog_1_method_15_code 5 = .ok (.iconst 4, 1) := by decide +kernel
theorem d_S_isRegister_6 : decode prog_1_method_15_code 6 = .ok (.if_icmp .ge 7, 3) := by decide +kernel
theorem d_S_isRegister_9 : decode prog_1_method_15_code 9 = .ok (.iconst 1, 1) := by decide +kernel
theorem d_S_isRegister_10 : decode prog_1_method_15_code 10 = .ok (.goto 4, 3) := by decide +kernel
theorem d_S_isRegister_13 : decode prog_1_method_15_code 13 = .ok (.iconst 0, 1) := by decide +kernel
theorem d_S_isRegister_14 : decode prog_1_method_15_code 14 = .ok (.ireturn, 1) := by decide +kernel
def f_S_isRegister (a0 : Int32) : Option (Int32) :=
  if a0 < 0 then some 0
  else if 4 ≤ a0 then some 0
  else some 1
set_option maxHeartbeats 4000000 in
set_option maxRecDepth 100000 in
theorem c_S_isRegister (l : Launch) (dC : Nat → ClassId) (dI : Nat → Nat → Nat) (q : Nat → Nat) (cA : Nat → ClassId) (pt : Nat) (σ : MZ_) (a0 : Int32) (u : Int32) (h : f_S_isRegister a0 = some u) : Met l y_S_isRegister w_S_isRegister rm_S_isRegister (va_Pc [.int a0] (PX_ dC dI q cA pt σ)) (QcRead u) 0 0 (fun _ => False) := by
  refine Met.ofW (cc := prog_1_method_15_code) (maxL := 1) (ret := (some .boolean)) (by decide) rfl ?_
  intro p e s m args below meth c s₁ B hml hv
  obtain ⟨rfl, hP, hK, hD, hN, hZ⟩ := hv
  have hx := B.exec
  have hb := B.bytes
  have hr := B.returns
  have hts : ∀ w ∈ AW_, w.before _ s = true := fun w h => atoms_spec (ws := w_S_isRegister) B.pre w (List.mem_cons_of_mem _ h)
  have hown : s.vm.findClass "StagedParsers" = some m.cls := findClass_of_methodNamed B.named
  have hlocks := B.notSynchronized
  have hS : va_S (AX q) s.heap s.heap [] := va_S.rf
  have hl := lv_entry ([.int a0]) (n := 1) (Nat.le_of_ble_eq_true rfl)
  rw [lg_entry_eq]
  generalize (lg_sl ([.int a0]) ++ List.replicate (1 - (lg_sl ([.int a0])).length) Slot.unset).toArray = ls at hl ⊢
  have hl : lv_has ls 1 [(0, .int a0)] := hl
  rw [f_S_isRegister] at h
  refine lv_iload_n hx hb d_S_isRegister_0 rfl (lv_at hl 0 rfl) ?_
  refine lv_if_lt (tgt := 13) hx hb d_S_isRegister_1 rfl (fun hc => ?_) (fun hc => ?_)
  · have h := if_t hc h
    refine lv_iconst (v := 0) hx hb d_S_isRegister_13 (by decide) ?_
    obtain rfl := Option.some.inj h
    exact W.zret hx hb hr rfl (fun t ht hW => ⟨rfl, ht⟩) (fun _ h9 => nomatch h9) d_S_isRegister_14
  · have h := if_f hc h
    refine lv_iload_n hx hb d_S_isRegister_4 rfl (lv_at hl 0 rfl) ?_
    refine lv_iconst (v := 4) hx hb d_S_isRegister_5 (by decide) ?_
    refine lv_icmp_ge (tgt := 13) hx hb d_S_isRegister_6 rfl (fun hc => ?_) (fun hc => ?_)
    · have h := if_t hc h
      refine lv_iconst (v := 0) hx hb d_S_isRegister_13 (by decide) ?_
      obtain rfl := Option.some.inj h
      exact W.zret hx hb hr rfl (fun t ht hW => ⟨rfl, ht⟩) (fun _ h9 => nomatch h9) d_S_isRegister_14
    · have h := if_f hc h
      refine lv_iconst (v := 1) hx hb d_S_isRegister_9 (by decide) ?_
      refine lv_goto (tgt := 14) hx hb d_S_isRegister_10 rfl ?_
      obtain rfl := Option.some.inj h
      exact W.zret hx hb hr rfl (fun t ht hW => ⟨rfl, ht⟩) (fun _ h9 => nomatch h9) d_S_isRegister_14
def y_G_size : MethodName := ⟨"StagedParsers$Grammar", "size", "()I"⟩
def w_G_size : List Cond := .code y_G_size prog_4_method_2_code 1 (some .int) :: AW_
def rm_G_size : Room := { frames := 0, cells := 0, slots := 0, locals := 0 }
theorem d_G_size_0 : decode prog_4_method_2_code 0 = .ok (.aload_n 0, 1) := by decide +kernel
theorem d_G_size_1 : decode prog_4_method_2_code 1 = .ok (.getfield 36, 3) := by decide +kernel
theorem d_G_size_4 : decode prog_4_method_2_code 4 = .ok (.ireturn, 1) := by decide +kernel
section RW
variable {p : Program} {l : Launch} {e : Env} {R : Room} {s : State} {m : MethodId} {args : Array Value} {below : List Frame} {meth : Method} {c : Code} {H : Heap} {locs : List Loc} {cells slots : Nat} {Q : State → Prop}
variable {cc : ByteArray} {pc : Nat} {ls : Array Slot} {rest : List Value} {dC : Nat → ClassId} {dI : Nat → Nat → Nat} {q : Nat → Nat} {cA : Nat → ClassId} {σ : MZ_} {H0 : Heap} {A : Nat → Prop}

theorem gf_G_36 (hx : p.tables.exec = Jvm.exec) (hb : c.code = cc) (hts : ∀ w ∈ AW_, w.before args s = true) (hown : s.vm.findClass "StagedParsers$Grammar" = some m.cls) (hK : va_K (dC, dI) cls_ (tyX cA) s) (hP : va_P (dC, dI) cls_ (wX q cA σ) H) (hdg : decode cc pc = .ok (.getfield 36, 3)) (kk : W p l e R s m args below meth c H locs cells slots Q (F0 m (pc + 3) ls (.int (σ 31 0) :: rest))) : W p l e R s m args below meth c H locs cells slots Q (F0 m pc ls (.ref (q 1) :: rest)) :=
  va_get (D := (dC, dI)) (cl := cls_) (ci := 1) (v := .int (σ 31 0)) (ws := wX q cA σ) (tys := tyX cA) (C := Rz_G) (T := Tz_G) (N := 7) hx hb hts uz_G hown hK hP 1 rfl rfl 6 (by decide) (hts _ kw_41) (fun _ h9 => h9) rfl hdg kk
end RW
def f_G_size (σ : MZ_) : Option (Int32) :=
  some (σ 31 0)
set_option maxHeartbeats 4000000 in
set_option maxRecDepth 100000 in
theorem c_G_size (l : Launch) (dC : Nat → ClassId) (dI : Nat → Nat → Nat) (q : Nat → Nat) (cA : Nat → ClassId) (pt : Nat) (σ : MZ_) (u : Int32) (h : f_G_size σ = some u) : Met l y_G_size w_G_size rm_G_size (va_Pc [.ref (q 1)] (PX_ dC dI q cA pt σ)) (QcRead u) 0 0 (fun _ => False) := by
  refine Met.ofW (cc := prog_4_method_2_code) (maxL := 1) (ret := (some .int)) (by decide) rfl ?_
  intro p e s m args below meth c s₁ B hml hv
  obtain ⟨rfl, hP, hK, hD, hN, hZ⟩ := hv
  have hx := B.exec
  have hb := B.bytes
  have hr := B.returns
  have hts : ∀ w ∈ AW_, w.before _ s = true := fun w h => atoms_spec (ws := w_G_size) B.pre w (List.mem_cons_of_mem _ h)
  have hown : s.vm.findClass "StagedParsers$Grammar" = some m.cls := findClass_of_methodNamed B.named
  have hlocks := B.notSynchronized
  have hS : va_S (AX q) s.heap s.heap [] := va_S.rf
  have hl := lv_entry ([.ref (q 1)]) (n := 1) (Nat.le_of_ble_eq_true rfl)
  rw [lg_entry_eq]
  generalize (lg_sl ([.ref (q 1)]) ++ List.replicate (1 - (lg_sl ([.ref (q 1)])).length) Slot.unset).toArray = ls at hl ⊢
  have hl : lv_has ls 1 [(0, .ref (q 1))] := hl
  rw [f_G_size] at h
  refine lv_aload_n hx hb d_G_size_0 rfl (lv_at hl 0 rfl) ?_
  refine gf_G_36 hx hb hts hown hK hP d_G_size_1 ?_
  obtain rfl := Option.some.inj h
  exact W.iret hx hb hr (fun t ht hW => ⟨rfl, ht⟩) (fun _ h9 => nomatch h9) d_G_size_4
def y_G_isFull : MethodName := ⟨"StagedParsers$Grammar", "isFull", "()Z"⟩
def w_G_isFull : List Cond := .code y_G_isFull prog_4_method_3_code 1 (some .boolean) :: AW_
def rm_G_isFull : Room := { frames := 0, cells := 0, slots := 0, locals := 0 }
theorem d_G_isFull_0 : decode prog_4_method_3_code 0 = .ok (.aload_n 0, 1) := by decide +kernel
theorem d_G_isFull_1 : decode prog_4_method_3_code 1 = .ok (.getfield 36, 3) := by decide +kernel
theorem d_G_isFull_4 : decode prog_4_method_3_code 4 = .ok (.bipush 80, 2) := by decide +kernel
theorem d_G_isFull_6 : decode prog_4_method_3_code 6 = .ok (.if_icmp .lt 7, 3) := by decide +kernel
theorem d_G_isFull_9 : decode prog_4_method_3_code 9 = .ok (.iconst 1, 1) := by decide +kernel
theorem d_G_isFull_10 : decode prog_4_method_3_code 10 = .ok (.goto 4, 3) := by decide +kernel
theorem d_G_isFull_13 : decode prog_4_method_3_code 13 = .ok (.iconst 0, 1) := by decide +kernel
theorem d_G_isFull_14 : decode prog_4_method_3_code 14 = .ok (.ireturn, 1) := by decide +kernel
def f_G_isFull (σ : MZ_) : Option (Int32) :=
  if (σ 31 0) < 80 then some 0
  else some 1
set_option maxHeartbeats 4000000 in
set_option maxRecDepth 100000 in
theorem c_G_isFull (l : Launch) (dC : Nat → ClassId) (dI : Nat → Nat → Nat) (q : Nat → Nat) (cA : Nat → ClassId) (pt : Nat) (σ : MZ_) (u : Int32) (h : f_G_isFull σ = some u) : Met l y_G_isFull w_G_isFull rm_G_isFull (va_Pc [.ref (q 1)] (PX_ dC dI q cA pt σ)) (QcRead u) 0 0 (fun _ => False) := by
  refine Met.ofW (cc := prog_4_method_3_code) (maxL := 1) (ret := (some .boolean)) (by decide) rfl ?_
  intro p e s m args below meth c s₁ B hml hv
  obtain ⟨rfl, hP, hK, hD, hN, hZ⟩ := hv
  have hx := B.exec
  have hb := B.bytes
  have hr := B.returns
  have hts : ∀ w ∈ AW_, w.before _ s = true := fun w h => atoms_spec (ws := w_G_isFull) B.pre w (List.mem_cons_of_mem _ h)
  have hown : s.vm.findClass "StagedParsers$Grammar" = some m.cls := findClass_of_methodNamed B.named
  have hlocks := B.notSynchronized
  have hS : va_S (AX q) s.heap s.heap [] := va_S.rf
  have hl := lv_entry ([.ref (q 1)]) (n := 1) (Nat.le_of_ble_eq_true rfl)
  rw [lg_entry_eq]
  generalize (lg_sl ([.ref (q 1)]) ++ List.replicate (1 - (lg_sl ([.ref (q 1)])).length) Slot.unset).toArray = ls at hl ⊢
  have hl : lv_has ls 1 [(0, .ref (q 1))] := hl
  rw [f_G_isFull] at h
  refine lv_aload_n hx hb d_G_isFull_0 rfl (lv_at hl 0 rfl) ?_
  refine gf_G_36 hx hb hts hown hK hP d_G_isFull_1 ?_
  refine lv_bipush (v := 80) hx hb d_G_isFull_4 (by decide) ?_
  refine lv_icmp_lt (tgt := 13) hx hb d_G_isFull_6 rfl (fun hc => ?_) (fun hc => ?_)
  · have h := if_t hc h
    refine lv_iconst (v := 0) hx hb d_G_isFull_13 (by decide) ?_
    obtain rfl := Option.some.inj h
    exact W.zret hx hb hr rfl (fun t ht hW => ⟨rfl, ht⟩) (fun _ h9 => nomatch h9) d_G_isFull_14
  · have h := if_f hc h
    refine lv_iconst (v := 1) hx hb d_G_isFull_9 (by decide) ?_
    refine lv_goto (tgt := 14) hx hb d_G_isFull_10 rfl ?_
    obtain rfl := Option.some.inj h
    exact W.zret hx hb hr rfl (fun t ht hW => ⟨rfl, ht⟩) (fun _ h9 => nomatch h9) d_G_isFull_14
def y_G_isNode : MethodName := ⟨"StagedParsers$Grammar", "isNode", "(I)Z"⟩
def w_G_isNode : List Cond := .code y_G_isNode prog_4_method_4_code 2 (some .boolean) :: AW_
def rm_G_isNode : Room := { frames := 0, cells := 0, slots := 0, locals := 0 }
theorem d_G_isNode_0 : decode prog_4_method_4_code 0 = .ok (.iload_n 1, 1) := by decide +kernel
theorem d_G_isNode_1 : decode prog_4_method_4_code 1 = .ok (.ifCond .lt 15, 3) := by decide +kernel
theorem d_G_isNode_4 : decode prog_4_method_4_code 4 = .ok (.iload_n 1, 1) := by decide +kernel
theorem d_G_isNode_5 : decode prog_4_method_4_code 5 = .ok (.aload_n 0, 1) := by decide +kernel
theorem d_G_isNode_6 : decode prog_4_method_4_code 6 = .ok (.getfield 36, 3) := by decide +kernel
theorem d_G_isNode_9 : decode prog_4_method_4_code 9 = .ok (.if_icmp .ge 7, 3) := by decide +kernel
theorem d_G_isNode_12 : decode prog_4_method_4_code 12 = .ok (.iconst 1, 1) := by decide +kernel
theorem d_G_isNode_13 : decode prog_4_method_4_code 13 = .ok (.goto 4, 3) := by decide +kernel
theorem d_G_isNode_16 : decode prog_4_method_4_code 16 = .ok (.iconst 0, 1) := by decide +kernel
theorem d_G_isNode_17 : decode prog_4_method_4_code 17 = .ok (.ireturn, 1) := by decide +kernel
def f_G_isNode (σ : MZ_) (a1 : Int32) : Option (Int32) :=
  if a1 < 0 then some 0
  else if (σ 31 0) ≤ a1 then some 0
  else some 1
set_option maxHeartbeats 4000000 in
set_option maxRecDepth 100000 in
theorem c_G_isNode (l : Launch) (dC : Nat → ClassId) (dI : Nat → Nat → Nat) (q : Nat → Nat) (cA : Nat → ClassId) (pt : Nat) (σ : MZ_) (a1 : Int32) (u : Int32) (h : f_G_isNode σ a1 = some u) : Met l y_G_isNode w_G_isNode rm_G_isNode (va_Pc [.ref (q 1), .int a1] (PX_ dC dI q cA pt σ)) (QcRead u) 0 0 (fun _ => False) := by
  refine Met.ofW (cc := prog_4_method_4_code) (maxL := 2) (ret := (some .boolean)) (by decide) rfl ?_
  intro p e s m args below meth c s₁ B hml hv
  obtain ⟨rfl, hP, hK, hD, hN, hZ⟩ := hv
  have hx := B.exec
  have hb := B.bytes
  have hr := B.returns
  have hts : ∀ w ∈ AW_, w.before _ s = true := fun w h => atoms_spec (ws := w_G_isNode) B.pre w (List.mem_cons_of_mem _ h)
  have hown : s.vm.findClass "StagedParsers$Grammar" = some m.cls := findClass_of_methodNamed B.named
  have hlocks := B.notSynchronized
  have hS : va_S (AX q) s.heap s.heap [] := va_S.rf
  have hl := lv_entry ([.ref (q 1), .int a1]) (n := 2) (Nat.le_of_ble_eq_true rfl)
  rw [lg_entry_eq]
  generalize (lg_sl ([.ref (q 1), .int a1]) ++ List.replicate (2 - (lg_sl ([.ref (q 1), .int a1])).length) Slot.unset).toArray = ls at hl ⊢
  have hl : lv_has ls 2 [(0, .ref (q 1)), (1, .int a1)] := hl
  rw [f_G_isNode] at h
  refine lv_iload_n hx hb d_G_isNode_0 rfl (lv_at hl 1 rfl) ?_
  refine lv_if_lt (tgt := 16) hx hb d_G_isNode_1 rfl (fun hc => ?_) (fun hc => ?_)
  · have h := if_t hc h
    refine lv_iconst (v := 0) hx hb d_G_isNode_16 (by decide) ?_
    obtain rfl := Option.some.inj h
    exact W.zret hx hb hr rfl (fun t ht hW => ⟨rfl, ht⟩) (fun _ h9 => nomatch h9) d_G_isNode_17
  · have h := if_f hc h
    refine lv_iload_n hx hb d_G_isNode_4 rfl (lv_at hl 1 rfl) ?_
    refine lv_aload_n hx hb d_G_isNode_5 rfl (lv_at hl 0 rfl) ?_
    refine gf_G_36 hx hb hts hown hK hP d_G_isNode_6 ?_
    refine lv_icmp_ge (tgt := 16) hx hb d_G_isNode_9 rfl (fun hc => ?_) (fun hc => ?_)
    · have h := if_t hc h
      refine lv_iconst (v := 0) hx hb d_G_isNode_16 (by decide) ?_
      obtain rfl := Option.some.inj h
      exact W.zret hx hb hr rfl (fun t ht hW => ⟨rfl, ht⟩) (fun _ h9 => nomatch h9) d_G_isNode_17
    · have h := if_f hc h
      refine lv_iconst (v := 1) hx hb d_G_isNode_12 (by decide) ?_
      refine lv_goto (tgt := 17) hx hb d_G_isNode_13 rfl ?_
      obtain rfl := Option.some.inj h
      exact W.zret hx hb hr rfl (fun t ht hW => ⟨rfl, ht⟩) (fun _ h9 => nomatch h9) d_G_isNode_17
def y_G_isRule : MethodName := ⟨"StagedParsers$Grammar", "isRule", "(I)Z"⟩
def w_G_isRule : List Cond := .code y_G_isRule prog_4_method_5_code 2 (some .boolean) :: AW_
def rm_G_isRule : Room := { frames := 0, cells := 0, slots := 0, locals := 0 }
theorem d_G_isRule_0 : decode prog_4_method_5_code 0 = .ok (.iload_n 1, 1) := by decide +kernel
theorem d_G_isRule_1 : decode prog_4_method_5_code 1 = .ok (.ifCond .lt 13, 3) := by decide +kernel
theorem d_G_isRule_4 : decode prog_4_method_5_code 4 = .ok (.iload_n 1, 1) := by decide +kernel
theorem d_G_isRule_5 : decode prog_4_method_5_code 5 = .ok (.bipush 6, 2) := by decide +kernel
theorem d_G_isRule_7 : decode prog_4_method_5_code 7 = .ok (.if_icmp .ge 7, 3) := by decide +kernel
theorem d_G_isRule_10 : decode prog_4_method_5_code 10 = .ok (.iconst 1, 1) := by decide +kernel
theorem d_G_isRule_11 : decode prog_4_method_5_code 11 = .ok (.goto 4, 3) := by decide +kernel
theorem d_G_isRule_14 : decode prog_4_method_5_code 14 = .ok (.iconst 0, 1) := by decide +kernel
theorem d_G_isRule_15 : decode prog_4_method_5_code 15 = .ok (.ireturn, 1) := by decide +kernel
def f_G_isRule (a1 : Int32) : Option (Int32) :=
  if a1 < 0 then some 0
  else if 6 ≤ a1 then some 0
  else some 1
set_option maxHeartbeats 4000000 in
set_option maxRecDepth 100000 in
theorem c_G_isRule (l : Launch) (dC : Nat → ClassId) (dI : Nat → Nat → Nat) (q : Nat → Nat) (cA : Nat → ClassId) (pt : Nat) (σ : MZ_) (a1 : Int32) (u : Int32) (h : f_G_isRule a1 = some u) : Met l y_G_isRule w_G_isRule rm_G_isRule (va_Pc [.ref (q 1), .int a1] (PX_ dC dI q cA pt σ)) (QcRead u) 0 0 (fun _ => False) := by
  refine Met.ofW (cc := prog_4_method_5_code) (maxL := 2) (ret := (some .boolean)) (by decide) rfl ?_
  intro p e s m args below meth c s₁ B hml hv
  obtain ⟨rfl, hP, hK, hD, hN, hZ⟩ := hv
  have hx := B.exec
  have hb := B.bytes
  have hr := B.returns
  have hts : ∀ w ∈ AW_, w.before _ s = true := fun w h => atoms_spec (ws := w_G_isRule) B.pre w (List.mem_cons_of_mem _ h)
  have hown : s.vm.findClass "StagedParsers$Grammar" = some m.cls := findClass_of_methodNamed B.named
  have hlocks := B.notSynchronized
  have hS : va_S (AX q) s.heap s.heap [] := va_S.rf
  have hl := lv_entry ([.ref (q 1), .int a1]) (n := 2) (Nat.le_of_ble_eq_true rfl)
  rw [lg_entry_eq]
  generalize (lg_sl ([.ref (q 1), .int a1]) ++ List.replicate (2 - (lg_sl ([.ref (q 1), .int a1])).length) Slot.unset).toArray = ls at hl ⊢
  have hl : lv_has ls 2 [(0, .ref (q 1)), (1, .int a1)] := hl
  rw [f_G_isRule] at h
  refine lv_iload_n hx hb d_G_isRule_0 rfl (lv_at hl 1 rfl) ?_
  refine lv_if_lt (tgt := 14) hx hb d_G_isRule_1 rfl (fun hc => ?_) (fun hc => ?_)
  · have h := if_t hc h
    refine lv_iconst (v := 0) hx hb d_G_isRule_14 (by decide) ?_
    obtain rfl := Option.some.inj h
    exact W.zret hx hb hr rfl (fun t ht hW => ⟨rfl, ht⟩) (fun _ h9 => nomatch h9) d_G_isRule_15
  · have h := if_f hc h
    refine lv_iload_n hx hb d_G_isRule_4 rfl (lv_at hl 1 rfl) ?_
    refine lv_bipush (v := 6) hx hb d_G_isRule_5 (by decide) ?_
    refine lv_icmp_ge (tgt := 14) hx hb d_G_isRule_7 rfl (fun hc => ?_) (fun hc => ?_)
    · have h := if_t hc h
      refine lv_iconst (v := 0) hx hb d_G_isRule_14 (by decide) ?_
      obtain rfl := Option.some.inj h
      exact W.zret hx hb hr rfl (fun t ht hW => ⟨rfl, ht⟩) (fun _ h9 => nomatch h9) d_G_isRule_15
    · have h := if_f hc h
      refine lv_iconst (v := 1) hx hb d_G_isRule_10 (by decide) ?_
      refine lv_goto (tgt := 15) hx hb d_G_isRule_11 rfl ?_
      obtain rfl := Option.some.inj h
      exact W.zret hx hb hr rfl (fun t ht hW => ⟨rfl, ht⟩) (fun _ h9 => nomatch h9) d_G_isRule_15
def y_G_hasBody : MethodName := ⟨"StagedParsers$Grammar", "hasBody", "(I)Z"⟩
def w_G_hasBody : List Cond := .code y_G_hasBody prog_4_method_6_code 2 (some .boolean) :: AW_
def rm_G_hasBody : Room := { frames := 1, cells := 0, slots := 0, locals := 21 }
theorem d_G_hasBody_0 : decode prog_4_method_6_code 0 = .ok (.aload_n 0, 1) := by decide +kernel
theorem d_G_hasBody_1 : decode prog_4_method_6_code 1 = .ok (.iload_n 1, 1) := by decide +kernel
theorem d_G_hasBody_2 : decode prog_4_method_6_code 2 = .ok (.invokevirtual 40, 3) := by decide +kernel
theorem d_G_hasBody_5 : decode prog_4_method_6_code 5 = .ok (.ifCond .eq 17, 3) := by decide +kernel
theorem d_G_hasBody_8 : decode prog_4_method_6_code 8 = .ok (.aload_n 0, 1) := by decide +kernel
theorem d_G_hasBody_9 : decode prog_4_method_6_code 9 = .ok (.getfield 27, 3) := by decide +kernel
theorem d_G_hasBody_12 : decode prog_4_method_6_code 12 = .ok (.iload_n 1, 1) := by decide +kernel
theorem d_G_hasBody_13 : decode prog_4_method_6_code 13 = .ok (.iaload, 1) := by decide +kernel
theorem d_G_hasBody_14 : decode prog_4_method_6_code 14 = .ok (.iconst (-1), 1) := by decide +kernel
theorem d_G_hasBody_15 : decode prog_4_method_6_code 15 = .ok (.if_icmp .eq 7, 3) := by decide +kernel
theorem d_G_hasBody_18 : decode prog_4_method_6_code 18 = .ok (.iconst 1, 1) := by decide +kernel
theorem d_G_hasBody_19 : decode prog_4_method_6_code 19 = .ok (.goto 4, 3) := by decide +kernel
theorem d_G_hasBody_22 : decode prog_4_method_6_code 22 = .ok (.iconst 0, 1) := by decide +kernel
theorem d_G_hasBody_23 : decode prog_4_method_6_code 23 = .ok (.ireturn, 1) := by decide +kernel
section RW
variable {p : Program} {l : Launch} {e : Env} {R : Room} {s : State} {m : MethodId} {args : Array Value} {below : List Frame} {meth : Method} {c : Code} {H : Heap} {locs : List Loc} {cells slots : Nat} {Q : State → Prop}
variable {cc : ByteArray} {pc : Nat} {ls : Array Slot} {rest : List Value} {dC : Nat → ClassId} {dI : Nat → Nat → Nat} {q : Nat → Nat} {cA : Nat → ClassId} {σ : MZ_} {H0 : Heap} {A : Nat → Prop}

theorem cw_G_40 (hts : ∀ w ∈ AW_, w.before args s = true) (hR : rm_G_isRule.frames + 1 ≤ R.frames ∧ 8 + (2 + 11) + rm_G_isRule.locals ≤ R.locals) : CallW R s args "StagedParsers$Grammar" "StagedParsers$Grammar" 40 y_G_isRule prog_4_method_5_code 2 (some .boolean) w_G_isRule rm_G_isRule 0 0 1 :=
  ⟨callB_of 1 hts (aw_in kw_236) rfl rfl rfl (hts _ kw_2) (hts _ kw_233) ⟨by decide, by decide, by decide +kernel⟩ hR, hts _ kw_234, hts _ kw_235⟩
theorem gf_G_27 (hx : p.tables.exec = Jvm.exec) (hb : c.code = cc) (hts : ∀ w ∈ AW_, w.before args s = true) (hown : s.vm.findClass "StagedParsers$Grammar" = some m.cls) (hK : va_K (dC, dI) cls_ (tyX cA) s) (hP : va_P (dC, dI) cls_ (wX q cA σ) H) (hdg : decode cc pc = .ok (.getfield 27, 3)) (kk : W p l e R s m args below meth c H locs cells slots Q (F0 m (pc + 3) ls (.ref (q 7) :: rest))) : W p l e R s m args below meth c H locs cells slots Q (F0 m pc ls (.ref (q 1) :: rest)) :=
  va_get (D := (dC, dI)) (cl := cls_) (ci := 1) (v := .ref (q 7)) (ws := wX q cA σ) (tys := tyX cA) (C := Rz_G) (T := Tz_G) (N := 7) hx hb hts uz_G hown hK hP 1 rfl rfl 5 (by decide) (hts _ kw_40) (fun _ h9 => h9) rfl hdg kk
end RW
def f_G_hasBody (σ : MZ_) (a1 : Int32) : Option (Int32) :=
  (f_G_isRule a1).bind fun r1 => if r1 = 0 then some 0
  else gd_ a1 6 (if (σ 7 a1.toNatClampNeg) = (-1) then some 0
  else some 1)
set_option maxHeartbeats 4000000 in
set_option maxRecDepth 100000 in
theorem c_G_hasBody (l : Launch) (dC : Nat → ClassId) (dI : Nat → Nat → Nat) (q : Nat → Nat) (cA : Nat → ClassId) (pt : Nat) (σ : MZ_) (a1 : Int32) (u : Int32) (h : f_G_hasBody σ a1 = some u) : Met l y_G_hasBody w_G_hasBody rm_G_hasBody (va_Pc [.ref (q 1), .int a1] (PX_ dC dI q cA pt σ)) (QcRead u) 0 0 (fun _ => False) := by
  refine Met.ofW (cc := prog_4_method_6_code) (maxL := 2) (ret := (some .boolean)) (by decide) rfl ?_
  intro p e s m args below meth c s₁ B hml hv
  obtain ⟨rfl, hP, hK, hD, hN, hZ⟩ := hv
  have hx := B.exec
  have hb := B.bytes
  have hr := B.returns
  have hts : ∀ w ∈ AW_, w.before _ s = true := fun w h => atoms_spec (ws := w_G_hasBody) B.pre w (List.mem_cons_of_mem _ h)
  have hown : s.vm.findClass "StagedParsers$Grammar" = some m.cls := findClass_of_methodNamed B.named
  have hlocks := B.notSynchronized
  have hS : va_S (AX q) s.heap s.heap [] := va_S.rf
  have hl := lv_entry ([.ref (q 1), .int a1]) (n := 2) (Nat.le_of_ble_eq_true rfl)
  rw [lg_entry_eq]
  generalize (lg_sl ([.ref (q 1), .int a1]) ++ List.replicate (2 - (lg_sl ([.ref (q 1), .int a1])).length) Slot.unset).toArray = ls at hl ⊢
  have hl : lv_has ls 2 [(0, .ref (q 1)), (1, .int a1)] := hl
  rw [f_G_hasBody] at h
  refine lv_aload_n hx hb d_G_hasBody_0 rfl (lv_at hl 0 rfl) ?_
  refine lv_iload_n hx hb d_G_hasBody_1 rfl (lv_at hl 1 rfl) ?_
  obtain ⟨r1, hcl, h⟩ := bd_some h
  refine cx_read (va_runV (As := [.int a1]) (rest := []) ⟨hx, hb, hml, hown, hts⟩ (c_G_isRule l dC dI q cA pt σ a1 _ hcl) (cw_G_40 hts ⟨Nat.le_of_ble_eq_true rfl, Nat.le_of_ble_eq_true rfl⟩) ⟨pxX_B, va_recv hK hP (ci := 1) (q0 := 1) rfl rfl, pxX_U hP hK hD hN hZ hS⟩ rfl rfl hl.1 rfl (lv_room (Nat.le_of_ble_eq_true rfl)) d_G_hasBody_2 ⟨Nat.zero_le _, Nat.zero_le _⟩) ?_
  refine lv_if_eq (tgt := 22) hx hb d_G_hasBody_5 rfl (fun hc => ?_) (fun hc => ?_)
  · have h := if_t hc h
    refine lv_iconst (v := 0) hx hb d_G_hasBody_22 (by decide) ?_
    obtain rfl := Option.some.inj h
    exact W.zret hx hb hr rfl (fun t ht hW => ⟨rfl, ht⟩) (fun _ h9 => nomatch h9) d_G_hasBody_23
  · have h := if_f hc h
    refine lv_aload_n hx hb d_G_hasBody_8 rfl (lv_at hl 0 rfl) ?_
    refine gf_G_27 hx hb hts hown hK hP d_G_hasBody_9 ?_
    refine lv_iload_n hx hb d_G_hasBody_12 rfl (lv_at hl 1 rfl) ?_
    obtain ⟨hgd, h⟩ := gd_some h
    refine al_X_7 hx hb hK hP hgd d_G_hasBody_13 ?_
    refine lv_iconst (v := (-1)) hx hb d_G_hasBody_14 (by decide) ?_
    refine lv_icmp_eq (tgt := 22) hx hb d_G_hasBody_15 rfl (fun hc => ?_) (fun hc => ?_)
    · have h := if_t hc h
      refine lv_iconst (v := 0) hx hb d_G_hasBody_22 (by decide) ?_
      obtain rfl := Option.some.inj h
      exact W.zret hx hb hr rfl (fun t ht hW => ⟨rfl, ht⟩) (fun _ h9 => nomatch h9) d_G_hasBody_23
    · have h := if_f hc h
      refine lv_iconst (v := 1) hx hb d_G_hasBody_18 (by decide) ?_
      refine lv_goto (tgt := 23) hx hb d_G_hasBody_19 rfl ?_
      obtain rfl := Option.some.inj h
      exact W.zret hx hb hr rfl (fun t ht hW => ⟨rfl, ht⟩) (fun _ h9 => nomatch h9) d_G_hasBody_23
def y_G_body : MethodName := ⟨"StagedParsers$Grammar", "body", "(I)I"⟩
def w_G_body : List Cond := .code y_G_body prog_4_method_7_code 2 (some .int) :: AW_
def rm_G_body : Room := { frames := 1, cells := 0, slots := 0, locals := 21 }
theorem d_G_body_0 : decode prog_4_method_7_code 0 = .ok (.aload_n 0, 1) := by decide +kernel
theorem d_G_body_1 : decode prog_4_method_7_code 1 = .ok (.iload_n 1, 1) := by decide +kernel
theorem d_G_body_2 : decode prog_4_method_7_code 2 = .ok (.invokevirtual 40, 3) := by decide +kernel
theorem d_G_body_5 : decode prog_4_method_7_code 5 = .ok (.ifCond .eq 12, 3) := by decide +kernel
theorem d_G_body_8 : decode prog_4_method_7_code 8 = .ok (.aload_n 0, 1) := by decide +kernel
theorem d_G_body_9 : decode prog_4_method_7_code 9 = .ok (.getfield 27, 3) := by decide +kernel
theorem d_G_body_12 : decode prog_4_method_7_code 12 = .ok (.iload_n 1, 1) := by decide +kernel
theorem d_G_body_13 : decode prog_4_method_7_code 13 = .ok (.iaload, 1) := by decide +kernel
theorem d_G_body_14 : decode prog_4_method_7_code 14 = .ok (.goto 4, 3) := by decide +kernel
theorem d_G_body_17 : decode prog_4_method_7_code 17 = .ok (.iconst (-1), 1) := by decide +kernel
theorem d_G_body_18 : decode prog_4_method_7_code 18 = .ok (.ireturn, 1) := by decide +kernel
def f_G_body (σ : MZ_) (a1 : Int32) : Option (Int32) :=
  (f_G_isRule a1).bind fun r1 => if r1 = 0 then some (-1)
  else gd_ a1 6 (some (σ 7 a1.toNatClampNeg))
set_option maxHeartbeats 4000000 in
set_option maxRecDepth 100000 in
theorem c_G_body (l : Launch) (dC : Nat → ClassId) (dI : Nat → Nat → Nat) (q : Nat → Nat) (cA : Nat → ClassId) (pt : Nat) (σ : MZ_) (a1 : Int32) (u : Int32) (h : f_G_body σ a1 = some u) : Met l y_G_body w_G_body rm_G_body (va_Pc [.ref (q 1), .int a1] (PX_ dC dI q cA pt σ)) (QcRead u) 0 0 (fun _ => False) := by
  refine Met.ofW (cc := prog_4_method_7_code) (maxL := 2) (ret := (some .int)) (by decide) rfl ?_
  intro p e s m args below meth c s₁ B hml hv
  obtain ⟨rfl, hP, hK, hD, hN, hZ⟩ := hv
  have hx := B.exec
  have hb := B.bytes
  have hr := B.returns
  have hts : ∀ w ∈ AW_, w.before _ s = true := fun w h => atoms_spec (ws := w_G_body) B.pre w (List.mem_cons_of_mem _ h)
  have hown : s.vm.findClass "StagedParsers$Grammar" = some m.cls := findClass_of_methodNamed B.named
  have hlocks := B.notSynchronized
  have hS : va_S (AX q) s.heap s.heap [] := va_S.rf
  have hl := lv_entry ([.ref (q 1), .int a1]) (n := 2) (Nat.le_of_ble_eq_true rfl)
  rw [lg_entry_eq]
  generalize (lg_sl ([.ref (q 1), .int a1]) ++ List.replicate (2 - (lg_sl ([.ref (q 1), .int a1])).length) Slot.unset).toArray = ls at hl ⊢
  have hl : lv_has ls 2 [(0, .ref (q 1)), (1, .int a1)] := hl
  rw [f_G_body] at h
  refine lv_aload_n hx hb d_G_body_0 rfl (lv_at hl 0 rfl) ?_
  refine lv_iload_n hx hb d_G_body_1 rfl (lv_at hl 1 rfl) ?_
  obtain ⟨r1, hcl, h⟩ := bd_some h
  refine cx_read (va_runV (As := [.int a1]) (rest := []) ⟨hx, hb, hml, hown, hts⟩ (c_G_isRule l dC dI q cA pt σ a1 _ hcl) (cw_G_40 hts ⟨Nat.le_of_ble_eq_true rfl, Nat.le_of_ble_eq_true rfl⟩) ⟨pxX_B, va_recv hK hP (ci := 1) (q0 := 1) rfl rfl, pxX_U hP hK hD hN hZ hS⟩ rfl rfl hl.1 rfl (lv_room (Nat.le_of_ble_eq_true rfl)) d_G_body_2 ⟨Nat.zero_le _, Nat.zero_le _⟩) ?_
  refine lv_if_eq (tgt := 17) hx hb d_G_body_5 rfl (fun hc => ?_) (fun hc => ?_)
  · have h := if_t hc h
    refine lv_iconst (v := (-1)) hx hb d_G_body_17 (by decide) ?_
    obtain rfl := Option.some.inj h
    exact W.iret hx hb hr (fun t ht hW => ⟨rfl, ht⟩) (fun _ h9 => nomatch h9) d_G_body_18
  · have h := if_f hc h
    refine lv_aload_n hx hb d_G_body_8 rfl (lv_at hl 0 rfl) ?_
    refine gf_G_27 hx hb hts hown hK hP d_G_body_9 ?_
    refine lv_iload_n hx hb d_G_body_12 rfl (lv_at hl 1 rfl) ?_
    obtain ⟨hgd, h⟩ := gd_some h
    refine al_X_7 hx hb hK hP hgd d_G_body_13 ?_
    refine lv_goto (tgt := 18) hx hb d_G_body_14 rfl ?_
    obtain rfl := Option.some.inj h
    exact W.iret hx hb hr (fun t ht hW => ⟨rfl, ht⟩) (fun _ h9 => nomatch h9) d_G_body_18
def y_G_setBody : MethodName := ⟨"StagedParsers$Grammar", "setBody", "(II)V"⟩
def w_G_setBody : List Cond := .code y_G_setBody prog_4_method_8_code 3 none :: AW_
def rm_G_setBody : Room := { frames := 1, cells := 0, slots := 0, locals := 21 }
theorem d_G_setBody_0 : decode prog_4_method_8_code 0 = .ok (.aload_n 0, 1) := by decide +kernel
theorem d_G_setBody_1 : decode prog_4_method_8_code 1 = .ok (.iload_n 1, 1) := by decide +kernel
theorem d_G_setBody_2 : decode prog_4_method_8_code 2 = .ok (.invokevirtual 40, 3) := by decide +kernel
theorem d_G_setBody_5 : decode prog_4_method_8_code 5 = .ok (.ifCond .eq 18, 3) := by decide +kernel
theorem d_G_setBody_8 : decode prog_4_method_8_code 8 = .ok (.aload_n 0, 1) := by decide +kernel
theorem d_G_setBody_9 : decode prog_4_method_8_code 9 = .ok (.iload_n 2, 1) := by decide +kernel
theorem d_G_setBody_10 : decode prog_4_method_8_code 10 = .ok (.invokevirtual 44, 3) := by decide +kernel
theorem d_G_setBody_13 : decode prog_4_method_8_code 13 = .ok (.ifCond .eq 10, 3) := by decide +kernel
theorem d_G_setBody_16 : decode prog_4_method_8_code 16 = .ok (.aload_n 0, 1) := by decide +kernel
theorem d_G_setBody_17 : decode prog_4_method_8_code 17 = .ok (.getfield 27, 3) := by decide +kernel
theorem d_G_setBody_20 : decode prog_4_method_8_code 20 = .ok (.iload_n 1, 1) := by decide +kernel
theorem d_G_setBody_21 : decode prog_4_method_8_code 21 = .ok (.iload_n 2, 1) := by decide +kernel
theorem d_G_setBody_22 : decode prog_4_method_8_code 22 = .ok (.iastore, 1) := by decide +kernel
theorem d_G_setBody_23 : decode prog_4_method_8_code 23 = .ok (.return_, 1) := by decide +kernel
section RW
variable {p : Program} {l : Launch} {e : Env} {R : Room} {s : State} {m : MethodId} {args : Array Value} {below : List Frame} {meth : Method} {c : Code} {H : Heap} {locs : List Loc} {cells slots : Nat} {Q : State → Prop}
variable {cc : ByteArray} {pc : Nat} {ls : Array Slot} {rest : List Value} {dC : Nat → ClassId} {dI : Nat → Nat → Nat} {q : Nat → Nat} {cA : Nat → ClassId} {σ : MZ_} {H0 : Heap} {A : Nat → Prop}

theorem cw_G_44 (hts : ∀ w ∈ AW_, w.before args s = true) (hR : rm_G_isNode.frames + 1 ≤ R.frames ∧ 8 + (2 + 11) + rm_G_isNode.locals ≤ R.locals) : CallW R s args "StagedParsers$Grammar" "StagedParsers$Grammar" 44 y_G_isNode prog_4_method_4_code 2 (some .boolean) w_G_isNode rm_G_isNode 0 0 1 :=
  ⟨callB_of 1 hts (aw_in kw_244) rfl rfl rfl (hts _ kw_2) (hts _ kw_255) ⟨by decide, by decide, by decide +kernel⟩ hR, hts _ kw_242, hts _ kw_243⟩
end RW
def f_G_setBody (σ : MZ_) (a1 : Int32) (a2 : Int32) : Option (MZ_) :=
  (f_G_isRule a1).bind fun r1 => if r1 = 0 then some σ
  else (f_G_isNode σ a2).bind fun r2 => if r2 = 0 then some σ
  else gd_ a1 6 (st_ (va_up σ 7 (upd (σ 7) a1.toNatClampNeg a2)) fun σ1 => some σ1)
set_option maxHeartbeats 4000000 in
set_option maxRecDepth 100000 in
theorem c_G_setBody (l : Launch) (dC : Nat → ClassId) (dI : Nat → Nat → Nat) (q : Nat → Nat) (cA : Nat → ClassId) (pt : Nat) (σ : MZ_) (a1 : Int32) (a2 : Int32) (u : MZ_) (h : f_G_setBody σ a1 a2 = some u) : Met l y_G_setBody w_G_setBody rm_G_setBody (va_Pc [.ref (q 1), .int a1, .int a2] (PX_ dC dI q cA pt σ)) (QW_ none (fun H => va_P (dC, dI) cls_ (wX q cA u) H) (AX q)) 0 0 (AX q) := by
  refine Met.ofW (cc := prog_4_method_8_code) (maxL := 3) (ret := none) (by decide) rfl ?_
  intro p e s m args below meth c s₁ B hml hv
  obtain ⟨rfl, hP, hK, hD, hN, hZ⟩ := hv
  have hx := B.exec
  have hb := B.bytes
  have hr := B.returns
  have hts : ∀ w ∈ AW_, w.before _ s = true := fun w h => atoms_spec (ws := w_G_setBody) B.pre w (List.mem_cons_of_mem _ h)
  have hown : s.vm.findClass "StagedParsers$Grammar" = some m.cls := findClass_of_methodNamed B.named
  have hlocks := B.notSynchronized
  have hS : va_S (AX q) s.heap s.heap [] := va_S.rf
  have hl := lv_entry ([.ref (q 1), .int a1, .int a2]) (n := 3) (Nat.le_of_ble_eq_true rfl)
  rw [lg_entry_eq]
  generalize (lg_sl ([.ref (q 1), .int a1, .int a2]) ++ List.replicate (3 - (lg_sl ([.ref (q 1), .int a1, .int a2])).length) Slot.unset).toArray = ls at hl ⊢
  have hl : lv_has ls 3 [(0, .ref (q 1)), (1, .int a1), (2, .int a2)] := hl
  rw [f_G_setBody] at h
  refine lv_aload_n hx hb d_G_setBody_0 rfl (lv_at hl 0 rfl) ?_
  refine lv_iload_n hx hb d_G_setBody_1 rfl (lv_at hl 1 rfl) ?_
  obtain ⟨r1, hcl, h⟩ := bd_some h
  refine cx_read (va_runV (As := [.int a1]) (rest := []) ⟨hx, hb, hml, hown, hts⟩ (c_G_isRule l dC dI q cA pt σ a1 _ hcl) (cw_G_40 hts ⟨Nat.le_of_ble_eq_true rfl, Nat.le_of_ble_eq_true rfl⟩) ⟨pxX_B, va_recv hK hP (ci := 1) (q0 := 1) rfl rfl, pxX_U hP hK hD hN hZ hS⟩ rfl rfl hl.1 rfl (lv_room (Nat.le_of_ble_eq_true rfl)) d_G_setBody_2 ⟨Nat.zero_le _, Nat.zero_le _⟩) ?_
  refine lv_if_eq (tgt := 23) hx hb d_G_setBody_5 rfl (fun hc => ?_) (fun hc => ?_)
  · have h := if_t hc h
    obtain rfl := Option.some.inj h
    exact W.vret hx hb hr (fun t ht hW => ⟨rfl, by rw [ht]; exact hP, hS.F ht⟩) hS.2.2 d_G_setBody_23
  · have h := if_f hc h
    refine lv_aload_n hx hb d_G_setBody_8 rfl (lv_at hl 0 rfl) ?_
    refine lv_iload_n hx hb d_G_setBody_9 rfl (lv_at hl 2 rfl) ?_
    obtain ⟨r2, hcl, h⟩ := bd_some h
    refine cx_read (va_runV (As := [.int a2]) (rest := []) ⟨hx, hb, hml, hown, hts⟩ (c_G_isNode l dC dI q cA pt σ a2 _ hcl) (cw_G_44 hts ⟨Nat.le_of_ble_eq_true rfl, Nat.le_of_ble_eq_true rfl⟩) ⟨pxX_B, va_recv hK hP (ci := 1) (q0 := 1) rfl rfl, pxX_U hP hK hD hN hZ hS⟩ rfl rfl hl.1 rfl (lv_room (Nat.le_of_ble_eq_true rfl)) d_G_setBody_10 ⟨Nat.zero_le _, Nat.zero_le _⟩) ?_
    refine lv_if_eq (tgt := 23) hx hb d_G_setBody_13 rfl (fun hc => ?_) (fun hc => ?_)
    · have h := if_t hc h
      obtain rfl := Option.some.inj h
      exact W.vret hx hb hr (fun t ht hW => ⟨rfl, by rw [ht]; exact hP, hS.F ht⟩) hS.2.2 d_G_setBody_23
    · have h := if_f hc h
      refine lv_aload_n hx hb d_G_setBody_16 rfl (lv_at hl 0 rfl) ?_
      refine gf_G_27 hx hb hts hown hK hP d_G_setBody_17 ?_
      refine lv_iload_n hx hb d_G_setBody_20 rfl (lv_at hl 1 rfl) ?_
      refine lv_iload_n hx hb d_G_setBody_21 rfl (lv_at hl 2 rfl) ?_
      obtain ⟨hgd, h⟩ := gd_some h
      refine as_X_7 hx hb hK hP hD hS hgd d_G_setBody_22 (fun H locs hP hS => ?_)
      obtain ⟨σ1, eσ1, h⟩ := st_some h
      rw [← eσ1] at hP
      have hD : va_D (AX q) (wX q cA σ1) := dd_re (wX_f _ _ _ _) hD
      obtain rfl := Option.some.inj h
      exact W.vret hx hb hr (fun t ht hW => ⟨rfl, by rw [ht]; exact hP, hS.F ht⟩) hS.2.2 d_G_setBody_23
def y_G_bodies : MethodName := ⟨"StagedParsers$Grammar", "bodies", "()I"⟩
def w_G_bodies : List Cond := .code y_G_bodies prog_4_method_9_code 3 (some .int) :: AW_
def rm_G_bodies : Room := { frames := 2, cells := 0, slots := 0, locals := 42 }
theorem d_G_bodies_0 : decode prog_4_method_9_code 0 = .ok (.iconst 0, 1) := by decide +kernel
theorem d_G_bodies_1 : decode prog_4_method_9_code 1 = .ok (.istore_n 1, 1) := by decide +kernel
theorem d_G_bodies_2 : decode prog_4_method_9_code 2 = .ok (.iconst 0, 1) := by decide +kernel
theorem d_G_bodies_3 : decode prog_4_method_9_code 3 = .ok (.istore_n 2, 1) := by decide +kernel
theorem d_G_bodies_4 : decode prog_4_method_9_code 4 = .ok (.iload_n 2, 1) := by decide +kernel
theorem d_G_bodies_5 : decode prog_4_method_9_code 5 = .ok (.bipush 6, 2) := by decide +kernel
theorem d_G_bodies_7 : decode prog_4_method_9_code 7 = .ok (.if_icmp .ge 20, 3) := by decide +kernel
theorem d_G_bodies_10 : decode prog_4_method_9_code 10 = .ok (.aload_n 0, 1) := by decide +kernel
theorem d_G_bodies_11 : decode prog_4_method_9_code 11 = .ok (.iload_n 2, 1) := by decide +kernel
theorem d_G_bodies_12 : decode prog_4_method_9_code 12 = .ok (.invokevirtual 47, 3) := by decide +kernel
theorem d_G_bodies_15 : decode prog_4_method_9_code 15 = .ok (.ifCond .eq 6, 3) := by decide +kernel
theorem d_G_bodies_18 : decode prog_4_method_9_code 18 = .ok (.iinc 1 1, 3) := by decide +kernel
theorem d_G_bodies_21 : decode prog_4_method_9_code 21 = .ok (.iinc 2 1, 3) := by decide +kernel
theorem d_G_bodies_24 : decode prog_4_method_9_code 24 = .ok (.goto (-20), 3) := by decide +kernel
theorem d_G_bodies_27 : decode prog_4_method_9_code 27 = .ok (.iload_n 1, 1) := by decide +kernel
theorem d_G_bodies_28 : decode prog_4_method_9_code 28 = .ok (.ireturn, 1) := by decide +kernel
section RW
variable {p : Program} {l : Launch} {e : Env} {R : Room} {s : State} {m : MethodId} {args : Array Value} {below : List Frame} {meth : Method} {c : Code} {H : Heap} {locs : List Loc} {cells slots : Nat} {Q : State → Prop}
variable {cc : ByteArray} {pc : Nat} {ls : Array Slot} {rest : List Value} {dC : Nat → ClassId} {dI : Nat → Nat → Nat} {q : Nat → Nat} {cA : Nat → ClassId} {σ : MZ_} {H0 : Heap} {A : Nat → Prop}

theorem cw_G_47 (hts : ∀ w ∈ AW_, w.before args s = true) (hR : rm_G_hasBody.frames + 1 ≤ R.frames ∧ 8 + (2 + 11) + rm_G_hasBody.locals ≤ R.locals) : CallW R s args "StagedParsers$Grammar" "StagedParsers$Grammar" 47 y_G_hasBody prog_4_method_6_code 2 (some .boolean) w_G_hasBody rm_G_hasBody 0 0 1 :=
  ⟨callB_of 1 hts (aw_in kw_295) rfl rfl rfl (hts _ kw_2) (hts _ kw_418) ⟨by decide, by decide, by decide +kernel⟩ hR, hts _ kw_293, hts _ kw_294⟩
end RW
def f_G_bodies_L4 (σ : MZ_) : Nat → Int32 → Int32 → Option (Int32)
  | 0, _, _ => none
  | N + 1, x1, x2 => if 6 ≤ x2 then some x1
    else (f_G_hasBody σ x2).bind fun r1 => if r1 = 0 then f_G_bodies_L4 σ N x1 (x2 + 1)
    else f_G_bodies_L4 σ N (x1 + 1) (x2 + 1)
def f_G_bodies (σ : MZ_) : Option (Int32) :=
  f_G_bodies_L4 σ 100 0 0
set_option maxHeartbeats 4000000 in
set_option maxRecDepth 100000 in
theorem c_G_bodies (l : Launch) (dC : Nat → ClassId) (dI : Nat → Nat → Nat) (q : Nat → Nat) (cA : Nat → ClassId) (pt : Nat) (σ : MZ_) (u : Int32) (h : f_G_bodies σ = some u) : Met l y_G_bodies w_G_bodies rm_G_bodies (va_Pc [.ref (q 1)] (PX_ dC dI q cA pt σ)) (QcRead u) 0 0 (fun _ => False) := by
  refine Met.ofW (cc := prog_4_method_9_code) (maxL := 3) (ret := (some .int)) (by decide) rfl ?_
  intro p e s m args below meth c s₁ B hml hv
  obtain ⟨rfl, hP, hK, hD, hN, hZ⟩ := hv
  have hx := B.exec
  have hb := B.bytes
  have hr := B.returns
  have hts : ∀ w ∈ AW_, w.before _ s = true := fun w h => atoms_spec (ws := w_G_bodies) B.pre w (List.mem_cons_of_mem _ h)
  have hown : s.vm.findClass "StagedParsers$Grammar" = some m.cls := findClass_of_methodNamed B.named
  have hlocks := B.notSynchronized
  have hS : va_S (AX q) s.heap s.heap [] := va_S.rf
  have hl := lv_entry ([.ref (q 1)]) (n := 3) (Nat.le_of_ble_eq_true rfl)
  rw [lg_entry_eq]
  generalize (lg_sl ([.ref (q 1)]) ++ List.replicate (3 - (lg_sl ([.ref (q 1)])).length) Slot.unset).toArray = ls at hl ⊢
  have hl : lv_has ls 3 [(0, .ref (q 1))] := hl
  have L4 : ∀ (N4 : Nat) (x1 : Int32) (x2 : Int32), f_G_bodies_L4 σ N4 x1 x2 = some u → ∀ (ls : Array Slot), lv_has ls 3 [(0, .ref (q 1)), (1, .int x1), (2, .int x2)] → W p l e (headSpec w_G_bodies rm_G_bodies).room s m ([.ref (q 1)] : List Value).toArray below meth c s.heap [] 0 0 (MQ below (QcRead u) ([.ref (q 1)] : List Value).toArray s 0 0 (fun _ => False)) (F0 m 4 ls []) := by
    intro N4
    induction N4 with
    | zero => intro x1 x2 h; cases h
    | succ N4 ih4 =>
      intro x1 x2 h ls hl
      rw [f_G_bodies_L4] at h
      refine lv_iload_n hx hb d_G_bodies_4 rfl (lv_at hl 2 rfl) ?_
      refine lv_bipush (v := 6) hx hb d_G_bodies_5 (by decide) ?_
      refine lv_icmp_ge (tgt := 27) hx hb d_G_bodies_7 rfl (fun hc => ?_) (fun hc => ?_)
      · have h := if_t hc h
        refine lv_iload_n hx hb d_G_bodies_27 rfl (lv_at hl 1 rfl) ?_
        obtain rfl := Option.some.inj h
        exact W.iret hx hb hr (fun t ht hW => ⟨rfl, ht⟩) (fun _ h9 => nomatch h9) d_G_bodies_28
      · have h := if_f hc h
        refine lv_aload_n hx hb d_G_bodies_10 rfl (lv_at hl 0 rfl) ?_
        refine lv_iload_n hx hb d_G_bodies_11 rfl (lv_at hl 2 rfl) ?_
        obtain ⟨r1, hcl, h⟩ := bd_some h
        refine cx_read (va_runV (As := [.int x2]) (rest := []) ⟨hx, hb, hml, hown, hts⟩ (c_G_hasBody l dC dI q cA pt σ x2 _ hcl) (cw_G_47 hts ⟨Nat.le_of_ble_eq_true rfl, Nat.le_of_ble_eq_true rfl⟩) ⟨pxX_B, va_recv hK hP (ci := 1) (q0 := 1) rfl rfl, pxX_U hP hK hD hN hZ hS⟩ rfl rfl hl.1 rfl (lv_room (Nat.le_of_ble_eq_true rfl)) d_G_bodies_12 ⟨Nat.zero_le _, Nat.zero_le _⟩) ?_
        refine lv_if_eq (tgt := 21) hx hb d_G_bodies_15 rfl (fun hc => ?_) (fun hc => ?_)
        · have h := if_t hc h
          refine lv_iinc (v := x2 + 1) hx hb d_G_bodies_21 hl (k := 2) rfl rfl (by decide) rfl (fun ls hl => ?_)
          have hl : lv_has ls 3 [(2, .int (x2 + 1)), (0, .ref (q 1)), (1, .int x1)] := hl
          refine lv_goto (tgt := 4) hx hb d_G_bodies_24 rfl ?_
          exact ih4 _ _ h _ (lv_sub hl [1, 2, 0] rfl)
        · have h := if_f hc h
          refine lv_iinc (v := x1 + 1) hx hb d_G_bodies_18 hl (k := 1) rfl rfl (by decide) rfl (fun ls hl => ?_)
          have hl : lv_has ls 3 [(1, .int (x1 + 1)), (0, .ref (q 1)), (2, .int x2)] := hl
          refine lv_iinc (v := x2 + 1) hx hb d_G_bodies_21 hl (k := 2) rfl rfl (by decide) rfl (fun ls hl => ?_)
          have hl : lv_has ls 3 [(2, .int (x2 + 1)), (1, .int (x1 + 1)), (0, .ref (q 1))] := hl
          refine lv_goto (tgt := 4) hx hb d_G_bodies_24 rfl ?_
          exact ih4 _ _ h _ (lv_sub hl [2, 1, 0] rfl)
  rw [f_G_bodies] at h
  refine lv_iconst (v := 0) hx hb d_G_bodies_0 (by decide) ?_
  refine lv_istore_n hx hb d_G_bodies_1 rfl hl (by decide) rfl (fun ls hl => ?_)
  have hl : lv_has ls 3 [(1, .int 0), (0, .ref (q 1))] := hl
  refine lv_iconst (v := 0) hx hb d_G_bodies_2 (by decide) ?_
  refine lv_istore_n hx hb d_G_bodies_3 rfl hl (by decide) rfl (fun ls hl => ?_)
  have hl : lv_has ls 3 [(2, .int 0), (1, .int 0), (0, .ref (q 1))] := hl
  exact L4 _ _ _ h _ (lv_sub hl [2, 1, 0] rfl)
def y_G_kind : MethodName := ⟨"StagedParsers$Grammar", "kind", "(I)I"⟩
def w_G_kind : List Cond := .code y_G_kind prog_4_method_10_code 2 (some .int) :: AW_
def rm_G_kind : Room := { frames := 1, cells := 0, slots := 0, locals := 21 }
theorem d_G_kind_0 : decode prog_4_method_10_code 0 = .ok (.aload_n 0, 1) := by decide +kernel
theorem d_G_kind_1 : decode prog_4_method_10_code 1 = .ok (.iload_n 1, 1) := by decide +kernel
theorem d_G_kind_2 : decode prog_4_method_10_code 2 = .ok (.invokevirtual 44, 3) := by decide +kernel
theorem d_G_kind_5 : decode prog_4_method_10_code 5 = .ok (.ifCond .eq 12, 3) := by decide +kernel
theorem d_G_kind_8 : decode prog_4_method_10_code 8 = .ok (.aload_n 0, 1) := by decide +kernel
theorem d_G_kind_9 : decode prog_4_method_10_code 9 = .ok (.getfield 9, 3) := by decide +kernel
theorem d_G_kind_12 : decode prog_4_method_10_code 12 = .ok (.iload_n 1, 1) := by decide +kernel
theorem d_G_kind_13 : decode prog_4_method_10_code 13 = .ok (.iaload, 1) := by decide +kernel
theorem d_G_kind_14 : decode prog_4_method_10_code 14 = .ok (.goto 4, 3) := by decide +kernel
theorem d_G_kind_17 : decode prog_4_method_10_code 17 = .ok (.iconst 3, 1) := by decide +kernel
theorem d_G_kind_18 : decode prog_4_method_10_code 18 = .ok (.ireturn, 1) := by decide +kernel
section RW
variable {p : Program} {l : Launch} {e : Env} {R : Room} {s : State} {m : MethodId} {args : Array Value} {below : List Frame} {meth : Method} {c : Code} {H : Heap} {locs : List Loc} {cells slots : Nat} {Q : State → Prop}
variable {cc : ByteArray} {pc : Nat} {ls : Array Slot} {rest : List Value} {dC : Nat → ClassId} {dI : Nat → Nat → Nat} {q : Nat → Nat} {cA : Nat → ClassId} {σ : MZ_} {H0 : Heap} {A : Nat → Prop}

theorem gf_G_9 (hx : p.tables.exec = Jvm.exec) (hb : c.code = cc) (hts : ∀ w ∈ AW_, w.before args s = true) (hown : s.vm.findClass "StagedParsers$Grammar" = some m.cls) (hK : va_K (dC, dI) cls_ (tyX cA) s) (hP : va_P (dC, dI) cls_ (wX q cA σ) H) (hdg : decode cc pc = .ok (.getfield 9, 3)) (kk : W p l e R s m args below meth c H locs cells slots Q (F0 m (pc + 3) ls (.ref (q 2) :: rest))) : W p l e R s m args below meth c H locs cells slots Q (F0 m pc ls (.ref (q 1) :: rest)) :=
  va_get (D := (dC, dI)) (cl := cls_) (ci := 1) (v := .ref (q 2)) (ws := wX q cA σ) (tys := tyX cA) (C := Rz_G) (T := Tz_G) (N := 7) hx hb hts uz_G hown hK hP 1 rfl rfl 0 (by decide) (hts _ kw_35) (fun _ h9 => h9) rfl hdg kk
end RW
def f_G_kind (σ : MZ_) (a1 : Int32) : Option (Int32) :=
  (f_G_isNode σ a1).bind fun r1 => if r1 = 0 then some 3
  else gd_ a1 80 (some (σ 2 a1.toNatClampNeg))
set_option maxHeartbeats 4000000 in
set_option maxRecDepth 100000 in
theorem c_G_kind (l : Launch) (dC : Nat → ClassId) (dI : Nat → Nat → Nat) (q : Nat → Nat) (cA : Nat → ClassId) (pt : Nat) (σ : MZ_) (a1 : Int32) (u : Int32) (h : f_G_kind σ a1 = some u) : Met l y_G_kind w_G_kind rm_G_kind (va_Pc [.ref (q 1), .int a1] (PX_ dC dI q cA pt σ)) (QcRead u) 0 0 (fun _ => False) := by
  refine Met.ofW (cc := prog_4_method_10_code) (maxL := 2) (ret := (some .int)) (by decide) rfl ?_
  intro p e s m args below meth c s₁ B hml hv
  obtain ⟨rfl, hP, hK, hD, hN, hZ⟩ := hv
  have hx := B.exec
  have hb := B.bytes
  have hr := B.returns
  have hts : ∀ w ∈ AW_, w.before _ s = true := fun w h => atoms_spec (ws := w_G_kind) B.pre w (List.mem_cons_of_mem _ h)
  have hown : s.vm.findClass "StagedParsers$Grammar" = some m.cls := findClass_of_methodNamed B.named
  have hlocks := B.notSynchronized
  have hS : va_S (AX q) s.heap s.heap [] := va_S.rf
  have hl := lv_entry ([.ref (q 1), .int a1]) (n := 2) (Nat.le_of_ble_eq_true rfl)
  rw [lg_entry_eq]
  generalize (lg_sl ([.ref (q 1), .int a1]) ++ List.replicate (2 - (lg_sl ([.ref (q 1), .int a1])).length) Slot.unset).toArray = ls at hl ⊢
  have hl : lv_has ls 2 [(0, .ref (q 1)), (1, .int a1)] := hl
  rw [f_G_kind] at h
  refine lv_aload_n hx hb d_G_kind_0 rfl (lv_at hl 0 rfl) ?_
  refine lv_iload_n hx hb d_G_kind_1 rfl (lv_at hl 1 rfl) ?_
  obtain ⟨r1, hcl, h⟩ := bd_some h
  refine cx_read (va_runV (As := [.int a1]) (rest := []) ⟨hx, hb, hml, hown, hts⟩ (c_G_isNode l dC dI q cA pt σ a1 _ hcl) (cw_G_44 hts ⟨Nat.le_of_ble_eq_true rfl, Nat.le_of_ble_eq_true rfl⟩) ⟨pxX_B, va_recv hK hP (ci := 1) (q0 := 1) rfl rfl, pxX_U hP hK hD hN hZ hS⟩ rfl rfl hl.1 rfl (lv_room (Nat.le_of_ble_eq_true rfl)) d_G_kind_2 ⟨Nat.zero_le _, Nat.zero_le _⟩) ?_
  refine lv_if_eq (tgt := 17) hx hb d_G_kind_5 rfl (fun hc => ?_) (fun hc => ?_)
  · have h := if_t hc h
    refine lv_iconst (v := 3) hx hb d_G_kind_17 (by decide) ?_
    obtain rfl := Option.some.inj h
    exact W.iret hx hb hr (fun t ht hW => ⟨rfl, ht⟩) (fun _ h9 => nomatch h9) d_G_kind_18
  · have h := if_f hc h
    refine lv_aload_n hx hb d_G_kind_8 rfl (lv_at hl 0 rfl) ?_
    refine gf_G_9 hx hb hts hown hK hP d_G_kind_9 ?_
    refine lv_iload_n hx hb d_G_kind_12 rfl (lv_at hl 1 rfl) ?_
    obtain ⟨hgd, h⟩ := gd_some h
    refine al_X_2 hx hb hK hP hgd d_G_kind_13 ?_
    refine lv_goto (tgt := 18) hx hb d_G_kind_14 rfl ?_
    obtain rfl := Option.some.inj h
    exact W.iret hx hb hr (fun t ht hW => ⟨rfl, ht⟩) (fun _ h9 => nomatch h9) d_G_kind_18
def y_G_a : MethodName := ⟨"StagedParsers$Grammar", "a", "(I)I"⟩
def w_G_a : List Cond := .code y_G_a prog_4_method_11_code 2 (some .int) :: AW_
def rm_G_a : Room := { frames := 1, cells := 0, slots := 0, locals := 21 }
theorem d_G_a_0 : decode prog_4_method_11_code 0 = .ok (.aload_n 0, 1) := by decide +kernel
theorem d_G_a_1 : decode prog_4_method_11_code 1 = .ok (.iload_n 1, 1) := by decide +kernel
theorem d_G_a_2 : decode prog_4_method_11_code 2 = .ok (.invokevirtual 44, 3) := by decide +kernel
theorem d_G_a_5 : decode prog_4_method_11_code 5 = .ok (.ifCond .eq 12, 3) := by decide +kernel
theorem d_G_a_8 : decode prog_4_method_11_code 8 = .ok (.aload_n 0, 1) := by decide +kernel
theorem d_G_a_9 : decode prog_4_method_11_code 9 = .ok (.getfield 15, 3) := by decide +kernel
theorem d_G_a_12 : decode prog_4_method_11_code 12 = .ok (.iload_n 1, 1) := by decide +kernel
theorem d_G_a_13 : decode prog_4_method_11_code 13 = .ok (.iaload, 1) := by decide +kernel
theorem d_G_a_14 : decode prog_4_method_11_code 14 = .ok (.goto 4, 3) := by decide +kernel
theorem d_G_a_17 : decode prog_4_method_11_code 17 = .ok (.iconst (-1), 1) := by decide +kernel
theorem d_G_a_18 : decode prog_4_method_11_code 18 = .ok (.ireturn, 1) := by decide +kernel
section RW
variable {p : Program} {l : Launch} {e : Env} {R : Room} {s : State} {m : MethodId} {args : Array Value} {below : List Frame} {meth : Method} {c : Code} {H : Heap} {locs : List Loc} {cells slots : Nat} {Q : State → Prop}
variable {cc : ByteArray} {pc : Nat} {ls : Array Slot} {rest : List Value} {dC : Nat → ClassId} {dI : Nat → Nat → Nat} {q : Nat → Nat} {cA : Nat → ClassId} {σ : MZ_} {H0 : Heap} {A : Nat → Prop}

theorem gf_G_15 (hx : p.tables.exec = Jvm.exec) (hb : c.code = cc) (hts : ∀ w ∈ AW_, w.before args s = true) (hown : s.vm.findClass "StagedParsers$Grammar" = some m.cls) (hK : va_K (dC, dI) cls_ (tyX cA) s) (hP : va_P (dC, dI) cls_ (wX q cA σ) H) (hdg : decode cc pc = .ok (.getfield 15, 3)) (kk : W p l e R s m args below meth c H locs cells slots Q (F0 m (pc + 3) ls (.ref (q 3) :: rest))) : W p l e R s m args below meth c H locs cells slots Q (F0 m pc ls (.ref (q 1) :: rest)) :=
  va_get (D := (dC, dI)) (cl := cls_) (ci := 1) (v := .ref (q 3)) (ws := wX q cA σ) (tys := tyX cA) (C := Rz_G) (T := Tz_G) (N := 7) hx hb hts uz_G hown hK hP 1 rfl rfl 1 (by decide) (hts _ kw_36) (fun _ h9 => h9) rfl hdg kk
end RW
def f_G_a (σ : MZ_) (a1 : Int32) : Option (Int32) :=
  (f_G_isNode σ a1).bind fun r1 => if r1 = 0 then some (-1)
  else gd_ a1 80 (some (σ 3 a1.toNatClampNeg))
set_option maxHeartbeats 4000000 in
set_option maxRecDepth 100000 in
theorem c_G_a (l : Launch) (dC : Nat → ClassId) (dI : Nat → Nat → Nat) (q : Nat → Nat) (cA : Nat → ClassId) (pt : Nat) (σ : MZ_) (a1 : Int32) (u : Int32) (h : f_G_a σ a1 = some u) : Met l y_G_a w_G_a rm_G_a (va_Pc [.ref (q 1), .int a1] (PX_ dC dI q cA pt σ)) (QcRead u) 0 0 (fun _ => False) := by
  refine Met.ofW (cc := prog_4_method_11_code) (maxL := 2) (ret := (some .int)) (by decide) rfl ?_
  intro p e s m args below meth c s₁ B hml hv
  obtain ⟨rfl, hP, hK, hD, hN, hZ⟩ := hv
  have hx := B.exec
  have hb := B.bytes
  have hr := B.returns
  have hts : ∀ w ∈ AW_, w.before _ s = true := fun w h => atoms_spec (ws := w_G_a) B.pre w (List.mem_cons_of_mem _ h)
  have hown : s.vm.findClass "StagedParsers$Grammar" = some m.cls := findClass_of_methodNamed B.named
  have hlocks := B.notSynchronized
  have hS : va_S (AX q) s.heap s.heap [] := va_S.rf
  have hl := lv_entry ([.ref (q 1), .int a1]) (n := 2) (Nat.le_of_ble_eq_true rfl)
  rw [lg_entry_eq]
  generalize (lg_sl ([.ref (q 1), .int a1]) ++ List.replicate (2 - (lg_sl ([.ref (q 1), .int a1])).length) Slot.unset).toArray = ls at hl ⊢
  have hl : lv_has ls 2 [(0, .ref (q 1)), (1, .int a1)] := hl
  rw [f_G_a] at h
  refine lv_aload_n hx hb d_G_a_0 rfl (lv_at hl 0 rfl) ?_
  refine lv_iload_n hx hb d_G_a_1 rfl (lv_at hl 1 rfl) ?_
  obtain ⟨r1, hcl, h⟩ := bd_some h
  refine cx_read (va_runV (As := [.int a1]) (rest := []) ⟨hx, hb, hml, hown, hts⟩ (c_G_isNode l dC dI q cA pt σ a1 _ hcl) (cw_G_44 hts ⟨Nat.le_of_ble_eq_true rfl, Nat.le_of_ble_eq_true rfl⟩) ⟨pxX_B, va_recv hK hP (ci := 1) (q0 := 1) rfl rfl, pxX_U hP hK hD hN hZ hS⟩ rfl rfl hl.1 rfl (lv_room (Nat.le_of_ble_eq_true rfl)) d_G_a_2 ⟨Nat.zero_le _, Nat.zero_le _⟩) ?_
  refine lv_if_eq (tgt := 17) hx hb d_G_a_5 rfl (fun hc => ?_) (fun hc => ?_)
  · have h := if_t hc h
    refine lv_iconst (v := (-1)) hx hb d_G_a_17 (by decide) ?_
    obtain rfl := Option.some.inj h
    exact W.iret hx hb hr (fun t ht hW => ⟨rfl, ht⟩) (fun _ h9 => nomatch h9) d_G_a_18
  · have h := if_f hc h
    refine lv_aload_n hx hb d_G_a_8 rfl (lv_at hl 0 rfl) ?_
    refine gf_G_15 hx hb hts hown hK hP d_G_a_9 ?_
    refine lv_iload_n hx hb d_G_a_12 rfl (lv_at hl 1 rfl) ?_
    obtain ⟨hgd, h⟩ := gd_some h
    refine al_X_3 hx hb hK hP hgd d_G_a_13 ?_
    refine lv_goto (tgt := 18) hx hb d_G_a_14 rfl ?_
    obtain rfl := Option.some.inj h
    exact W.iret hx hb hr (fun t ht hW => ⟨rfl, ht⟩) (fun _ h9 => nomatch h9) d_G_a_18
def y_G_b : MethodName := ⟨"StagedParsers$Grammar", "b", "(I)I"⟩
def w_G_b : List Cond := .code y_G_b prog_4_method_12_code 2 (some .int) :: AW_
def rm_G_b : Room := { frames := 1, cells := 0, slots := 0, locals := 21 }
theorem d_G_b_0 : decode prog_4_method_12_code 0 = .ok (.aload_n 0, 1) := by decide +kernel
theorem d_G_b_1 : decode prog_4_method_12_code 1 = .ok (.iload_n 1, 1) := by decide +kernel
theorem d_G_b_2 : decode prog_4_method_12_code 2 = .ok (.invokevirtual 44, 3) := by decide +kernel
theorem d_G_b_5 : decode prog_4_method_12_code 5 = .ok (.ifCond .eq 12, 3) := by decide +kernel
theorem d_G_b_8 : decode prog_4_method_12_code 8 = .ok (.aload_n 0, 1) := by decide +kernel
theorem d_G_b_9 : decode prog_4_method_12_code 9 = .ok (.getfield 18, 3) := by decide +kernel
theorem d_G_b_12 : decode prog_4_method_12_code 12 = .ok (.iload_n 1, 1) := by decide +kernel
theorem d_G_b_13 : decode prog_4_method_12_code 13 = .ok (.iaload, 1) := by decide +kernel
theorem d_G_b_14 : decode prog_4_method_12_code 14 = .ok (.goto 4, 3) := by decide +kernel
theorem d_G_b_17 : decode prog_4_method_12_code 17 = .ok (.iconst (-1), 1) := by decide +kernel
theorem d_G_b_18 : decode prog_4_method_12_code 18 = .ok (.ireturn, 1) := by decide +kernel
section RW
variable {p : Program} {l : Launch} {e : Env} {R : Room} {s : State} {m : MethodId} {args : Array Value} {below : List Frame} {meth : Method} {c : Code} {H : Heap} {locs : List Loc} {cells slots : Nat} {Q : State → Prop}
variable {cc : ByteArray} {pc : Nat} {ls : Array Slot} {rest : List Value} {dC : Nat → ClassId} {dI : Nat → Nat → Nat} {q : Nat → Nat} {cA : Nat → ClassId} {σ : MZ_} {H0 : Heap} {A : Nat → Prop}

theorem gf_G_18 (hx : p.tables.exec = Jvm.exec) (hb : c.code = cc) (hts : ∀ w ∈ AW_, w.before args s = true) (hown : s.vm.findClass "StagedParsers$Grammar" = some m.cls) (hK : va_K (dC, dI) cls_ (tyX cA) s) (hP : va_P (dC, dI) cls_ (wX q cA σ) H) (hdg : decode cc pc = .ok (.getfield 18, 3)) (kk : W p l e R s m args below meth c H locs cells slots Q (F0 m (pc + 3) ls (.ref (q 4) :: rest))) : W p l e R s m args below meth c H locs cells slots Q (F0 m pc ls (.ref (q 1) :: rest)) :=
  va_get (D := (dC, dI)) (cl := cls_) (ci := 1) (v := .ref (q 4)) (ws := wX q cA σ) (tys := tyX cA) (C := Rz_G) (T := Tz_G) (N := 7) hx hb hts uz_G hown hK hP 1 rfl rfl 2 (by decide) (hts _ kw_37) (fun _ h9 => h9) rfl hdg kk
end RW
def f_G_b (σ : MZ_) (a1 : Int32) : Option (Int32) :=
  (f_G_isNode σ a1).bind fun r1 => if r1 = 0 then some (-1)
  else gd_ a1 80 (some (σ 4 a1.toNatClampNeg))
set_option maxHeartbeats 4000000 in
set_option maxRecDepth 100000 in
theorem c_G_b (l : Launch) (dC : Nat → ClassId) (dI : Nat → Nat → Nat) (q : Nat → Nat) (cA : Nat → ClassId) (pt : Nat) (σ : MZ_) (a1 : Int32) (u : Int32) (h : f_G_b σ a1 = some u) : Met l y_G_b w_G_b rm_G_b (va_Pc [.ref (q 1), .int a1] (PX_ dC dI q cA pt σ)) (QcRead u) 0 0 (fun _ => False) := by
  refine Met.ofW (cc := prog_4_method_12_code) (maxL := 2) (ret := (some .int)) (by decide) rfl ?_
  intro p e s m args below meth c s₁ B hml hv
  obtain ⟨rfl, hP, hK, hD, hN, hZ⟩ := hv
  have hx := B.exec
  have hb := B.bytes
  have hr := B.returns
  have hts : ∀ w ∈ AW_, w.before _ s = true := fun w h => atoms_spec (ws := w_G_b) B.pre w (List.mem_cons_of_mem _ h)
  have hown : s.vm.findClass "StagedParsers$Grammar" = some m.cls := findClass_of_methodNamed B.named
  have hlocks := B.notSynchronized
  have hS : va_S (AX q) s.heap s.heap [] := va_S.rf
  have hl := lv_entry ([.ref (q 1), .int a1]) (n := 2) (Nat.le_of_ble_eq_true rfl)
  rw [lg_entry_eq]
  generalize (lg_sl ([.ref (q 1), .int a1]) ++ List.replicate (2 - (lg_sl ([.ref (q 1), .int a1])).length) Slot.unset).toArray = ls at hl ⊢
  have hl : lv_has ls 2 [(0, .ref (q 1)), (1, .int a1)] := hl
  rw [f_G_b] at h
  refine lv_aload_n hx hb d_G_b_0 rfl (lv_at hl 0 rfl) ?_
  refine lv_iload_n hx hb d_G_b_1 rfl (lv_at hl 1 rfl) ?_
  obtain ⟨r1, hcl, h⟩ := bd_some h
  refine cx_read (va_runV (As := [.int a1]) (rest := []) ⟨hx, hb, hml, hown, hts⟩ (c_G_isNode l dC dI q cA pt σ a1 _ hcl) (cw_G_44 hts ⟨Nat.le_of_ble_eq_true rfl, Nat.le_of_ble_eq_true rfl⟩) ⟨pxX_B, va_recv hK hP (ci := 1) (q0 := 1) rfl rfl, pxX_U hP hK hD hN hZ hS⟩ rfl rfl hl.1 rfl (lv_room (Nat.le_of_ble_eq_true rfl)) d_G_b_2 ⟨Nat.zero_le _, Nat.zero_le _⟩) ?_
  refine lv_if_eq (tgt := 17) hx hb d_G_b_5 rfl (fun hc => ?_) (fun hc => ?_)
  · have h := if_t hc h
    refine lv_iconst (v := (-1)) hx hb d_G_b_17 (by decide) ?_
    obtain rfl := Option.some.inj h
    exact W.iret hx hb hr (fun t ht hW => ⟨rfl, ht⟩) (fun _ h9 => nomatch h9) d_G_b_18
  · have h := if_f hc h
    refine lv_aload_n hx hb d_G_b_8 rfl (lv_at hl 0 rfl) ?_
    refine gf_G_18 hx hb hts hown hK hP d_G_b_9 ?_
    refine lv_iload_n hx hb d_G_b_12 rfl (lv_at hl 1 rfl) ?_
    obtain ⟨hgd, h⟩ := gd_some h
    refine al_X_4 hx hb hK hP hgd d_G_b_13 ?_
    refine lv_goto (tgt := 18) hx hb d_G_b_14 rfl ?_
    obtain rfl := Option.some.inj h
    exact W.iret hx hb hr (fun t ht hW => ⟨rfl, ht⟩) (fun _ h9 => nomatch h9) d_G_b_18
def y_G_c : MethodName := ⟨"StagedParsers$Grammar", "c", "(I)I"⟩
def w_G_c : List Cond := .code y_G_c prog_4_method_13_code 2 (some .int) :: AW_
def rm_G_c : Room := { frames := 1, cells := 0, slots := 0, locals := 21 }
theorem d_G_c_0 : decode prog_4_method_13_code 0 = .ok (.aload_n 0, 1) := by decide +kernel
theorem d_G_c_1 : decode prog_4_method_13_code 1 = .ok (.iload_n 1, 1) := by decide +kernel
theorem d_G_c_2 : decode prog_4_method_13_code 2 = .ok (.invokevirtual 44, 3) := by decide +kernel
theorem d_G_c_5 : decode prog_4_method_13_code 5 = .ok (.ifCond .eq 12, 3) := by decide +kernel
theorem d_G_c_8 : decode prog_4_method_13_code 8 = .ok (.aload_n 0, 1) := by decide +kernel
theorem d_G_c_9 : decode prog_4_method_13_code 9 = .ok (.getfield 21, 3) := by decide +kernel
theorem d_G_c_12 : decode prog_4_method_13_code 12 = .ok (.iload_n 1, 1) := by decide +kernel
theorem d_G_c_13 : decode prog_4_method_13_code 13 = .ok (.iaload, 1) := by decide +kernel
theorem d_G_c_14 : decode prog_4_method_13_code 14 = .ok (.goto 4, 3) := by decide +kernel
theorem d_G_c_17 : decode prog_4_method_13_code 17 = .ok (.iconst (-1), 1) := by decide +kernel
theorem d_G_c_18 : decode prog_4_method_13_code 18 = .ok (.ireturn, 1) := by decide +kernel
section RW
variable {p : Program} {l : Launch} {e : Env} {R : Room} {s : State} {m : MethodId} {args : Array Value} {below : List Frame} {meth : Method} {c : Code} {H : Heap} {locs : List Loc} {cells slots : Nat} {Q : State → Prop}
variable {cc : ByteArray} {pc : Nat} {ls : Array Slot} {rest : List Value} {dC : Nat → ClassId} {dI : Nat → Nat → Nat} {q : Nat → Nat} {cA : Nat → ClassId} {σ : MZ_} {H0 : Heap} {A : Nat → Prop}

theorem gf_G_21 (hx : p.tables.exec = Jvm.exec) (hb : c.code = cc) (hts : ∀ w ∈ AW_, w.before args s = true) (hown : s.vm.findClass "StagedParsers$Grammar" = some m.cls) (hK : va_K (dC, dI) cls_ (tyX cA) s) (hP : va_P (dC, dI) cls_ (wX q cA σ) H) (hdg : decode cc pc = .ok (.getfield 21, 3)) (kk : W p l e R s m args below meth c H locs cells slots Q (F0 m (pc + 3) ls (.ref (q 5) :: rest))) : W p l e R s m args below meth c H locs cells slots Q (F0 m pc ls (.ref (q 1) :: rest)) :=
  va_get (D := (dC, dI)) (cl := cls_) (ci := 1) (v := .ref (q 5)) (ws := wX q cA σ) (tys := tyX cA) (C := Rz_G) (T := Tz_G) (N := 7) hx hb hts uz_G hown hK hP 1 rfl rfl 3 (by decide) (hts _ kw_38) (fun _ h9 => h9) rfl hdg kk
end RW
def f_G_c (σ : MZ_) (a1 : Int32) : Option (Int32) :=
  (f_G_isNode σ a1).bind fun r1 => if r1 = 0 then some (-1)
  else gd_ a1 80 (some (σ 5 a1.toNatClampNeg))
set_option maxHeartbeats 4000000 in
set_option maxRecDepth 100000 in
theorem c_G_c (l : Launch) (dC : Nat → ClassId) (dI : Nat → Nat → Nat) (q : Nat → Nat) (cA : Nat → ClassId) (pt : Nat) (σ : MZ_) (a1 : Int32) (u : Int32) (h : f_G_c σ a1 = some u) : Met l y_G_c w_G_c rm_G_c (va_Pc [.ref (q 1), .int a1] (PX_ dC dI q cA pt σ)) (QcRead u) 0 0 (fun _ => False) := by
  refine Met.ofW (cc := prog_4_method_13_code) (maxL := 2) (ret := (some .int)) (by decide) rfl ?_
  intro p e s m args below meth c s₁ B hml hv
  obtain ⟨rfl, hP, hK, hD, hN, hZ⟩ := hv
  have hx := B.exec
  have hb := B.bytes
  have hr := B.returns
  have hts : ∀ w ∈ AW_, w.before _ s = true := fun w h => atoms_spec (ws := w_G_c) B.pre w (List.mem_cons_of_mem _ h)
  have hown : s.vm.findClass "StagedParsers$Grammar" = some m.cls := findClass_of_methodNamed B.named
  have hlocks := B.notSynchronized
  have hS : va_S (AX q) s.heap s.heap [] := va_S.rf
  have hl := lv_entry ([.ref (q 1), .int a1]) (n := 2) (Nat.le_of_ble_eq_true rfl)
  rw [lg_entry_eq]
  generalize (lg_sl ([.ref (q 1), .int a1]) ++ List.replicate (2 - (lg_sl ([.ref (q 1), .int a1])).length) Slot.unset).toArray = ls at hl ⊢
  have hl : lv_has ls 2 [(0, .ref (q 1)), (1, .int a1)] := hl
  rw [f_G_c] at h
  refine lv_aload_n hx hb d_G_c_0 rfl (lv_at hl 0 rfl) ?_
  refine lv_iload_n hx hb d_G_c_1 rfl (lv_at hl 1 rfl) ?_
  obtain ⟨r1, hcl, h⟩ := bd_some h
  refine cx_read (va_runV (As := [.int a1]) (rest := []) ⟨hx, hb, hml, hown, hts⟩ (c_G_isNode l dC dI q cA pt σ a1 _ hcl) (cw_G_44 hts ⟨Nat.le_of_ble_eq_true rfl, Nat.le_of_ble_eq_true rfl⟩) ⟨pxX_B, va_recv hK hP (ci := 1) (q0 := 1) rfl rfl, pxX_U hP hK hD hN hZ hS⟩ rfl rfl hl.1 rfl (lv_room (Nat.le_of_ble_eq_true rfl)) d_G_c_2 ⟨Nat.zero_le _, Nat.zero_le _⟩) ?_
  refine lv_if_eq (tgt := 17) hx hb d_G_c_5 rfl (fun hc => ?_) (fun hc => ?_)
  · have h := if_t hc h
    refine lv_iconst (v := (-1)) hx hb d_G_c_17 (by decide) ?_
    obtain rfl := Option.some.inj h
    exact W.iret hx hb hr (fun t ht hW => ⟨rfl, ht⟩) (fun _ h9 => nomatch h9) d_G_c_18
  · have h := if_f hc h
    refine lv_aload_n hx hb d_G_c_8 rfl (lv_at hl 0 rfl) ?_
    refine gf_G_21 hx hb hts hown hK hP d_G_c_9 ?_
    refine lv_iload_n hx hb d_G_c_12 rfl (lv_at hl 1 rfl) ?_
    obtain ⟨hgd, h⟩ := gd_some h
    refine al_X_5 hx hb hK hP hgd d_G_c_13 ?_
    refine lv_goto (tgt := 18) hx hb d_G_c_14 rfl ?_
    obtain rfl := Option.some.inj h
    exact W.iret hx hb hr (fun t ht hW => ⟨rfl, ht⟩) (fun _ h9 => nomatch h9) d_G_c_18
def y_G_canBePart : MethodName := ⟨"StagedParsers$Grammar", "canBePart", "(I)Z"⟩
def w_G_canBePart : List Cond := .code y_G_canBePart prog_4_method_16_code 2 (some .boolean) :: AW_
def rm_G_canBePart : Room := { frames := 1, cells := 0, slots := 0, locals := 21 }
theorem d_G_canBePart_0 : decode prog_4_method_16_code 0 = .ok (.aload_n 0, 1) := by decide +kernel
theorem d_G_canBePart_1 : decode prog_4_method_16_code 1 = .ok (.iload_n 1, 1) := by decide +kernel
theorem d_G_canBePart_2 : decode prog_4_method_16_code 2 = .ok (.invokevirtual 44, 3) := by decide +kernel
theorem d_G_canBePart_5 : decode prog_4_method_16_code 5 = .ok (.ifCond .eq 18, 3) := by decide +kernel
theorem d_G_canBePart_8 : decode prog_4_method_16_code 8 = .ok (.aload_n 0, 1) := by decide +kernel
theorem d_G_canBePart_9 : decode prog_4_method_16_code 9 = .ok (.getfield 24, 3) := by decide +kernel
theorem d_G_canBePart_12 : decode prog_4_method_16_code 12 = .ok (.iload_n 1, 1) := by decide +kernel
theorem d_G_canBePart_13 : decode prog_4_method_16_code 13 = .ok (.iaload, 1) := by decide +kernel
theorem d_G_canBePart_14 : decode prog_4_method_16_code 14 = .ok (.bipush 8, 2) := by decide +kernel
theorem d_G_canBePart_16 : decode prog_4_method_16_code 16 = .ok (.if_icmp .ge 7, 3) := by decide +kernel
theorem d_G_canBePart_19 : decode prog_4_method_16_code 19 = .ok (.iconst 1, 1) := by decide +kernel
theorem d_G_canBePart_20 : decode prog_4_method_16_code 20 = .ok (.goto 4, 3) := by decide +kernel
theorem d_G_canBePart_23 : decode prog_4_method_16_code 23 = .ok (.iconst 0, 1) := by decide +kernel
theorem d_G_canBePart_24 : decode prog_4_method_16_code 24 = .ok (.ireturn, 1) := by decide +kernel
section RW
variable {p : Program} {l : Launch} {e : Env} {R : Room} {s : State} {m : MethodId} {args : Array Value} {below : List Frame} {meth : Method} {c : Code} {H : Heap} {locs : List Loc} {cells slots : Nat} {Q : State → Prop}
variable {cc : ByteArray} {pc : Nat} {ls : Array Slot} {rest : List Value} {dC : Nat → ClassId} {dI : Nat → Nat → Nat} {q : Nat → Nat} {cA : Nat → ClassId} {σ : MZ_} {H0 : Heap} {A : Nat → Prop}

theorem gf_G_24 (hx : p.tables.exec = Jvm.exec) (hb : c.code = cc) (hts : ∀ w ∈ AW_, w.before args s = true) (hown : s.vm.findClass "StagedParsers$Grammar" = some m.cls) (hK : va_K (dC, dI) cls_ (tyX cA) s) (hP : va_P (dC, dI) cls_ (wX q cA σ) H) (hdg : decode cc pc = .ok (.getfield 24, 3)) (kk : W p l e R s m args below meth c H locs cells slots Q (F0 m (pc + 3) ls (.ref (q 6) :: rest))) : W p l e R s m args below meth c H locs cells slots Q (F0 m pc ls (.ref (q 1) :: rest)) :=
  va_get (D := (dC, dI)) (cl := cls_) (ci := 1) (v := .ref (q 6)) (ws := wX q cA σ) (tys := tyX cA) (C := Rz_G) (T := Tz_G) (N := 7) hx hb hts uz_G hown hK hP 1 rfl rfl 4 (by decide) (hts _ kw_39) (fun _ h9 => h9) rfl hdg kk
end RW
def f_G_canBePart (σ : MZ_) (a1 : Int32) : Option (Int32) :=
  (f_G_isNode σ a1).bind fun r1 => if r1 = 0 then some 0
  else gd_ a1 80 (if 8 ≤ (σ 6 a1.toNatClampNeg) then some 0
  else some 1)
set_option maxHeartbeats 4000000 in
set_option maxRecDepth 100000 in
theorem c_G_canBePart (l : Launch) (dC : Nat → ClassId) (dI : Nat → Nat → Nat) (q : Nat → Nat) (cA : Nat → ClassId) (pt : Nat) (σ : MZ_) (a1 : Int32) (u : Int32) (h : f_G_canBePart σ a1 = some u) : Met l y_G_canBePart w_G_canBePart rm_G_canBePart (va_Pc [.ref (q 1), .int a1] (PX_ dC dI q cA pt σ)) (QcRead u) 0 0 (fun _ => False) := by
  refine Met.ofW (cc := prog_4_method_16_code) (maxL := 2) (ret := (some .boolean)) (by decide) rfl ?_
  intro p e s m args below meth c s₁ B hml hv
  obtain ⟨rfl, hP, hK, hD, hN, hZ⟩ := hv
  have hx := B.exec
  have hb := B.bytes
  have hr := B.returns
  have hts : ∀ w ∈ AW_, w.before _ s = true := fun w h => atoms_spec (ws := w_G_canBePart) B.pre w (List.mem_cons_of_mem _ h)
  have hown : s.vm.findClass "StagedParsers$Grammar" = some m.cls := findClass_of_methodNamed B.named
  have hlocks := B.notSynchronized
  have hS : va_S (AX q) s.heap s.heap [] := va_S.rf
  have hl := lv_entry ([.ref (q 1), .int a1]) (n := 2) (Nat.le_of_ble_eq_true rfl)
  rw [lg_entry_eq]
  generalize (lg_sl ([.ref (q 1), .int a1]) ++ List.replicate (2 - (lg_sl ([.ref (q 1), .int a1])).length) Slot.unset).toArray = ls at hl ⊢
  have hl : lv_has ls 2 [(0, .ref (q 1)), (1, .int a1)] := hl
  rw [f_G_canBePart] at h
  refine lv_aload_n hx hb d_G_canBePart_0 rfl (lv_at hl 0 rfl) ?_
  refine lv_iload_n hx hb d_G_canBePart_1 rfl (lv_at hl 1 rfl) ?_
  obtain ⟨r1, hcl, h⟩ := bd_some h
  refine cx_read (va_runV (As := [.int a1]) (rest := []) ⟨hx, hb, hml, hown, hts⟩ (c_G_isNode l dC dI q cA pt σ a1 _ hcl) (cw_G_44 hts ⟨Nat.le_of_ble_eq_true rfl, Nat.le_of_ble_eq_true rfl⟩) ⟨pxX_B, va_recv hK hP (ci := 1) (q0 := 1) rfl rfl, pxX_U hP hK hD hN hZ hS⟩ rfl rfl hl.1 rfl (lv_room (Nat.le_of_ble_eq_true rfl)) d_G_canBePart_2 ⟨Nat.zero_le _, Nat.zero_le _⟩) ?_
  refine lv_if_eq (tgt := 23) hx hb d_G_canBePart_5 rfl (fun hc => ?_) (fun hc => ?_)
  · have h := if_t hc h
    refine lv_iconst (v := 0) hx hb d_G_canBePart_23 (by decide) ?_
    obtain rfl := Option.some.inj h
    exact W.zret hx hb hr rfl (fun t ht hW => ⟨rfl, ht⟩) (fun _ h9 => nomatch h9) d_G_canBePart_24
  · have h := if_f hc h
    refine lv_aload_n hx hb d_G_canBePart_8 rfl (lv_at hl 0 rfl) ?_
    refine gf_G_24 hx hb hts hown hK hP d_G_canBePart_9 ?_
    refine lv_iload_n hx hb d_G_canBePart_12 rfl (lv_at hl 1 rfl) ?_
    obtain ⟨hgd, h⟩ := gd_some h
    refine al_X_6 hx hb hK hP hgd d_G_canBePart_13 ?_
    refine lv_bipush (v := 8) hx hb d_G_canBePart_14 (by decide) ?_
    refine lv_icmp_ge (tgt := 23) hx hb d_G_canBePart_16 rfl (fun hc => ?_) (fun hc => ?_)
    · have h := if_t hc h
      refine lv_iconst (v := 0) hx hb d_G_canBePart_23 (by decide) ?_
      obtain rfl := Option.some.inj h
      exact W.zret hx hb hr rfl (fun t ht hW => ⟨rfl, ht⟩) (fun _ h9 => nomatch h9) d_G_canBePart_24
    · have h := if_f hc h
      refine lv_iconst (v := 1) hx hb d_G_canBePart_19 (by decide) ?_
      refine lv_goto (tgt := 24) hx hb d_G_canBePart_20 rfl ?_
      obtain rfl := Option.some.inj h
      exact W.zret hx hb hr rfl (fun t ht hW => ⟨rfl, ht⟩) (fun _ h9 => nomatch h9) d_G_canBePart_24
def y_G_isWay : MethodName := ⟨"StagedParsers$Grammar", "isWay", "(I)Z"⟩
def w_G_isWay : List Cond := .code y_G_isWay prog_4_method_17_code 1 (some .boolean) :: AW_
def rm_G_isWay : Room := { frames := 0, cells := 0, slots := 0, locals := 0 }
theorem d_G_isWay_0 : decode prog_4_method_17_code 0 = .ok (.iload_n 0, 1) := by decide +kernel
theorem d_G_isWay_1 : decode prog_4_method_17_code 1 = .ok (.ifCond .lt 13, 3) := by decide +kernel
theorem d_G_isWay_4 : decode prog_4_method_17_code 4 = .ok (.iload_n 0, 1) := by decide +kernel
theorem d_G_isWay_5 : decode prog_4_method_17_code 5 = .ok (.bipush 8, 2) := by decide +kernel
theorem d_G_isWay_7 : decode prog_4_method_17_code 7 = .ok (.if_icmp .ge 7, 3) := by decide +kernel
theorem d_G_isWay_10 : decode prog_4_method_17_code 10 = .ok (.iconst 1, 1) := by decide +kernel
theorem d_G_isWay_11 : decode prog_4_method_17_code 11 = .ok (.goto 4, 3) := by decide +kernel
theorem d_G_isWay_14 : decode prog_4_method_17_code 14 = .ok (.iconst 0, 1) := by decide +kernel
theorem d_G_isWay_15 : decode prog_4_method_17_code 15 = .ok (.ireturn, 1) := by decide +kernel
def f_G_isWay (a0 : Int32) : Option (Int32) :=
  if a0 < 0 then some 0
  else if 8 ≤ a0 then some 0
  else some 1
set_option maxHeartbeats 4000000 in
set_option maxRecDepth 100000 in
theorem c_G_isWay (l : Launch) (dC : Nat → ClassId) (dI : Nat → Nat → Nat) (q : Nat → Nat) (cA : Nat → ClassId) (pt : Nat) (σ : MZ_) (a0 : Int32) (u : Int32) (h : f_G_isWay a0 = some u) : Met l y_G_isWay w_G_isWay rm_G_isWay (va_Pc [.int a0] (PX_ dC dI q cA pt σ)) (QcRead u) 0 0 (fun _ => False) := by
  refine Met.ofW (cc := prog_4_method_17_code) (maxL := 1) (ret := (some .boolean)) (by decide) rfl ?_
  intro p e s m args below meth c s₁ B hml hv
  obtain ⟨rfl, hP, hK, hD, hN, hZ⟩ := hv
  have hx := B.exec
  have hb := B.bytes
  have hr := B.returns
  have hts : ∀ w ∈ AW_, w.before _ s = true := fun w h => atoms_spec (ws := w_G_isWay) B.pre w (List.mem_cons_of_mem _ h)
  have hown : s.vm.findClass "StagedParsers$Grammar" = some m.cls := findClass_of_methodNamed B.named
  have hlocks := B.notSynchronized
  have hS : va_S (AX q) s.heap s.heap [] := va_S.rf
  have hl := lv_entry ([.int a0]) (n := 1) (Nat.le_of_ble_eq_true rfl)
  rw [lg_entry_eq]
  generalize (lg_sl ([.int a0]) ++ List.replicate (1 - (lg_sl ([.int a0])).length) Slot.unset).toArray = ls at hl ⊢
  have hl : lv_has ls 1 [(0, .int a0)] := hl
  rw [f_G_isWay] at h
  refine lv_iload_n hx hb d_G_isWay_0 rfl (lv_at hl 0 rfl) ?_
  refine lv_if_lt (tgt := 14) hx hb d_G_isWay_1 rfl (fun hc => ?_) (fun hc => ?_)
  · have h := if_t hc h
    refine lv_iconst (v := 0) hx hb d_G_isWay_14 (by decide) ?_
    obtain rfl := Option.some.inj h
    exact W.zret hx hb hr rfl (fun t ht hW => ⟨rfl, ht⟩) (fun _ h9 => nomatch h9) d_G_isWay_15
  · have h := if_f hc h
    refine lv_iload_n hx hb d_G_isWay_4 rfl (lv_at hl 0 rfl) ?_
    refine lv_bipush (v := 8) hx hb d_G_isWay_5 (by decide) ?_
    refine lv_icmp_ge (tgt := 14) hx hb d_G_isWay_7 rfl (fun hc => ?_) (fun hc => ?_)
    · have h := if_t hc h
      refine lv_iconst (v := 0) hx hb d_G_isWay_14 (by decide) ?_
      obtain rfl := Option.some.inj h
      exact W.zret hx hb hr rfl (fun t ht hW => ⟨rfl, ht⟩) (fun _ h9 => nomatch h9) d_G_isWay_15
    · have h := if_f hc h
      refine lv_iconst (v := 1) hx hb d_G_isWay_10 (by decide) ?_
      refine lv_goto (tgt := 15) hx hb d_G_isWay_11 rfl ?_
      obtain rfl := Option.some.inj h
      exact W.zret hx hb hr rfl (fun t ht hW => ⟨rfl, ht⟩) (fun _ h9 => nomatch h9) d_G_isWay_15
def y_G_allows : MethodName := ⟨"StagedParsers$Grammar", "allows", "(IIII)Z"⟩
def w_G_allows : List Cond := .code y_G_allows prog_4_method_14_code 5 (some .boolean) :: AW_
def rm_G_allows : Room := { frames := 2, cells := 0, slots := 0, locals := 42 }
theorem d_G_allows_0 : decode prog_4_method_14_code 0 = .ok (.iload_n 1, 1) := by decide +kernel
theorem d_G_allows_1 : decode prog_4_method_14_code 1 = .ok (.tableswitch 214 0 13 #[71, 73, 78, 71, 103, 133, 155, 155, 155, 161, 133, 182, 188, 209], 71) := by decide +kernel
theorem d_G_allows_72 : decode prog_4_method_14_code 72 = .ok (.iconst 1, 1) := by decide +kernel
theorem d_G_allows_73 : decode prog_4_method_14_code 73 = .ok (.ireturn, 1) := by decide +kernel
theorem d_G_allows_74 : decode prog_4_method_14_code 74 = .ok (.iload_n 2, 1) := by decide +kernel
theorem d_G_allows_75 : decode prog_4_method_14_code 75 = .ok (.invokestatic 50, 3) := by decide +kernel
theorem d_G_allows_78 : decode prog_4_method_14_code 78 = .ok (.ireturn, 1) := by decide +kernel
theorem d_G_allows_79 : decode prog_4_method_14_code 79 = .ok (.iload_n 2, 1) := by decide +kernel
theorem d_G_allows_80 : decode prog_4_method_14_code 80 = .ok (.invokestatic 50, 3) := by decide +kernel
theorem d_G_allows_83 : decode prog_4_method_14_code 83 = .ok (.ifCond .eq 19, 3) := by decide +kernel
theorem d_G_allows_86 : decode prog_4_method_14_code 86 = .ok (.iload_n 3, 1) := by decide +kernel
theorem d_G_allows_87 : decode prog_4_method_14_code 87 = .ok (.invokestatic 50, 3) := by decide +kernel
theorem d_G_allows_90 : decode prog_4_method_14_code 90 = .ok (.ifCond .eq 12, 3) := by decide +kernel
theorem d_G_allows_93 : decode prog_4_method_14_code 93 = .ok (.iload_n 2, 1) := by decide +kernel
theorem d_G_allows_94 : decode prog_4_method_14_code 94 = .ok (.iload_n 3, 1) := by decide +kernel
theorem d_G_allows_95 : decode prog_4_method_14_code 95 = .ok (.if_icmp .gt 7, 3) := by decide +kernel
theorem d_G_allows_98 : decode prog_4_method_14_code 98 = .ok (.iconst 1, 1) := by decide +kernel
theorem d_G_allows_99 : decode prog_4_method_14_code 99 = .ok (.goto 4, 3) := by decide +kernel
theorem d_G_allows_102 : decode prog_4_method_14_code 102 = .ok (.iconst 0, 1) := by decide +kernel
theorem d_G_allows_103 : decode prog_4_method_14_code 103 = .ok (.ireturn, 1) := by decide +kernel
theorem d_G_allows_104 : decode prog_4_method_14_code 104 = .ok (.aload_n 0, 1) := by decide +kernel
theorem d_G_allows_105 : decode prog_4_method_14_code 105 = .ok (.iload_n 2, 1) := by decide +kernel
theorem d_G_allows_106 : decode prog_4_method_14_code 106 = .ok (.invokevirtual 53, 3) := by decide +kernel
theorem d_G_allows_109 : decode prog_4_method_14_code 109 = .ok (.ifCond .eq 23, 3) := by decide +kernel
theorem d_G_allows_112 : decode prog_4_method_14_code 112 = .ok (.aload_n 0, 1) := by decide +kernel
theorem d_G_allows_113 : decode prog_4_method_14_code 113 = .ok (.iload_n 3, 1) := by decide +kernel
theorem d_G_allows_114 : decode prog_4_method_14_code 114 = .ok (.invokevirtual 53, 3) := by decide +kernel
theorem d_G_allows_117 : decode prog_4_method_14_code 117 = .ok (.ifCond .eq 15, 3) := by decide +kernel
theorem d_G_allows_120 : decode prog_4_method_14_code 120 = .ok (.iload 4, 2) := by decide +kernel
theorem d_G_allows_122 : decode prog_4_method_14_code 122 = .ok (.invokestatic 56, 3) := by decide +kernel
theorem d_G_allows_125 : decode prog_4_method_14_code 125 = .ok (.ifCond .eq 7, 3) := by decide +kernel
theorem d_G_allows_128 : decode prog_4_method_14_code 128 = .ok (.iconst 1, 1) := by decide +kernel
theorem d_G_allows_129 : decode prog_4_method_14_code 129 = .ok (.goto 4, 3) := by decide +kernel
theorem d_G_allows_132 : decode prog_4_method_14_code 132 = .ok (.iconst 0, 1) := by decide +kernel
theorem d_G_allows_133 : decode prog_4_method_14_code 133 = .ok (.ireturn, 1) := by decide +kernel
theorem d_G_allows_134 : decode prog_4_method_14_code 134 = .ok (.aload_n 0, 1) := by decide +kernel
theorem d_G_allows_135 : decode prog_4_method_14_code 135 = .ok (.iload_n 2, 1) := by decide +kernel
theorem d_G_allows_136 : decode prog_4_method_14_code 136 = .ok (.invokevirtual 53, 3) := by decide +kernel
theorem d_G_allows_139 : decode prog_4_method_14_code 139 = .ok (.ifCond .eq 15, 3) := by decide +kernel
theorem d_G_allows_142 : decode prog_4_method_14_code 142 = .ok (.aload_n 0, 1) := by decide +kernel
theorem d_G_allows_143 : decode prog_4_method_14_code 143 = .ok (.iload_n 3, 1) := by decide +kernel
theorem d_G_allows_144 : decode prog_4_method_14_code 144 = .ok (.invokevirtual 53, 3) := by decide +kernel
theorem d_G_allows_147 : decode prog_4_method_14_code 147 = .ok (.ifCond .eq 7, 3) := by decide +kernel
theorem d_G_allows_150 : decode prog_4_method_14_code 150 = .ok (.iconst 1, 1) := by decide +kernel
theorem d_G_allows_151 : decode prog_4_method_14_code 151 = .ok (.goto 4, 3) := by decide +kernel
theorem d_G_allows_154 : decode prog_4_method_14_code 154 = .ok (.iconst 0, 1) := by decide +kernel
theorem d_G_allows_155 : decode prog_4_method_14_code 155 = .ok (.ireturn, 1) := by decide +kernel
theorem d_G_allows_156 : decode prog_4_method_14_code 156 = .ok (.aload_n 0, 1) := by decide +kernel
theorem d_G_allows_157 : decode prog_4_method_14_code 157 = .ok (.iload_n 2, 1) := by decide +kernel
theorem d_G_allows_158 : decode prog_4_method_14_code 158 = .ok (.invokevirtual 53, 3) := by decide +kernel
theorem d_G_allows_161 : decode prog_4_method_14_code 161 = .ok (.ireturn, 1) := by decide +kernel
theorem d_G_allows_162 : decode prog_4_method_14_code 162 = .ok (.aload_n 0, 1) := by decide +kernel
theorem d_G_allows_163 : decode prog_4_method_14_code 163 = .ok (.iload_n 2, 1) := by decide +kernel
theorem d_G_allows_164 : decode prog_4_method_14_code 164 = .ok (.invokevirtual 53, 3) := by decide +kernel
theorem d_G_allows_167 : decode prog_4_method_14_code 167 = .ok (.ifCond .eq 14, 3) := by decide +kernel
theorem d_G_allows_170 : decode prog_4_method_14_code 170 = .ok (.iload_n 3, 1) := by decide +kernel
theorem d_G_allows_171 : decode prog_4_method_14_code 171 = .ok (.invokestatic 56, 3) := by decide +kernel
theorem d_G_allows_174 : decode prog_4_method_14_code 174 = .ok (.ifCond .eq 7, 3) := by decide +kernel
theorem d_G_allows_177 : decode prog_4_method_14_code 177 = .ok (.iconst 1, 1) := by decide +kernel
theorem d_G_allows_178 : decode prog_4_method_14_code 178 = .ok (.goto 4, 3) := by decide +kernel
theorem d_G_allows_181 : decode prog_4_method_14_code 181 = .ok (.iconst 0, 1) := by decide +kernel
theorem d_G_allows_182 : decode prog_4_method_14_code 182 = .ok (.ireturn, 1) := by decide +kernel
theorem d_G_allows_183 : decode prog_4_method_14_code 183 = .ok (.aload_n 0, 1) := by decide +kernel
theorem d_G_allows_184 : decode prog_4_method_14_code 184 = .ok (.iload_n 2, 1) := by decide +kernel
theorem d_G_allows_185 : decode prog_4_method_14_code 185 = .ok (.invokevirtual 40, 3) := by decide +kernel
theorem d_G_allows_188 : decode prog_4_method_14_code 188 = .ok (.ireturn, 1) := by decide +kernel
theorem d_G_allows_189 : decode prog_4_method_14_code 189 = .ok (.aload_n 0, 1) := by decide +kernel
theorem d_G_allows_190 : decode prog_4_method_14_code 190 = .ok (.iload_n 2, 1) := by decide +kernel
theorem d_G_allows_191 : decode prog_4_method_14_code 191 = .ok (.invokevirtual 53, 3) := by decide +kernel
theorem d_G_allows_194 : decode prog_4_method_14_code 194 = .ok (.ifCond .eq 14, 3) := by decide +kernel
theorem d_G_allows_197 : decode prog_4_method_14_code 197 = .ok (.iload_n 3, 1) := by decide +kernel
theorem d_G_allows_198 : decode prog_4_method_14_code 198 = .ok (.invokestatic 59, 3) := by decide +kernel
theorem d_G_allows_201 : decode prog_4_method_14_code 201 = .ok (.ifCond .eq 7, 3) := by decide +kernel
theorem d_G_allows_204 : decode prog_4_method_14_code 204 = .ok (.iconst 1, 1) := by decide +kernel
theorem d_G_allows_205 : decode prog_4_method_14_code 205 = .ok (.goto 4, 3) := by decide +kernel
theorem d_G_allows_208 : decode prog_4_method_14_code 208 = .ok (.iconst 0, 1) := by decide +kernel
theorem d_G_allows_209 : decode prog_4_method_14_code 209 = .ok (.ireturn, 1) := by decide +kernel
theorem d_G_allows_210 : decode prog_4_method_14_code 210 = .ok (.iload_n 2, 1) := by decide +kernel
theorem d_G_allows_211 : decode prog_4_method_14_code 211 = .ok (.invokestatic 59, 3) := by decide +kernel
theorem d_G_allows_214 : decode prog_4_method_14_code 214 = .ok (.ireturn, 1) := by decide +kernel
theorem d_G_allows_215 : decode prog_4_method_14_code 215 = .ok (.iconst 0, 1) := by decide +kernel
theorem d_G_allows_216 : decode prog_4_method_14_code 216 = .ok (.ireturn, 1) := by decide +kernel
section RW
variable {p : Program} {l : Launch} {e : Env} {R : Room} {s : State} {m : MethodId} {args : Array Value} {below : List Frame} {meth : Method} {c : Code} {H : Heap} {locs : List Loc} {cells slots : Nat} {Q : State → Prop}
variable {cc : ByteArray} {pc : Nat} {ls : Array Slot} {rest : List Value} {dC : Nat → ClassId} {dI : Nat → Nat → Nat} {q : Nat → Nat} {cA : Nat → ClassId} {σ : MZ_} {H0 : Heap} {A : Nat → Prop}

theorem cw_G_50 (hts : ∀ w ∈ AW_, w.before args s = true) (hN : ∀ w ∈ NW_, va_Nw w s) (hR : rm_S_isSign.frames + 1 ≤ R.frames ∧ 8 + (1 + 11) + rm_S_isSign.locals ≤ R.locals) : va_CN R s args "StagedParsers$Grammar" 50 y_S_isSign "StagedParsers" prog_1_method_14_code 1 (some .boolean) w_S_isSign rm_S_isSign 0 0 1 ∧ (Cond.static y_S_isSign).before args s = true ∧ True :=
  ⟨va_cnB 1 hts (aw_in kw_434) rfl rfl rfl (hN _ (List.mem_of_getElem? (i := 5) rfl)) (hts _ kw_1) ⟨by decide, by decide, by decide +kernel⟩ hR, hts _ kw_433, trivial⟩
theorem cw_G_53 (hts : ∀ w ∈ AW_, w.before args s = true) (hR : rm_G_canBePart.frames + 1 ≤ R.frames ∧ 8 + (2 + 11) + rm_G_canBePart.locals ≤ R.locals) : CallW R s args "StagedParsers$Grammar" "StagedParsers$Grammar" 53 y_G_canBePart prog_4_method_16_code 2 (some .boolean) w_G_canBePart rm_G_canBePart 0 0 1 :=
  ⟨callB_of 1 hts (aw_in kw_438) rfl rfl rfl (hts _ kw_2) (hts _ kw_435) ⟨by decide, by decide, by decide +kernel⟩ hR, hts _ kw_437, hts _ ks_21⟩
theorem cw_G_56 (hts : ∀ w ∈ AW_, w.before args s = true) (hR : rm_G_isWay.frames + 1 ≤ R.frames ∧ 8 + (1 + 11) + rm_G_isWay.locals ≤ R.locals) : CallB R s args "StagedParsers$Grammar" 56 y_G_isWay prog_4_method_17_code 1 (some .boolean) w_G_isWay rm_G_isWay 0 0 1 ∧ (Cond.static y_G_isWay).before args s = true :=
  ⟨callB_of 1 hts (aw_in kw_441) rfl rfl rfl (hts _ kw_2) (hts _ kw_439) ⟨by decide, by decide, by decide +kernel⟩ hR, hts _ kw_440⟩
theorem cw_G_59 (hts : ∀ w ∈ AW_, w.before args s = true) (hN : ∀ w ∈ NW_, va_Nw w s) (hR : rm_S_isRegister.frames + 1 ≤ R.frames ∧ 8 + (1 + 11) + rm_S_isRegister.locals ≤ R.locals) : va_CN R s args "StagedParsers$Grammar" 59 y_S_isRegister "StagedParsers" prog_1_method_15_code 1 (some .boolean) w_S_isRegister rm_S_isRegister 0 0 1 ∧ (Cond.static y_S_isRegister).before args s = true ∧ True :=
  ⟨va_cnB 1 hts (aw_in kw_403) rfl rfl rfl (hN _ (List.mem_of_getElem? (i := 6) rfl)) (hts _ kw_1) ⟨by decide, by decide, by decide +kernel⟩ hR, hts _ kw_402, trivial⟩
end RW
def f_G_allows (σ : MZ_) (a1 : Int32) (a2 : Int32) (a3 : Int32) (a4 : Int32) : Option (Int32) :=
  if a1 = 0 then some 1
  else if a1 = 1 then (f_S_isSign a2).bind fun r1 => bo_ r1 (some r1)
  else if a1 = 2 then (f_S_isSign a2).bind fun r2 => if r2 = 0 then some 0
    else (f_S_isSign a3).bind fun r3 => if r3 = 0 then some 0
    else if a3 < a2 then some 0
    else some 1
  else if a1 = 3 then some 1
  else if a1 = 4 then (f_G_canBePart σ a2).bind fun r4 => if r4 = 0 then some 0
    else (f_G_canBePart σ a3).bind fun r5 => if r5 = 0 then some 0
    else (f_G_isWay a4).bind fun r6 => if r6 = 0 then some 0
    else some 1
  else if a1 = 5 then (f_G_canBePart σ a2).bind fun r7 => if r7 = 0 then some 0
    else (f_G_canBePart σ a3).bind fun r8 => if r8 = 0 then some 0
    else some 1
  else if a1 = 6 then (f_G_canBePart σ a2).bind fun r9 => bo_ r9 (some r9)
  else if a1 = 7 then (f_G_canBePart σ a2).bind fun r10 => bo_ r10 (some r10)
  else if a1 = 8 then (f_G_canBePart σ a2).bind fun r11 => bo_ r11 (some r11)
  else if a1 = 9 then (f_G_canBePart σ a2).bind fun r12 => if r12 = 0 then some 0
    else (f_G_isWay a3).bind fun r13 => if r13 = 0 then some 0
    else some 1
  else if a1 = 10 then (f_G_canBePart σ a2).bind fun r14 => if r14 = 0 then some 0
    else (f_G_canBePart σ a3).bind fun r15 => if r15 = 0 then some 0
    else some 1
  else if a1 = 11 then (f_G_isRule a2).bind fun r16 => bo_ r16 (some r16)
  else if a1 = 12 then (f_G_canBePart σ a2).bind fun r17 => if r17 = 0 then some 0
    else (f_S_isRegister a3).bind fun r18 => if r18 = 0 then some 0
    else some 1
  else if a1 = 13 then (f_S_isRegister a2).bind fun r19 => bo_ r19 (some r19)
  else some 0
set_option maxHeartbeats 4000000 in
set_option maxRecDepth 100000 in
theorem c_G_allows (l : Launch) (dC : Nat → ClassId) (dI : Nat → Nat → Nat) (q : Nat → Nat) (cA : Nat → ClassId) (pt : Nat) (σ : MZ_) (a1 : Int32) (a2 : Int32) (a3 : Int32) (a4 : Int32) (u : Int32) (h : f_G_allows σ a1 a2 a3 a4 = some u) : Met l y_G_allows w_G_allows rm_G_allows (va_Pc [.ref (q 1), .int a1, .int a2, .int a3, .int a4] (PX_ dC dI q cA pt σ)) (QcRead u) 0 0 (fun _ => False) := by
  refine Met.ofW (cc := prog_4_method_14_code) (maxL := 5) (ret := (some .boolean)) (by decide) rfl ?_
  intro p e s m args below meth c s₁ B hml hv
  obtain ⟨rfl, hP, hK, hD, hN, hZ⟩ := hv
  have hx := B.exec
  have hb := B.bytes
  have hr := B.returns
  have hts : ∀ w ∈ AW_, w.before _ s = true := fun w h => atoms_spec (ws := w_G_allows) B.pre w (List.mem_cons_of_mem _ h)
  have hown : s.vm.findClass "StagedParsers$Grammar" = some m.cls := findClass_of_methodNamed B.named
  have hlocks := B.notSynchronized
  have hS : va_S (AX q) s.heap s.heap [] := va_S.rf
  have hl := lv_entry ([.ref (q 1), .int a1, .int a2, .int a3, .int a4]) (n := 5) (Nat.le_of_ble_eq_true rfl)
  rw [lg_entry_eq]
  generalize (lg_sl ([.ref (q 1), .int a1, .int a2, .int a3, .int a4]) ++ List.replicate (5 - (lg_sl ([.ref (q 1), .int a1, .int a2, .int a3, .int a4])).length) Slot.unset).toArray = ls at hl ⊢
  have hl : lv_has ls 5 [(0, .ref (q 1)), (1, .int a1), (2, .int a2), (3, .int a3), (4, .int a4)] := hl
  rw [f_G_allows] at h
  refine lv_iload_n hx hb d_G_allows_0 rfl (lv_at hl 1 rfl) ?_
  by_cases hc0 : a1 = 0
  · have h := if_t hc0 h
    refine sw_in (tgt := 72) hx hb d_G_allows_1 hc0 (by decide) (by decide) rfl rfl ?_
    refine lv_iconst (v := 1) hx hb d_G_allows_72 (by decide) ?_
    obtain rfl := Option.some.inj h
    exact W.zret hx hb hr rfl (fun t ht hW => ⟨rfl, ht⟩) (fun _ h9 => nomatch h9) d_G_allows_73
  have h := if_f hc0 h
  by_cases hc1 : a1 = 1
  · have h := if_t hc1 h
    refine sw_in (tgt := 74) hx hb d_G_allows_1 hc1 (by decide) (by decide) rfl rfl ?_
    refine lv_iload_n hx hb d_G_allows_74 rfl (lv_at hl 2 rfl) ?_
    obtain ⟨r1, hcl, h⟩ := bd_some h
    refine cx_read (va_runSN (As := [.int a2]) (rest := []) ⟨hx, hb, hml, hown, hts⟩ (c_S_isSign l dC dI q cA pt σ a2 _ hcl) (cw_G_50 hts hN ⟨Nat.le_of_ble_eq_true rfl, Nat.le_of_ble_eq_true rfl⟩) ⟨pxX_B, pxX_U hP hK hD hN hZ hS⟩ rfl rfl hl.1 rfl (lv_room (Nat.le_of_ble_eq_true rfl)) d_G_allows_75 ⟨Nat.zero_le _, Nat.zero_le _⟩) ?_
    obtain ⟨hbo, h⟩ := bo_some h
    obtain rfl := Option.some.inj h
    exact W.zret hx hb hr (bo_nar hbo) (fun t ht hW => ⟨rfl, ht⟩) (fun _ h9 => nomatch h9) d_G_allows_78
  have h := if_f hc1 h
  by_cases hc2 : a1 = 2
  · have h := if_t hc2 h
    refine sw_in (tgt := 79) hx hb d_G_allows_1 hc2 (by decide) (by decide) rfl rfl ?_
    refine lv_iload_n hx hb d_G_allows_79 rfl (lv_at hl 2 rfl) ?_
    obtain ⟨r2, hcl, h⟩ := bd_some h
    refine cx_read (va_runSN (As := [.int a2]) (rest := []) ⟨hx, hb, hml, hown, hts⟩ (c_S_isSign l dC dI q cA pt σ a2 _ hcl) (cw_G_50 hts hN ⟨Nat.le_of_ble_eq_true rfl, Nat.le_of_ble_eq_true rfl⟩) ⟨pxX_B, pxX_U hP hK hD hN hZ hS⟩ rfl rfl hl.1 rfl (lv_room (Nat.le_of_ble_eq_true rfl)) d_G_allows_80 ⟨Nat.zero_le _, Nat.zero_le _⟩) ?_
    refine lv_if_eq (tgt := 102) hx hb d_G_allows_83 rfl (fun hc => ?_) (fun hc => ?_)
    · have h := if_t hc h
      refine lv_iconst (v := 0) hx hb d_G_allows_102 (by decide) ?_
      obtain rfl := Option.some.inj h
      exact W.zret hx hb hr rfl (fun t ht hW => ⟨rfl, ht⟩) (fun _ h9 => nomatch h9) d_G_allows_103
    · have h := if_f hc h
      refine lv_iload_n hx hb d_G_allows_86 rfl (lv_at hl 3 rfl) ?_
      obtain ⟨r3, hcl, h⟩ := bd_some h
      refine cx_read (va_runSN (As := [.int a3]) (rest := []) ⟨hx, hb, hml, hown, hts⟩ (c_S_isSign l dC dI q cA pt σ a3 _ hcl) (cw_G_50 hts hN ⟨Nat.le_of_ble_eq_true rfl, Nat.le_of_ble_eq_true rfl⟩) ⟨pxX_B, pxX_U hP hK hD hN hZ hS⟩ rfl rfl hl.1 rfl (lv_room (Nat.le_of_ble_eq_true rfl)) d_G_allows_87 ⟨Nat.zero_le _, Nat.zero_le _⟩) ?_
      refine lv_if_eq (tgt := 102) hx hb d_G_allows_90 rfl (fun hc => ?_) (fun hc => ?_)
      · have h := if_t hc h
        refine lv_iconst (v := 0) hx hb d_G_allows_102 (by decide) ?_
        obtain rfl := Option.some.inj h
        exact W.zret hx hb hr rfl (fun t ht hW => ⟨rfl, ht⟩) (fun _ h9 => nomatch h9) d_G_allows_103
      · have h := if_f hc h
        refine lv_iload_n hx hb d_G_allows_93 rfl (lv_at hl 2 rfl) ?_
        refine lv_iload_n hx hb d_G_allows_94 rfl (lv_at hl 3 rfl) ?_
        refine lv_icmp_gt (tgt := 102) hx hb d_G_allows_95 rfl (fun hc => ?_) (fun hc => ?_)
        · have h := if_t hc h
          refine lv_iconst (v := 0) hx hb d_G_allows_102 (by decide) ?_
          obtain rfl := Option.some.inj h
          exact W.zret hx hb hr rfl (fun t ht hW => ⟨rfl, ht⟩) (fun _ h9 => nomatch h9) d_G_allows_103
        · have h := if_f hc h
          refine lv_iconst (v := 1) hx hb d_G_allows_98 (by decide) ?_
          refine lv_goto (tgt := 103) hx hb d_G_allows_99 rfl ?_
          obtain rfl := Option.some.inj h
          exact W.zret hx hb hr rfl (fun t ht hW => ⟨rfl, ht⟩) (fun _ h9 => nomatch h9) d_G_allows_103
  have h := if_f hc2 h
  by_cases hc3 : a1 = 3
  · have h := if_t hc3 h
    refine sw_in (tgt := 72) hx hb d_G_allows_1 hc3 (by decide) (by decide) rfl rfl ?_
    refine lv_iconst (v := 1) hx hb d_G_allows_72 (by decide) ?_
    obtain rfl := Option.some.inj h
    exact W.zret hx hb hr rfl (fun t ht hW => ⟨rfl, ht⟩) (fun _ h9 => nomatch h9) d_G_allows_73
  have h := if_f hc3 h
  by_cases hc4 : a1 = 4
  · have h := if_t hc4 h
    refine sw_in (tgt := 104) hx hb d_G_allows_1 hc4 (by decide) (by decide) rfl rfl ?_
    refine lv_aload_n hx hb d_G_allows_104 rfl (lv_at hl 0 rfl) ?_
    refine lv_iload_n hx hb d_G_allows_105 rfl (lv_at hl 2 rfl) ?_
    obtain ⟨r4, hcl, h⟩ := bd_some h
    refine cx_read (va_runV (As := [.int a2]) (rest := []) ⟨hx, hb, hml, hown, hts⟩ (c_G_canBePart l dC dI q cA pt σ a2 _ hcl) (cw_G_53 hts ⟨Nat.le_of_ble_eq_true rfl, Nat.le_of_ble_eq_true rfl⟩) ⟨pxX_B, va_recv hK hP (ci := 1) (q0 := 1) rfl rfl, pxX_U hP hK hD hN hZ hS⟩ rfl rfl hl.1 rfl (lv_room (Nat.le_of_ble_eq_true rfl)) d_G_allows_106 ⟨Nat.zero_le _, Nat.zero_le _⟩) ?_
    refine lv_if_eq (tgt := 132) hx hb d_G_allows_109 rfl (fun hc => ?_) (fun hc => ?_)
    · have h := if_t hc h
      refine lv_iconst (v := 0) hx hb d_G_allows_132 (by decide) ?_
      obtain rfl := Option.some.inj h
      exact W.zret hx hb hr rfl (fun t ht hW => ⟨rfl, ht⟩) (fun _ h9 => nomatch h9) d_G_allows_133
    · have h := if_f hc h
      refine lv_aload_n hx hb d_G_allows_112 rfl (lv_at hl 0 rfl) ?_
      refine lv_iload_n hx hb d_G_allows_113 rfl (lv_at hl 3 rfl) ?_
      obtain ⟨r5, hcl, h⟩ := bd_some h
      refine cx_read (va_runV (As := [.int a3]) (rest := []) ⟨hx, hb, hml, hown, hts⟩ (c_G_canBePart l dC dI q cA pt σ a3 _ hcl) (cw_G_53 hts ⟨Nat.le_of_ble_eq_true rfl, Nat.le_of_ble_eq_true rfl⟩) ⟨pxX_B, va_recv hK hP (ci := 1) (q0 := 1) rfl rfl, pxX_U hP hK hD hN hZ hS⟩ rfl rfl hl.1 rfl (lv_room (Nat.le_of_ble_eq_true rfl)) d_G_allows_114 ⟨Nat.zero_le _, Nat.zero_le _⟩) ?_
      refine lv_if_eq (tgt := 132) hx hb d_G_allows_117 rfl (fun hc => ?_) (fun hc => ?_)
      · have h := if_t hc h
        refine lv_iconst (v := 0) hx hb d_G_allows_132 (by decide) ?_
        obtain rfl := Option.some.inj h
        exact W.zret hx hb hr rfl (fun t ht hW => ⟨rfl, ht⟩) (fun _ h9 => nomatch h9) d_G_allows_133
      · have h := if_f hc h
        refine lv_iload hx hb d_G_allows_120 (lv_at hl 4 rfl) ?_
        obtain ⟨r6, hcl, h⟩ := bd_some h
        refine cx_read (va_runS (As := [.int a4]) (rest := []) ⟨hx, hb, hml, hown, hts⟩ (c_G_isWay l dC dI q cA pt σ a4 _ hcl) (cw_G_56 hts ⟨Nat.le_of_ble_eq_true rfl, Nat.le_of_ble_eq_true rfl⟩) ⟨pxX_B, pxX_U hP hK hD hN hZ hS⟩ rfl rfl hl.1 rfl (lv_room (Nat.le_of_ble_eq_true rfl)) d_G_allows_122 ⟨Nat.zero_le _, Nat.zero_le _⟩) ?_
        refine lv_if_eq (tgt := 132) hx hb d_G_allows_125 rfl (fun hc => ?_) (fun hc => ?_)
        · have h := if_t hc h
          refine lv_iconst (v := 0) hx hb d_G_allows_132 (by decide) ?_
          obtain rfl := Option.some.inj h
          exact W.zret hx hb hr rfl (fun t ht hW => ⟨rfl, ht⟩) (fun _ h9 => nomatch h9) d_G_allows_133
        · have h := if_f hc h
          refine lv_iconst (v := 1) hx hb d_G_allows_128 (by decide) ?_
          refine lv_goto (tgt := 133) hx hb d_G_allows_129 rfl ?_
          obtain rfl := Option.some.inj h
          exact W.zret hx hb hr rfl (fun t ht hW => ⟨rfl, ht⟩) (fun _ h9 => nomatch h9) d_G_allows_133
  have h := if_f hc4 h
  by_cases hc5 : a1 = 5
  · have h := if_t hc5 h
    refine sw_in (tgt := 134) hx hb d_G_allows_1 hc5 (by decide) (by decide) rfl rfl ?_
    refine lv_aload_n hx hb d_G_allows_134 rfl (lv_at hl 0 rfl) ?_
    refine lv_iload_n hx hb d_G_allows_135 rfl (lv_at hl 2 rfl) ?_
    obtain ⟨r7, hcl, h⟩ := bd_some h
    refine cx_read (va_runV (As := [.int a2]) (rest := []) ⟨hx, hb, hml, hown, hts⟩ (c_G_canBePart l dC dI q cA pt σ a2 _ hcl) (cw_G_53 hts ⟨Nat.le_of_ble_eq_true rfl, Nat.le_of_ble_eq_true rfl⟩) ⟨pxX_B, va_recv hK hP (ci := 1) (q0 := 1) rfl rfl, pxX_U hP hK hD hN hZ hS⟩ rfl rfl hl.1 rfl (lv_room (Nat.le_of_ble_eq_true rfl)) d_G_allows_136 ⟨Nat.zero_le _, Nat.zero_le _⟩) ?_
    refine lv_if_eq (tgt := 154) hx hb d_G_allows_139 rfl (fun hc => ?_) (fun hc => ?_)
    · have h := if_t hc h
      refine lv_iconst (v := 0) hx hb d_G_allows_154 (by decide) ?_
      obtain rfl := Option.some.inj h
      exact W.zret hx hb hr rfl (fun t ht hW => ⟨rfl, ht⟩) (fun _ h9 => nomatch h9) d_G_allows_155
    · have h := if_f hc h
      refine lv_aload_n hx hb d_G_allows_142 rfl (lv_at hl 0 rfl) ?_
      refine lv_iload_n hx hb d_G_allows_143 rfl (lv_at hl 3 rfl) ?_
      obtain ⟨r8, hcl, h⟩ := bd_some h
      refine cx_read (va_runV (As := [.int a3]) (rest := []) ⟨hx, hb, hml, hown, hts⟩ (c_G_canBePart l dC dI q cA pt σ a3 _ hcl) (cw_G_53 hts ⟨Nat.le_of_ble_eq_true rfl, Nat.le_of_ble_eq_true rfl⟩) ⟨pxX_B, va_recv hK hP (ci := 1) (q0 := 1) rfl rfl, pxX_U hP hK hD hN hZ hS⟩ rfl rfl hl.1 rfl (lv_room (Nat.le_of_ble_eq_true rfl)) d_G_allows_144 ⟨Nat.zero_le _, Nat.zero_le _⟩) ?_
      refine lv_if_eq (tgt := 154) hx hb d_G_allows_147 rfl (fun hc => ?_) (fun hc => ?_)
      · have h := if_t hc h
        refine lv_iconst (v := 0) hx hb d_G_allows_154 (by decide) ?_
        obtain rfl := Option.some.inj h
        exact W.zret hx hb hr rfl (fun t ht hW => ⟨rfl, ht⟩) (fun _ h9 => nomatch h9) d_G_allows_155
      · have h := if_f hc h
        refine lv_iconst (v := 1) hx hb d_G_allows_150 (by decide) ?_
        refine lv_goto (tgt := 155) hx hb d_G_allows_151 rfl ?_
        obtain rfl := Option.some.inj h
        exact W.zret hx hb hr rfl (fun t ht hW => ⟨rfl, ht⟩) (fun _ h9 => nomatch h9) d_G_allows_155
  have h := if_f hc5 h
  by_cases hc6 : a1 = 6
  · have h := if_t hc6 h
    refine sw_in (tgt := 156) hx hb d_G_allows_1 hc6 (by decide) (by decide) rfl rfl ?_
    refine lv_aload_n hx hb d_G_allows_156 rfl (lv_at hl 0 rfl) ?_
    refine lv_iload_n hx hb d_G_allows_157 rfl (lv_at hl 2 rfl) ?_
    obtain ⟨r9, hcl, h⟩ := bd_some h
    refine cx_read (va_runV (As := [.int a2]) (rest := []) ⟨hx, hb, hml, hown, hts⟩ (c_G_canBePart l dC dI q cA pt σ a2 _ hcl) (cw_G_53 hts ⟨Nat.le_of_ble_eq_true rfl, Nat.le_of_ble_eq_true rfl⟩) ⟨pxX_B, va_recv hK hP (ci := 1) (q0 := 1) rfl rfl, pxX_U hP hK hD hN hZ hS⟩ rfl rfl hl.1 rfl (lv_room (Nat.le_of_ble_eq_true rfl)) d_G_allows_158 ⟨Nat.zero_le _, Nat.zero_le _⟩) ?_
    obtain ⟨hbo, h⟩ := bo_some h
    obtain rfl := Option.some.inj h
    exact W.zret hx hb hr (bo_nar hbo) (fun t ht hW => ⟨rfl, ht⟩) (fun _ h9 => nomatch h9) d_G_allows_161
  have h := if_f hc6 h
  by_cases hc7 : a1 = 7
  · have h := if_t hc7 h
    refine sw_in (tgt := 156) hx hb d_G_allows_1 hc7 (by decide) (by decide) rfl rfl ?_
    refine lv_aload_n hx hb d_G_allows_156 rfl (lv_at hl 0 rfl) ?_
    refine lv_iload_n hx hb d_G_allows_157 rfl (lv_at hl 2 rfl) ?_
    obtain ⟨r10, hcl, h⟩ := bd_some h
    refine cx_read (va_runV (As := [.int a2]) (rest := []) ⟨hx, hb, hml, hown, hts⟩ (c_G_canBePart l dC dI q cA pt σ a2 _ hcl) (cw_G_53 hts ⟨Nat.le_of_ble_eq_true rfl, Nat.le_of_ble_eq_true rfl⟩) ⟨pxX_B, va_recv hK hP (ci := 1) (q0 := 1) rfl rfl, pxX_U hP hK hD hN hZ hS⟩ rfl rfl hl.1 rfl (lv_room (Nat.le_of_ble_eq_true rfl)) d_G_allows_158 ⟨Nat.zero_le _, Nat.zero_le _⟩) ?_
    obtain ⟨hbo, h⟩ := bo_some h
    obtain rfl := Option.some.inj h
    exact W.zret hx hb hr (bo_nar hbo) (fun t ht hW => ⟨rfl, ht⟩) (fun _ h9 => nomatch h9) d_G_allows_161
  have h := if_f hc7 h
  by_cases hc8 : a1 = 8
  · have h := if_t hc8 h
    refine sw_in (tgt := 156) hx hb d_G_allows_1 hc8 (by decide) (by decide) rfl rfl ?_
    refine lv_aload_n hx hb d_G_allows_156 rfl (lv_at hl 0 rfl) ?_
    refine lv_iload_n hx hb d_G_allows_157 rfl (lv_at hl 2 rfl) ?_
    obtain ⟨r11, hcl, h⟩ := bd_some h
    refine cx_read (va_runV (As := [.int a2]) (rest := []) ⟨hx, hb, hml, hown, hts⟩ (c_G_canBePart l dC dI q cA pt σ a2 _ hcl) (cw_G_53 hts ⟨Nat.le_of_ble_eq_true rfl, Nat.le_of_ble_eq_true rfl⟩) ⟨pxX_B, va_recv hK hP (ci := 1) (q0 := 1) rfl rfl, pxX_U hP hK hD hN hZ hS⟩ rfl rfl hl.1 rfl (lv_room (Nat.le_of_ble_eq_true rfl)) d_G_allows_158 ⟨Nat.zero_le _, Nat.zero_le _⟩) ?_
    obtain ⟨hbo, h⟩ := bo_some h
    obtain rfl := Option.some.inj h
    exact W.zret hx hb hr (bo_nar hbo) (fun t ht hW => ⟨rfl, ht⟩) (fun _ h9 => nomatch h9) d_G_allows_161
  have h := if_f hc8 h
  by_cases hc9 : a1 = 9
  · have h := if_t hc9 h
    refine sw_in (tgt := 162) hx hb d_G_allows_1 hc9 (by decide) (by decide) rfl rfl ?_
    refine lv_aload_n hx hb d_G_allows_162 rfl (lv_at hl 0 rfl) ?_
    refine lv_iload_n hx hb d_G_allows_163 rfl (lv_at hl 2 rfl) ?_
    obtain ⟨r12, hcl, h⟩ := bd_some h
    refine cx_read (va_runV (As := [.int a2]) (rest := []) ⟨hx, hb, hml, hown, hts⟩ (c_G_canBePart l dC dI q cA pt σ a2 _ hcl) (cw_G_53 hts ⟨Nat.le_of_ble_eq_true rfl, Nat.le_of_ble_eq_true rfl⟩) ⟨pxX_B, va_recv hK hP (ci := 1) (q0 := 1) rfl rfl, pxX_U hP hK hD hN hZ hS⟩ rfl rfl hl.1 rfl (lv_room (Nat.le_of_ble_eq_true rfl)) d_G_allows_164 ⟨Nat.zero_le _, Nat.zero_le _⟩) ?_
    refine lv_if_eq (tgt := 181) hx hb d_G_allows_167 rfl (fun hc => ?_) (fun hc => ?_)
    · have h := if_t hc h
      refine lv_iconst (v := 0) hx hb d_G_allows_181 (by decide) ?_
      obtain rfl := Option.some.inj h
      exact W.zret hx hb hr rfl (fun t ht hW => ⟨rfl, ht⟩) (fun _ h9 => nomatch h9) d_G_allows_182
    · have h := if_f hc h
      refine lv_iload_n hx hb d_G_allows_170 rfl (lv_at hl 3 rfl) ?_
      obtain ⟨r13, hcl, h⟩ := bd_some h
      refine cx_read (va_runS (As := [.int a3]) (rest := []) ⟨hx, hb, hml, hown, hts⟩ (c_G_isWay l dC dI q cA pt σ a3 _ hcl) (cw_G_56 hts ⟨Nat.le_of_ble_eq_true rfl, Nat.le_of_ble_eq_true rfl⟩) ⟨pxX_B, pxX_U hP hK hD hN hZ hS⟩ rfl rfl hl.1 rfl (lv_room (Nat.le_of_ble_eq_true rfl)) d_G_allows_171 ⟨Nat.zero_le _, Nat.zero_le _⟩) ?_
      refine lv_if_eq (tgt := 181) hx hb d_G_allows_174 rfl (fun hc => ?_) (fun hc => ?_)
      · have h := if_t hc h
        refine lv_iconst (v := 0) hx hb d_G_allows_181 (by decide) ?_
        obtain rfl := Option.some.inj h
        exact W.zret hx hb hr rfl (fun t ht hW => ⟨rfl, ht⟩) (fun _ h9 => nomatch h9) d_G_allows_182
      · have h := if_f hc h
        refine lv_iconst (v := 1) hx hb d_G_allows_177 (by decide) ?_
        refine lv_goto (tgt := 182) hx hb d_G_allows_178 rfl ?_
        obtain rfl := Option.some.inj h
        exact W.zret hx hb hr rfl (fun t ht hW => ⟨rfl, ht⟩) (fun _ h9 => nomatch h9) d_G_allows_182
  have h := if_f hc9 h
  by_cases hc10 : a1 = 10
  · have h := if_t hc10 h
    refine sw_in (tgt := 134) hx hb d_G_allows_1 hc10 (by decide) (by decide) rfl rfl ?_
    refine lv_aload_n hx hb d_G_allows_134 rfl (lv_at hl 0 rfl) ?_
    refine lv_iload_n hx hb d_G_allows_135 rfl (lv_at hl 2 rfl) ?_
    obtain ⟨r14, hcl, h⟩ := bd_some h
    refine cx_read (va_runV (As := [.int a2]) (rest := []) ⟨hx, hb, hml, hown, hts⟩ (c_G_canBePart l dC dI q cA pt σ a2 _ hcl) (cw_G_53 hts ⟨Nat.le_of_ble_eq_true rfl, Nat.le_of_ble_eq_true rfl⟩) ⟨pxX_B, va_recv hK hP (ci := 1) (q0 := 1) rfl rfl, pxX_U hP hK hD hN hZ hS⟩ rfl rfl hl.1 rfl (lv_room (Nat.le_of_ble_eq_true rfl)) d_G_allows_136 ⟨Nat.zero_le _, Nat.zero_le _⟩) ?_
    refine lv_if_eq (tgt := 154) hx hb d_G_allows_139 rfl (fun hc => ?_) (fun hc => ?_)
    · have h := if_t hc h
      refine lv_iconst (v := 0) hx hb d_G_allows_154 (by decide) ?_
      obtain rfl := Option.some.inj h
      exact W.zret hx hb hr rfl (fun t ht hW => ⟨rfl, ht⟩) (fun _ h9 => nomatch h9) d_G_allows_155
    · have h := if_f hc h
      refine lv_aload_n hx hb d_G_allows_142 rfl (lv_at hl 0 rfl) ?_
      refine lv_iload_n hx hb d_G_allows_143 rfl (lv_at hl 3 rfl) ?_
      obtain ⟨r15, hcl, h⟩ := bd_some h
      refine cx_read (va_runV (As := [.int a3]) (rest := []) ⟨hx, hb, hml, hown, hts⟩ (c_G_canBePart l dC dI q cA pt σ a3 _ hcl) (cw_G_53 hts ⟨Nat.le_of_ble_eq_true rfl, Nat.le_of_ble_eq_true rfl⟩) ⟨pxX_B, va_recv hK hP (ci := 1) (q0 := 1) rfl rfl, pxX_U hP hK hD hN hZ hS⟩ rfl rfl hl.1 rfl (lv_room (Nat.le_of_ble_eq_true rfl)) d_G_allows_144 ⟨Nat.zero_le _, Nat.zero_le _⟩) ?_
      refine lv_if_eq (tgt := 154) hx hb d_G_allows_147 rfl (fun hc => ?_) (fun hc => ?_)
      · have h := if_t hc h
        refine lv_iconst (v := 0) hx hb d_G_allows_154 (by decide) ?_
        obtain rfl := Option.some.inj h
        exact W.zret hx hb hr rfl (fun t ht hW => ⟨rfl, ht⟩) (fun _ h9 => nomatch h9) d_G_allows_155
      · have h := if_f hc h
        refine lv_iconst (v := 1) hx hb d_G_allows_150 (by decide) ?_
        refine lv_goto (tgt := 155) hx hb d_G_allows_151 rfl ?_
        obtain rfl := Option.some.inj h
        exact W.zret hx hb hr rfl (fun t ht hW => ⟨rfl, ht⟩) (fun _ h9 => nomatch h9) d_G_allows_155
  have h := if_f hc10 h
  by_cases hc11 : a1 = 11
  · have h := if_t hc11 h
    refine sw_in (tgt := 183) hx hb d_G_allows_1 hc11 (by decide) (by decide) rfl rfl ?_
    refine lv_aload_n hx hb d_G_allows_183 rfl (lv_at hl 0 rfl) ?_
    refine lv_iload_n hx hb d_G_allows_184 rfl (lv_at hl 2 rfl) ?_
    obtain ⟨r16, hcl, h⟩ := bd_some h
    refine cx_read (va_runV (As := [.int a2]) (rest := []) ⟨hx, hb, hml, hown, hts⟩ (c_G_isRule l dC dI q cA pt σ a2 _ hcl) (cw_G_40 hts ⟨Nat.le_of_ble_eq_true rfl, Nat.le_of_ble_eq_true rfl⟩) ⟨pxX_B, va_recv hK hP (ci := 1) (q0 := 1) rfl rfl, pxX_U hP hK hD hN hZ hS⟩ rfl rfl hl.1 rfl (lv_room (Nat.le_of_ble_eq_true rfl)) d_G_allows_185 ⟨Nat.zero_le _, Nat.zero_le _⟩) ?_
    obtain ⟨hbo, h⟩ := bo_some h
    obtain rfl := Option.some.inj h
    exact W.zret hx hb hr (bo_nar hbo) (fun t ht hW => ⟨rfl, ht⟩) (fun _ h9 => nomatch h9) d_G_allows_188
  have h := if_f hc11 h
  by_cases hc12 : a1 = 12
  · have h := if_t hc12 h
    refine sw_in (tgt := 189) hx hb d_G_allows_1 hc12 (by decide) (by decide) rfl rfl ?_
    refine lv_aload_n hx hb d_G_allows_189 rfl (lv_at hl 0 rfl) ?_
    refine lv_iload_n hx hb d_G_allows_190 rfl (lv_at hl 2 rfl) ?_
    obtain ⟨r17, hcl, h⟩ := bd_some h
    refine cx_read (va_runV (As := [.int a2]) (rest := []) ⟨hx, hb, hml, hown, hts⟩ (c_G_canBePart l dC dI q cA pt σ a2 _ hcl) (cw_G_53 hts ⟨Nat.le_of_ble_eq_true rfl, Nat.le_of_ble_eq_true rfl⟩) ⟨pxX_B, va_recv hK hP (ci := 1) (q0 := 1) rfl rfl, pxX_U hP hK hD hN hZ hS⟩ rfl rfl hl.1 rfl (lv_room (Nat.le_of_ble_eq_true rfl)) d_G_allows_191 ⟨Nat.zero_le _, Nat.zero_le _⟩) ?_
    refine lv_if_eq (tgt := 208) hx hb d_G_allows_194 rfl (fun hc => ?_) (fun hc => ?_)
    · have h := if_t hc h
      refine lv_iconst (v := 0) hx hb d_G_allows_208 (by decide) ?_
      obtain rfl := Option.some.inj h
      exact W.zret hx hb hr rfl (fun t ht hW => ⟨rfl, ht⟩) (fun _ h9 => nomatch h9) d_G_allows_209
    · have h := if_f hc h
      refine lv_iload_n hx hb d_G_allows_197 rfl (lv_at hl 3 rfl) ?_
      obtain ⟨r18, hcl, h⟩ := bd_some h
      refine cx_read (va_runSN (As := [.int a3]) (rest := []) ⟨hx, hb, hml, hown, hts⟩ (c_S_isRegister l dC dI q cA pt σ a3 _ hcl) (cw_G_59 hts hN ⟨Nat.le_of_ble_eq_true rfl, Nat.le_of_ble_eq_true rfl⟩) ⟨pxX_B, pxX_U hP hK hD hN hZ hS⟩ rfl rfl hl.1 rfl (lv_room (Nat.le_of_ble_eq_true rfl)) d_G_allows_198 ⟨Nat.zero_le _, Nat.zero_le _⟩) ?_
      refine lv_if_eq (tgt := 208) hx hb d_G_allows_201 rfl (fun hc => ?_) (fun hc => ?_)
      · have h := if_t hc h
        refine lv_iconst (v := 0) hx hb d_G_allows_208 (by decide) ?_
        obtain rfl := Option.some.inj h
        exact W.zret hx hb hr rfl (fun t ht hW => ⟨rfl, ht⟩) (fun _ h9 => nomatch h9) d_G_allows_209
      · have h := if_f hc h
        refine lv_iconst (v := 1) hx hb d_G_allows_204 (by decide) ?_
        refine lv_goto (tgt := 209) hx hb d_G_allows_205 rfl ?_
        obtain rfl := Option.some.inj h
        exact W.zret hx hb hr rfl (fun t ht hW => ⟨rfl, ht⟩) (fun _ h9 => nomatch h9) d_G_allows_209
  have h := if_f hc12 h
  by_cases hc13 : a1 = 13
  · have h := if_t hc13 h
    refine sw_in (tgt := 210) hx hb d_G_allows_1 hc13 (by decide) (by decide) rfl rfl ?_
    refine lv_iload_n hx hb d_G_allows_210 rfl (lv_at hl 2 rfl) ?_
    obtain ⟨r19, hcl, h⟩ := bd_some h
    refine cx_read (va_runSN (As := [.int a2]) (rest := []) ⟨hx, hb, hml, hown, hts⟩ (c_S_isRegister l dC dI q cA pt σ a2 _ hcl) (cw_G_59 hts hN ⟨Nat.le_of_ble_eq_true rfl, Nat.le_of_ble_eq_true rfl⟩) ⟨pxX_B, pxX_U hP hK hD hN hZ hS⟩ rfl rfl hl.1 rfl (lv_room (Nat.le_of_ble_eq_true rfl)) d_G_allows_211 ⟨Nat.zero_le _, Nat.zero_le _⟩) ?_
    obtain ⟨hbo, h⟩ := bo_some h
    obtain rfl := Option.some.inj h
    exact W.zret hx hb hr (bo_nar hbo) (fun t ht hW => ⟨rfl, ht⟩) (fun _ h9 => nomatch h9) d_G_allows_214
  have h := if_f hc13 h
  refine lv_tableOut (tgt := 215) hx hb d_G_allows_1 (by have q0 := lv_neT hc0 (a := 0) (by decide); have q1 := lv_neT hc1 (a := 1) (by decide); have q2 := lv_neT hc2 (a := 2) (by decide); have q3 := lv_neT hc3 (a := 3) (by decide); have q4 := lv_neT hc4 (a := 4) (by decide); have q5 := lv_neT hc5 (a := 5) (by decide); have q6 := lv_neT hc6 (a := 6) (by decide); have q7 := lv_neT hc7 (a := 7) (by decide); have q8 := lv_neT hc8 (a := 8) (by decide); have q9 := lv_neT hc9 (a := 9) (by decide); have q10 := lv_neT hc10 (a := 10) (by decide); have q11 := lv_neT hc11 (a := 11) (by decide); have q12 := lv_neT hc12 (a := 12) (by decide); have q13 := lv_neT hc13 (a := 13) (by decide); omega) rfl ?_
  refine lv_iconst (v := 0) hx hb d_G_allows_215 (by decide) ?_
  obtain rfl := Option.some.inj h
  exact W.zret hx hb hr rfl (fun t ht hW => ⟨rfl, ht⟩) (fun _ h9 => nomatch h9) d_G_allows_216
def y_G_add : MethodName := ⟨"StagedParsers$Grammar", "add", "(IIII)I"⟩
def w_G_add : List Cond := .code y_G_add prog_4_method_15_code 6 (some .int) :: AW_
def rm_G_add : Room := { frames := 3, cells := 0, slots := 0, locals := 66 }
theorem d_G_add_0 : decode prog_4_method_15_code 0 = .ok (.aload_n 0, 1) := by decide +kernel
theorem d_G_add_1 : decode prog_4_method_15_code 1 = .ok (.invokevirtual 62, 3) := by decide +kernel
theorem d_G_add_4 : decode prog_4_method_15_code 4 = .ok (.ifCond .ne 15, 3) := by decide +kernel
theorem d_G_add_7 : decode prog_4_method_15_code 7 = .ok (.aload_n 0, 1) := by decide +kernel
theorem d_G_add_8 : decode prog_4_method_15_code 8 = .ok (.iload_n 1, 1) := by decide +kernel
theorem d_G_add_9 : decode prog_4_method_15_code 9 = .ok (.iload_n 2, 1) := by decide +kernel
theorem d_G_add_10 : decode prog_4_method_15_code 10 = .ok (.iload_n 3, 1) := by decide +kernel
theorem d_G_add_11 : decode prog_4_method_15_code 11 = .ok (.iload 4, 2) := by decide +kernel
theorem d_G_add_13 : decode prog_4_method_15_code 13 = .ok (.invokevirtual 66, 3) := by decide +kernel
theorem d_G_add_16 : decode prog_4_method_15_code 16 = .ok (.ifCond .ne 5, 3) := by decide +kernel
theorem d_G_add_19 : decode prog_4_method_15_code 19 = .ok (.iconst (-1), 1) := by decide +kernel
theorem d_G_add_20 : decode prog_4_method_15_code 20 = .ok (.ireturn, 1) := by decide +kernel
theorem d_G_add_21 : decode prog_4_method_15_code 21 = .ok (.aload_n 0, 1) := by decide +kernel
theorem d_G_add_22 : decode prog_4_method_15_code 22 = .ok (.getfield 36, 3) := by decide +kernel
theorem d_G_add_25 : decode prog_4_method_15_code 25 = .ok (.istore 5, 2) := by decide +kernel
theorem d_G_add_27 : decode prog_4_method_15_code 27 = .ok (.aload_n 0, 1) := by decide +kernel
theorem d_G_add_28 : decode prog_4_method_15_code 28 = .ok (.getfield 9, 3) := by decide +kernel
theorem d_G_add_31 : decode prog_4_method_15_code 31 = .ok (.iload 5, 2) := by decide +kernel
theorem d_G_add_33 : decode prog_4_method_15_code 33 = .ok (.iload_n 1, 1) := by decide +kernel
theorem d_G_add_34 : decode prog_4_method_15_code 34 = .ok (.iastore, 1) := by decide +kernel
theorem d_G_add_35 : decode prog_4_method_15_code 35 = .ok (.aload_n 0, 1) := by decide +kernel
theorem d_G_add_36 : decode prog_4_method_15_code 36 = .ok (.getfield 15, 3) := by decide +kernel
theorem d_G_add_39 : decode prog_4_method_15_code 39 = .ok (.iload 5, 2) := by decide +kernel
theorem d_G_add_41 : decode prog_4_method_15_code 41 = .ok (.iload_n 2, 1) := by decide +kernel
theorem d_G_add_42 : decode prog_4_method_15_code 42 = .ok (.iastore, 1) := by decide +kernel
theorem d_G_add_43 : decode prog_4_method_15_code 43 = .ok (.aload_n 0, 1) := by decide +kernel
theorem d_G_add_44 : decode prog_4_method_15_code 44 = .ok (.getfield 18, 3) := by decide +kernel
theorem d_G_add_47 : decode prog_4_method_15_code 47 = .ok (.iload 5, 2) := by decide +kernel
theorem d_G_add_49 : decode prog_4_method_15_code 49 = .ok (.iload_n 3, 1) := by decide +kernel
theorem d_G_add_50 : decode prog_4_method_15_code 50 = .ok (.iastore, 1) := by decide +kernel
theorem d_G_add_51 : decode prog_4_method_15_code 51 = .ok (.aload_n 0, 1) := by decide +kernel
theorem d_G_add_52 : decode prog_4_method_15_code 52 = .ok (.getfield 21, 3) := by decide +kernel
theorem d_G_add_55 : decode prog_4_method_15_code 55 = .ok (.iload 5, 2) := by decide +kernel
theorem d_G_add_57 : decode prog_4_method_15_code 57 = .ok (.iload 4, 2) := by decide +kernel
theorem d_G_add_59 : decode prog_4_method_15_code 59 = .ok (.iastore, 1) := by decide +kernel
theorem d_G_add_60 : decode prog_4_method_15_code 60 = .ok (.aload_n 0, 1) := by decide +kernel
theorem d_G_add_61 : decode prog_4_method_15_code 61 = .ok (.getfield 24, 3) := by decide +kernel
theorem d_G_add_64 : decode prog_4_method_15_code 64 = .ok (.iload 5, 2) := by decide +kernel
theorem d_G_add_66 : decode prog_4_method_15_code 66 = .ok (.iconst 1, 1) := by decide +kernel
theorem d_G_add_67 : decode prog_4_method_15_code 67 = .ok (.iastore, 1) := by decide +kernel
theorem d_G_add_68 : decode prog_4_method_15_code 68 = .ok (.getstatic 70, 3) := by decide +kernel
theorem d_G_add_71 : decode prog_4_method_15_code 71 = .ok (.iload_n 1, 1) := by decide +kernel
theorem d_G_add_72 : decode prog_4_method_15_code 72 = .ok (.iaload, 1) := by decide +kernel
theorem d_G_add_73 : decode prog_4_method_15_code 73 = .ok (.iconst 1, 1) := by decide +kernel
theorem d_G_add_74 : decode prog_4_method_15_code 74 = .ok (.if_icmp .lt 18, 3) := by decide +kernel
theorem d_G_add_77 : decode prog_4_method_15_code 77 = .ok (.aload_n 0, 1) := by decide +kernel
theorem d_G_add_78 : decode prog_4_method_15_code 78 = .ok (.getfield 24, 3) := by decide +kernel
theorem d_G_add_81 : decode prog_4_method_15_code 81 = .ok (.iload 5, 2) := by decide +kernel
theorem d_G_add_83 : decode prog_4_method_15_code 83 = .ok (.iconst 1, 1) := by decide +kernel
theorem d_G_add_84 : decode prog_4_method_15_code 84 = .ok (.aload_n 0, 1) := by decide +kernel
theorem d_G_add_85 : decode prog_4_method_15_code 85 = .ok (.getfield 24, 3) := by decide +kernel
theorem d_G_add_88 : decode prog_4_method_15_code 88 = .ok (.iload_n 2, 1) := by decide +kernel
theorem d_G_add_89 : decode prog_4_method_15_code 89 = .ok (.iaload, 1) := by decide +kernel
theorem d_G_add_90 : decode prog_4_method_15_code 90 = .ok (.iadd, 1) := by decide +kernel
theorem d_G_add_91 : decode prog_4_method_15_code 91 = .ok (.iastore, 1) := by decide +kernel
theorem d_G_add_92 : decode prog_4_method_15_code 92 = .ok (.getstatic 70, 3) := by decide +kernel
theorem d_G_add_95 : decode prog_4_method_15_code 95 = .ok (.iload_n 1, 1) := by decide +kernel
theorem d_G_add_96 : decode prog_4_method_15_code 96 = .ok (.iaload, 1) := by decide +kernel
theorem d_G_add_97 : decode prog_4_method_15_code 97 = .ok (.iconst 2, 1) := by decide +kernel
theorem d_G_add_98 : decode prog_4_method_15_code 98 = .ok (.if_icmp .lt 27, 3) := by decide +kernel
theorem d_G_add_101 : decode prog_4_method_15_code 101 = .ok (.aload_n 0, 1) := by decide +kernel
theorem d_G_add_102 : decode prog_4_method_15_code 102 = .ok (.getfield 24, 3) := by decide +kernel
theorem d_G_add_105 : decode prog_4_method_15_code 105 = .ok (.iload 5, 2) := by decide +kernel
theorem d_G_add_107 : decode prog_4_method_15_code 107 = .ok (.iconst 1, 1) := by decide +kernel
theorem d_G_add_108 : decode prog_4_method_15_code 108 = .ok (.aload_n 0, 1) := by decide +kernel
theorem d_G_add_109 : decode prog_4_method_15_code 109 = .ok (.getfield 24, 3) := by decide +kernel
theorem d_G_add_112 : decode prog_4_method_15_code 112 = .ok (.iload_n 2, 1) := by decide +kernel
theorem d_G_add_113 : decode prog_4_method_15_code 113 = .ok (.iaload, 1) := by decide +kernel
theorem d_G_add_114 : decode prog_4_method_15_code 114 = .ok (.aload_n 0, 1) := by decide +kernel
theorem d_G_add_115 : decode prog_4_method_15_code 115 = .ok (.getfield 24, 3) := by decide +kernel
theorem d_G_add_118 : decode prog_4_method_15_code 118 = .ok (.iload_n 3, 1) := by decide +kernel
theorem d_G_add_119 : decode prog_4_method_15_code 119 = .ok (.iaload, 1) := by decide +kernel
theorem d_G_add_120 : decode prog_4_method_15_code 120 = .ok (.invokestatic 73, 3) := by decide +kernel
theorem d_G_add_123 : decode prog_4_method_15_code 123 = .ok (.iadd, 1) := by decide +kernel
theorem d_G_add_124 : decode prog_4_method_15_code 124 = .ok (.iastore, 1) := by decide +kernel
theorem d_G_add_125 : decode prog_4_method_15_code 125 = .ok (.aload_n 0, 1) := by decide +kernel
theorem d_G_add_126 : decode prog_4_method_15_code 126 = .ok (.dup, 1) := by decide +kernel
theorem d_G_add_127 : decode prog_4_method_15_code 127 = .ok (.getfield 36, 3) := by decide +kernel
theorem d_G_add_130 : decode prog_4_method_15_code 130 = .ok (.iconst 1, 1) := by decide +kernel
theorem d_G_add_131 : decode prog_4_method_15_code 131 = .ok (.iadd, 1) := by decide +kernel
theorem d_G_add_132 : decode prog_4_method_15_code 132 = .ok (.putfield 36, 3) := by decide +kernel
theorem d_G_add_135 : decode prog_4_method_15_code 135 = .ok (.iload 5, 2) := by decide +kernel
theorem d_G_add_137 : decode prog_4_method_15_code 137 = .ok (.ireturn, 1) := by decide +kernel
section RW
variable {p : Program} {l : Launch} {e : Env} {R : Room} {s : State} {m : MethodId} {args : Array Value} {below : List Frame} {meth : Method} {c : Code} {H : Heap} {locs : List Loc} {cells slots : Nat} {Q : State → Prop}
variable {cc : ByteArray} {pc : Nat} {ls : Array Slot} {rest : List Value} {dC : Nat → ClassId} {dI : Nat → Nat → Nat} {q : Nat → Nat} {cA : Nat → ClassId} {σ : MZ_} {H0 : Heap} {A : Nat → Prop}

theorem cw_G_62 (hts : ∀ w ∈ AW_, w.before args s = true) (hR : rm_G_isFull.frames + 1 ≤ R.frames ∧ 8 + (1 + 11) + rm_G_isFull.locals ≤ R.locals) : CallW R s args "StagedParsers$Grammar" "StagedParsers$Grammar" 62 y_G_isFull prog_4_method_3_code 1 (some .boolean) w_G_isFull rm_G_isFull 0 0 0 :=
  ⟨callB_of 0 hts (aw_in kw_515) rfl rfl rfl (hts _ kw_2) (hts _ kw_536) ⟨by decide, by decide, by decide +kernel⟩ hR, hts _ kw_513, hts _ kw_514⟩
theorem cw_G_66 (hts : ∀ w ∈ AW_, w.before args s = true) (hR : rm_G_allows.frames + 1 ≤ R.frames ∧ 8 + (5 + 11) + rm_G_allows.locals ≤ R.locals) : CallW R s args "StagedParsers$Grammar" "StagedParsers$Grammar" 66 y_G_allows prog_4_method_14_code 5 (some .boolean) w_G_allows rm_G_allows 0 0 4 :=
  ⟨callB_of 4 hts (aw_in kw_431) rfl rfl rfl (hts _ kw_2) (hts _ kw_537) ⟨by decide, by decide, by decide +kernel⟩ hR, hts _ kw_429, hts _ kw_430⟩
theorem pf_G_36 (hx : p.tables.exec = Jvm.exec) (hb : c.code = cc) (hts : ∀ w ∈ AW_, w.before args s = true) (hown : s.vm.findClass "StagedParsers$Grammar" = some m.cls) (hK : va_K (dC, dI) cls_ (tyX cA) s) (hP : va_P (dC, dI) cls_ (wX q cA σ) H) (hD : va_D A (wX q cA σ)) (hS : va_S A H0 H locs) {v : Int32} (hdg : decode cc pc = .ok (.putfield 36, 3)) (kk : ∀ (H1 : Heap) (locs1 : List Loc), va_P (dC, dI) cls_ (wX q cA (va_up σ 31 (fun _ => v))) H1 → va_S A H0 H1 locs1 → W p l e R s m args below meth c H1 locs1 cells slots Q (F0 m (pc + 3) ls rest)) : W p l e R s m args below meth c H locs cells slots Q (F0 m pc ls (.int v :: .ref (q 1) :: rest)) :=
  va_put (D := (dC, dI)) (cl := cls_) (ci := 1) (v := .int v) (ty := .int) (ws := wX q cA σ) (tys := tyX cA) (C := Rz_G) (T := Tz_G) (N := 7) hx hb hts uz_G tz_G tz_G_ok nz_G hown hK hP hD hS 1 rfl rfl 6 (by decide) (hts _ kw_41) (fun _ h9 => h9) rfl (by decide +kernel) rfl rfl (Nat.le_of_ble_eq_true rfl) hdg (fun H1 locs1 hP _ hS => kk H1 locs1 hP hS)
end RW
def f_G_add (σ : MZ_) (a1 : Int32) (a2 : Int32) (a3 : Int32) (a4 : Int32) : Option (Int32 × MZ_) :=
  (f_G_isFull σ).bind fun r1 => if r1 = 0 then (f_G_allows σ a1 a2 a3 a4).bind fun r2 => if r2 = 0 then some ((-1), σ)
    else gd_ (σ 31 0) 80 (st_ (va_up σ 2 (upd (σ 2) (σ 31 0).toNatClampNeg a1)) fun σ1 => gd_ (σ 31 0) 80 (st_ (va_up σ1 3 (upd (σ1 3) (σ 31 0).toNatClampNeg a2)) fun σ2 => gd_ (σ 31 0) 80 (st_ (va_up σ2 4 (upd (σ2 4) (σ 31 0).toNatClampNeg a3)) fun σ3 => gd_ (σ 31 0) 80 (st_ (va_up σ3 5 (upd (σ3 5) (σ 31 0).toNatClampNeg a4)) fun σ4 => gd_ (σ 31 0) 80 (st_ (va_up σ4 6 (upd (σ4 6) (σ 31 0).toNatClampNeg 1)) fun σ5 => gd_ a1 14 (if (PT_ a1.toNatClampNeg) < 1 then gd_ a1 14 (if (PT_ a1.toNatClampNeg) < 2 then st_ (va_up σ5 31 (fun _ => (σ5 31 0) + 1)) fun σ6 => some (σ 31 0, σ6)
      else gd_ a2 80 (gd_ a3 80 (gd_ (σ 31 0) 80 (st_ (va_up σ5 6 (upd (σ5 6) (σ 31 0).toNatClampNeg (1 + (if (σ5 6 a2.toNatClampNeg) < (σ5 6 a3.toNatClampNeg) then σ5 6 a3.toNatClampNeg else σ5 6 a2.toNatClampNeg)))) fun σ7 => st_ (va_up σ7 31 (fun _ => (σ7 31 0) + 1)) fun σ8 => some (σ 31 0, σ8)))))
    else gd_ a2 80 (gd_ (σ 31 0) 80 (st_ (va_up σ5 6 (upd (σ5 6) (σ 31 0).toNatClampNeg (1 + (σ5 6 a2.toNatClampNeg)))) fun σ9 => gd_ a1 14 (if (PT_ a1.toNatClampNeg) < 2 then st_ (va_up σ9 31 (fun _ => (σ9 31 0) + 1)) fun σ10 => some (σ 31 0, σ10)
    else gd_ a2 80 (gd_ a3 80 (gd_ (σ 31 0) 80 (st_ (va_up σ9 6 (upd (σ9 6) (σ 31 0).toNatClampNeg (1 + (if (σ9 6 a2.toNatClampNeg) < (σ9 6 a3.toNatClampNeg) then σ9 6 a3.toNatClampNeg else σ9 6 a2.toNatClampNeg)))) fun σ11 => st_ (va_up σ11 31 (fun _ => (σ11 31 0) + 1)) fun σ12 => some (σ 31 0, σ12)))))))))))))
  else some ((-1), σ)
set_option maxHeartbeats 4000000 in
set_option maxRecDepth 100000 in
theorem c_G_add (l : Launch) (dC : Nat → ClassId) (dI : Nat → Nat → Nat) (q : Nat → Nat) (cA : Nat → ClassId) (pt : Nat) (σ : MZ_) (a1 : Int32) (a2 : Int32) (a3 : Int32) (a4 : Int32) (u : Int32 × MZ_) (h : f_G_add σ a1 a2 a3 a4 = some u) : Met l y_G_add w_G_add rm_G_add (va_Pc [.ref (q 1), .int a1, .int a2, .int a3, .int a4] (PX_ dC dI q cA pt σ)) (QW_ (some (.int u.1)) (fun H => va_P (dC, dI) cls_ (wX q cA u.2) H) (AX q)) 0 0 (AX q) := by
  refine Met.ofW (cc := prog_4_method_15_code) (maxL := 6) (ret := (some .int)) (by decide) rfl ?_
  intro p e s m args below meth c s₁ B hml hv
  obtain ⟨rfl, hP, hK, hD, hN, hZ⟩ := hv
  have hx := B.exec
  have hb := B.bytes
  have hr := B.returns
  have hts : ∀ w ∈ AW_, w.before _ s = true := fun w h => atoms_spec (ws := w_G_add) B.pre w (List.mem_cons_of_mem _ h)
  have hown : s.vm.findClass "StagedParsers$Grammar" = some m.cls := findClass_of_methodNamed B.named
  have hlocks := B.notSynchronized
  have hS : va_S (AX q) s.heap s.heap [] := va_S.rf
  have hl := lv_entry ([.ref (q 1), .int a1, .int a2, .int a3, .int a4]) (n := 6) (Nat.le_of_ble_eq_true rfl)
  rw [lg_entry_eq]
  generalize (lg_sl ([.ref (q 1), .int a1, .int a2, .int a3, .int a4]) ++ List.replicate (6 - (lg_sl ([.ref (q 1), .int a1, .int a2, .int a3, .int a4])).length) Slot.unset).toArray = ls at hl ⊢
  have hl : lv_has ls 6 [(0, .ref (q 1)), (1, .int a1), (2, .int a2), (3, .int a3), (4, .int a4)] := hl
  rw [f_G_add] at h
  refine lv_aload_n hx hb d_G_add_0 rfl (lv_at hl 0 rfl) ?_
  obtain ⟨r1, hcl, h⟩ := bd_some h
  refine cx_read (va_runV (As := []) (rest := []) ⟨hx, hb, hml, hown, hts⟩ (c_G_isFull l dC dI q cA pt σ _ hcl) (cw_G_62 hts ⟨Nat.le_of_ble_eq_true rfl, Nat.le_of_ble_eq_true rfl⟩) ⟨pxX_B, va_recv hK hP (ci := 1) (q0 := 1) rfl rfl, pxX_U hP hK hD hN hZ hS⟩ rfl rfl hl.1 rfl (lv_room (Nat.le_of_ble_eq_true rfl)) d_G_add_1 ⟨Nat.zero_le _, Nat.zero_le _⟩) ?_
  refine lv_if_ne (tgt := 19) hx hb d_G_add_4 rfl (fun hc => ?_) (fun hc => ?_)
  · have h := if_f hc h
    refine lv_iconst (v := (-1)) hx hb d_G_add_19 (by decide) ?_
    obtain rfl := Option.some.inj h
    exact W.iret hx hb hr (fun t ht hW => ⟨rfl, by rw [ht]; exact hP, hS.F ht⟩) hS.2.2 d_G_add_20
  · have h := if_t hc h
    refine lv_aload_n hx hb d_G_add_7 rfl (lv_at hl 0 rfl) ?_
    refine lv_iload_n hx hb d_G_add_8 rfl (lv_at hl 1 rfl) ?_
    refine lv_iload_n hx hb d_G_add_9 rfl (lv_at hl 2 rfl) ?_
    refine lv_iload_n hx hb d_G_add_10 rfl (lv_at hl 3 rfl) ?_
    refine lv_iload hx hb d_G_add_11 (lv_at hl 4 rfl) ?_
    obtain ⟨r2, hcl, h⟩ := bd_some h
    refine cx_read (va_runV (As := [.int a1, .int a2, .int a3, .int a4]) (rest := []) ⟨hx, hb, hml, hown, hts⟩ (c_G_allows l dC dI q cA pt σ a1 a2 a3 a4 _ hcl) (cw_G_66 hts ⟨Nat.le_of_ble_eq_true rfl, Nat.le_of_ble_eq_true rfl⟩) ⟨pxX_B, va_recv hK hP (ci := 1) (q0 := 1) rfl rfl, pxX_U hP hK hD hN hZ hS⟩ rfl rfl hl.1 rfl (lv_room (Nat.le_of_ble_eq_true rfl)) d_G_add_13 ⟨Nat.zero_le _, Nat.zero_le _⟩) ?_
    refine lv_if_ne (tgt := 21) hx hb d_G_add_16 rfl (fun hc => ?_) (fun hc => ?_)
    · have h := if_f hc h
      refine lv_aload_n hx hb d_G_add_21 rfl (lv_at hl 0 rfl) ?_
      refine gf_G_36 hx hb hts hown hK hP d_G_add_22 ?_
      refine lv_istore hx hb d_G_add_25 hl (by decide) rfl (fun ls hl => ?_)
      have hl : lv_has ls 6 [(5, .int (σ 31 0)), (0, .ref (q 1)), (1, .int a1), (2, .int a2), (3, .int a3), (4, .int a4)] := hl
      refine lv_aload_n hx hb d_G_add_27 rfl (lv_at hl 1 rfl) ?_
      refine gf_G_9 hx hb hts hown hK hP d_G_add_28 ?_
      refine lv_iload hx hb d_G_add_31 (lv_at hl 0 rfl) ?_
      refine lv_iload_n hx hb d_G_add_33 rfl (lv_at hl 2 rfl) ?_
      obtain ⟨hgd, h⟩ := gd_some h
      refine as_X_2 hx hb hK hP hD hS hgd d_G_add_34 (fun H locs hP hS => ?_)
      obtain ⟨σ1, eσ1, h⟩ := st_some h
      rw [← eσ1] at hP
      have hD : va_D (AX q) (wX q cA σ1) := dd_re (wX_f _ _ _ _) hD
      refine lv_aload_n hx hb d_G_add_35 rfl (lv_at hl 1 rfl) ?_
      refine gf_G_15 hx hb hts hown hK hP d_G_add_36 ?_
      refine lv_iload hx hb d_G_add_39 (lv_at hl 0 rfl) ?_
      refine lv_iload_n hx hb d_G_add_41 rfl (lv_at hl 3 rfl) ?_
      obtain ⟨hgd, h⟩ := gd_some h
      refine as_X_3 hx hb hK hP hD hS hgd d_G_add_42 (fun H locs hP hS => ?_)
      obtain ⟨σ2, eσ2, h⟩ := st_some h
      rw [← eσ2] at hP
      have hD : va_D (AX q) (wX q cA σ2) := dd_re (wX_f _ _ _ _) hD
      refine lv_aload_n hx hb d_G_add_43 rfl (lv_at hl 1 rfl) ?_
      refine gf_G_18 hx hb hts hown hK hP d_G_add_44 ?_
      refine lv_iload hx hb d_G_add_47 (lv_at hl 0 rfl) ?_
      refine lv_iload_n hx hb d_G_add_49 rfl (lv_at hl 4 rfl) ?_
      obtain ⟨hgd, h⟩ := gd_some h
      refine as_X_4 hx hb hK hP hD hS hgd d_G_add_50 (fun H locs hP hS => ?_)
      obtain ⟨σ3, eσ3, h⟩ := st_some h
      rw [← eσ3] at hP
      have hD : va_D (AX q) (wX q cA σ3) := dd_re (wX_f _ _ _ _) hD
      refine lv_aload_n hx hb d_G_add_51 rfl (lv_at hl 1 rfl) ?_
      refine gf_G_21 hx hb hts hown hK hP d_G_add_52 ?_
      refine lv_iload hx hb d_G_add_55 (lv_at hl 0 rfl) ?_
      refine lv_iload hx hb d_G_add_57 (lv_at hl 5 rfl) ?_
      obtain ⟨hgd, h⟩ := gd_some h
      refine as_X_5 hx hb hK hP hD hS hgd d_G_add_59 (fun H locs hP hS => ?_)
      obtain ⟨σ4, eσ4, h⟩ := st_some h
      rw [← eσ4] at hP
      have hD : va_D (AX q) (wX q cA σ4) := dd_re (wX_f _ _ _ _) hD
      refine lv_aload_n hx hb d_G_add_60 rfl (lv_at hl 1 rfl) ?_
      refine gf_G_24 hx hb hts hown hK hP d_G_add_61 ?_
      refine lv_iload hx hb d_G_add_64 (lv_at hl 0 rfl) ?_
      refine lv_iconst (v := 1) hx hb d_G_add_66 (by decide) ?_
      obtain ⟨hgd, h⟩ := gd_some h
      refine as_X_6 hx hb hK hP hD hS hgd d_G_add_67 (fun H locs hP hS => ?_)
      obtain ⟨σ5, eσ5, h⟩ := st_some h
      rw [← eσ5] at hP
      have hD : va_D (AX q) (wX q cA σ5) := dd_re (wX_f _ _ _ _) hD
      refine va_pget_ hx hb hown (hN _ (List.mem_of_getElem? (i := 7) rfl)) hZ hS d_G_add_68 ?_
      refine lv_iload_n hx hb d_G_add_71 rfl (lv_at hl 2 rfl) ?_
      obtain ⟨hgd, h⟩ := gd_some h
      refine va_tald_ hx hb hZ hS hgd d_G_add_72 ?_
      refine lv_iconst (v := 1) hx hb d_G_add_73 (by decide) ?_
      refine lv_icmp_lt (tgt := 92) hx hb d_G_add_74 rfl (fun hc => ?_) (fun hc => ?_)
      · have h := if_t hc h
        refine va_pget_ hx hb hown (hN _ (List.mem_of_getElem? (i := 7) rfl)) hZ hS d_G_add_92 ?_
        refine lv_iload_n hx hb d_G_add_95 rfl (lv_at hl 2 rfl) ?_
        obtain ⟨hgd, h⟩ := gd_some h
        refine va_tald_ hx hb hZ hS hgd d_G_add_96 ?_
        refine lv_iconst (v := 2) hx hb d_G_add_97 (by decide) ?_
        refine lv_icmp_lt (tgt := 125) hx hb d_G_add_98 rfl (fun hc => ?_) (fun hc => ?_)
        · have h := if_t hc h
          refine lv_aload_n hx hb d_G_add_125 rfl (lv_at hl 1 rfl) ?_
          refine lv_dup hx hb d_G_add_126 rfl ?_
          refine gf_G_36 hx hb hts hown hK hP d_G_add_127 ?_
          refine lv_iconst (v := 1) hx hb d_G_add_130 (by decide) ?_
          refine lv_iadd hx hb d_G_add_131 ?_
          refine pf_G_36 hx hb hts hown hK hP hD hS d_G_add_132 (fun H locs hP hS => ?_)
          obtain ⟨σ6, eσ6, h⟩ := st_some h
          rw [← eσ6] at hP
          have hD : va_D (AX q) (wX q cA σ6) := dd_re (wX_f _ _ _ _) hD
          refine lv_iload hx hb d_G_add_135 (lv_at hl 0 rfl) ?_
          obtain rfl := Option.some.inj h
          exact W.iret hx hb hr (fun t ht hW => ⟨rfl, by rw [ht]; exact hP, hS.F ht⟩) hS.2.2 d_G_add_137
        · have h := if_f hc h
          refine lv_aload_n hx hb d_G_add_101 rfl (lv_at hl 1 rfl) ?_
          refine gf_G_24 hx hb hts hown hK hP d_G_add_102 ?_
          refine lv_iload hx hb d_G_add_105 (lv_at hl 0 rfl) ?_
          refine lv_iconst (v := 1) hx hb d_G_add_107 (by decide) ?_
          refine lv_aload_n hx hb d_G_add_108 rfl (lv_at hl 1 rfl) ?_
          refine gf_G_24 hx hb hts hown hK hP d_G_add_109 ?_
          refine lv_iload_n hx hb d_G_add_112 rfl (lv_at hl 3 rfl) ?_
          obtain ⟨hgd, h⟩ := gd_some h
          refine al_X_6 hx hb hK hP hgd d_G_add_113 ?_
          refine lv_aload_n hx hb d_G_add_114 rfl (lv_at hl 1 rfl) ?_
          refine gf_G_24 hx hb hts hown hK hP d_G_add_115 ?_
          refine lv_iload_n hx hb d_G_add_118 rfl (lv_at hl 4 rfl) ?_
          obtain ⟨hgd, h⟩ := gd_some h
          refine al_X_6 hx hb hK hP hgd d_G_add_119 ?_
          refine va_mmax hx hb (hml.trans hl.1.symm) hown (hts _ kw_539) (hts _ kw_540) (hts _ kw_15) (hts _ kw_541) (Nat.le_of_ble_eq_true rfl) (Nat.le_of_ble_eq_true rfl) (Nat.zero_le _) (Nat.zero_le _) d_G_add_120 ?_
          refine lv_iadd hx hb d_G_add_123 ?_
          obtain ⟨hgd, h⟩ := gd_some h
          refine as_X_6 hx hb hK hP hD hS hgd d_G_add_124 (fun H locs hP hS => ?_)
          obtain ⟨σ7, eσ7, h⟩ := st_some h
          rw [← eσ7] at hP
          have hD : va_D (AX q) (wX q cA σ7) := dd_re (wX_f _ _ _ _) hD
          refine lv_aload_n hx hb d_G_add_125 rfl (lv_at hl 1 rfl) ?_
          refine lv_dup hx hb d_G_add_126 rfl ?_
          refine gf_G_36 hx hb hts hown hK hP d_G_add_127 ?_
          refine lv_iconst (v := 1) hx hb d_G_add_130 (by decide) ?_
          refine lv_iadd hx hb d_G_add_131 ?_
          refine pf_G_36 hx hb hts hown hK hP hD hS d_G_add_132 (fun H locs hP hS => ?_)
          obtain ⟨σ8, eσ8, h⟩ := st_some h
          rw [← eσ8] at hP
          have hD : va_D (AX q) (wX q cA σ8) := dd_re (wX_f _ _ _ _) hD
          refine lv_iload hx hb d_G_add_135 (lv_at hl 0 rfl) ?_
          obtain rfl := Option.some.inj h
          exact W.iret hx hb hr (fun t ht hW => ⟨rfl, by rw [ht]; exact hP, hS.F ht⟩) hS.2.2 d_G_add_137
      · have h := if_f hc h
        refine lv_aload_n hx hb d_G_add_77 rfl (lv_at hl 1 rfl) ?_
        refine gf_G_24 hx hb hts hown hK hP d_G_add_78 ?_
        refine lv_iload hx hb d_G_add_81 (lv_at hl 0 rfl) ?_
        refine lv_iconst (v := 1) hx hb d_G_add_83 (by decide) ?_
        refine lv_aload_n hx hb d_G_add_84 rfl (lv_at hl 1 rfl) ?_
        refine gf_G_24 hx hb hts hown hK hP d_G_add_85 ?_
        refine lv_iload_n hx hb d_G_add_88 rfl (lv_at hl 3 rfl) ?_
        obtain ⟨hgd, h⟩ := gd_some h
        refine al_X_6 hx hb hK hP hgd d_G_add_89 ?_
        refine lv_iadd hx hb d_G_add_90 ?_
        obtain ⟨hgd, h⟩ := gd_some h
        refine as_X_6 hx hb hK hP hD hS hgd d_G_add_91 (fun H locs hP hS => ?_)
        obtain ⟨σ9, eσ9, h⟩ := st_some h
        rw [← eσ9] at hP
        have hD : va_D (AX q) (wX q cA σ9) := dd_re (wX_f _ _ _ _) hD
        refine va_pget_ hx hb hown (hN _ (List.mem_of_getElem? (i := 7) rfl)) hZ hS d_G_add_92 ?_
        refine lv_iload_n hx hb d_G_add_95 rfl (lv_at hl 2 rfl) ?_
        obtain ⟨hgd, h⟩ := gd_some h
        refine va_tald_ hx hb hZ hS hgd d_G_add_96 ?_
        refine lv_iconst (v := 2) hx hb d_G_add_97 (by decide) ?_
        refine lv_icmp_lt (tgt := 125) hx hb d_G_add_98 rfl (fun hc => ?_) (fun hc => ?_)
        · have h := if_t hc h
          refine lv_aload_n hx hb d_G_add_125 rfl (lv_at hl 1 rfl) ?_
          refine lv_dup hx hb d_G_add_126 rfl ?_
          refine gf_G_36 hx hb hts hown hK hP d_G_add_127 ?_
          refine lv_iconst (v := 1) hx hb d_G_add_130 (by decide) ?_
          refine lv_iadd hx hb d_G_add_131 ?_
          refine pf_G_36 hx hb hts hown hK hP hD hS d_G_add_132 (fun H locs hP hS => ?_)
          obtain ⟨σ10, eσ10, h⟩ := st_some h
          rw [← eσ10] at hP
          have hD : va_D (AX q) (wX q cA σ10) := dd_re (wX_f _ _ _ _) hD
          refine lv_iload hx hb d_G_add_135 (lv_at hl 0 rfl) ?_
          obtain rfl := Option.some.inj h
          exact W.iret hx hb hr (fun t ht hW => ⟨rfl, by rw [ht]; exact hP, hS.F ht⟩) hS.2.2 d_G_add_137
        · have h := if_f hc h
          refine lv_aload_n hx hb d_G_add_101 rfl (lv_at hl 1 rfl) ?_
          refine gf_G_24 hx hb hts hown hK hP d_G_add_102 ?_
          refine lv_iload hx hb d_G_add_105 (lv_at hl 0 rfl) ?_
          refine lv_iconst (v := 1) hx hb d_G_add_107 (by decide) ?_
          refine lv_aload_n hx hb d_G_add_108 rfl (lv_at hl 1 rfl) ?_
          refine gf_G_24 hx hb hts hown hK hP d_G_add_109 ?_
          refine lv_iload_n hx hb d_G_add_112 rfl (lv_at hl 3 rfl) ?_
          obtain ⟨hgd, h⟩ := gd_some h
          refine al_X_6 hx hb hK hP hgd d_G_add_113 ?_
          refine lv_aload_n hx hb d_G_add_114 rfl (lv_at hl 1 rfl) ?_
          refine gf_G_24 hx hb hts hown hK hP d_G_add_115 ?_
          refine lv_iload_n hx hb d_G_add_118 rfl (lv_at hl 4 rfl) ?_
          obtain ⟨hgd, h⟩ := gd_some h
          refine al_X_6 hx hb hK hP hgd d_G_add_119 ?_
          refine va_mmax hx hb (hml.trans hl.1.symm) hown (hts _ kw_539) (hts _ kw_540) (hts _ kw_15) (hts _ kw_541) (Nat.le_of_ble_eq_true rfl) (Nat.le_of_ble_eq_true rfl) (Nat.zero_le _) (Nat.zero_le _) d_G_add_120 ?_
          refine lv_iadd hx hb d_G_add_123 ?_
          obtain ⟨hgd, h⟩ := gd_some h
          refine as_X_6 hx hb hK hP hD hS hgd d_G_add_124 (fun H locs hP hS => ?_)
          obtain ⟨σ11, eσ11, h⟩ := st_some h
          rw [← eσ11] at hP
          have hD : va_D (AX q) (wX q cA σ11) := dd_re (wX_f _ _ _ _) hD
          refine lv_aload_n hx hb d_G_add_125 rfl (lv_at hl 1 rfl) ?_
          refine lv_dup hx hb d_G_add_126 rfl ?_
          refine gf_G_36 hx hb hts hown hK hP d_G_add_127 ?_
          refine lv_iconst (v := 1) hx hb d_G_add_130 (by decide) ?_
          refine lv_iadd hx hb d_G_add_131 ?_
          refine pf_G_36 hx hb hts hown hK hP hD hS d_G_add_132 (fun H locs hP hS => ?_)
          obtain ⟨σ12, eσ12, h⟩ := st_some h
          rw [← eσ12] at hP
          have hD : va_D (AX q) (wX q cA σ12) := dd_re (wX_f _ _ _ _) hD
          refine lv_iload hx hb d_G_add_135 (lv_at hl 0 rfl) ?_
          obtain rfl := Option.some.inj h
          exact W.iret hx hb hr (fun t ht hW => ⟨rfl, by rw [ht]; exact hP, hS.F ht⟩) hS.2.2 d_G_add_137
    · have h := if_t hc h
      refine lv_iconst (v := (-1)) hx hb d_G_add_19 (by decide) ?_
      obtain rfl := Option.some.inj h
      exact W.iret hx hb hr (fun t ht hW => ⟨rfl, by rw [ht]; exact hP, hS.F ht⟩) hS.2.2 d_G_add_20
