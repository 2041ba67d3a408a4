/-! Frames -/
def y_F_reset : MethodName := ⟨"StagedParsers$Frames", "reset", "()V"⟩
def w_F_reset : List Cond := .code y_F_reset prog_3_method_2_code 1 none :: AW_
def rm_F_reset : Room := { frames := 0, cells := 0, slots := 0, locals := 0 }
theorem d_F_reset_0 : decode prog_3_method_2_code 0 = .ok (.aload_n 0, 1) := by decide +kernel
theorem d_F_reset_1 : decode prog_3_method_2_code 1 = .ok (.iconst 0, 1) := by decide +kernel
theorem d_F_reset_2 : decode prog_3_method_2_code 2 = .ok (.putfield 24, 3) := by decide +kernel
theorem d_F_reset_5 : decode prog_3_method_2_code 5 = .ok (.return_, 1) := by decide +kernel
section RW
variable {p : Program} {l : Launch} {e : Env} {R : Room} {s : State} {m : MethodId} {args : Array Value} {below : List Frame} {meth : Method} {c : Code} {H : Heap} {locs : List Loc} {cells slots : Nat} {Q : State → Prop}
variable {cc : ByteArray} {pc : Nat} {ls : Array Slot} {rest : List Value} {dC : Nat → ClassId} {dI : Nat → Nat → Nat} {q : Nat → Nat} {cA : Nat → ClassId} {σ : MZ_} {H0 : Heap} {A : Nat → Prop}

theorem pf_F_24 (hx : p.tables.exec = Jvm.exec) (hb : c.code = cc) (hts : ∀ w ∈ AW_, w.before args s = true) (hown : s.vm.findClass "StagedParsers$Frames" = some m.cls) (hK : va_K (dC, dI) cls_ (tyX cA) s) (hP : va_P (dC, dI) cls_ (wX q cA σ) H) (hD : va_D A (wX q cA σ)) (hS : va_S A H0 H locs) {v : Int32} (hdg : decode cc pc = .ok (.putfield 24, 3)) (kk : ∀ (H1 : Heap) (locs1 : List Loc), va_P (dC, dI) cls_ (wX q cA (va_up σ 43 (fun _ => v))) H1 → va_S A H0 H1 locs1 → W p l e R s m args below meth c H1 locs1 cells slots Q (F0 m (pc + 3) ls rest)) : W p l e R s m args below meth c H locs cells slots Q (F0 m pc ls (.int v :: .ref (q 25) :: rest)) :=
  va_put (D := (dC, dI)) (cl := cls_) (ci := 6) (v := .int v) (ty := .int) (ws := wX q cA σ) (tys := tyX cA) (C := Rz_F) (T := Tz_F) (N := 5) hx hb hts uz_F tz_F tz_F_ok nz_F hown hK hP hD hS 25 rfl rfl 4 (by decide) (hts _ kw_139) (fun _ h9 => h9) rfl (by decide +kernel) rfl rfl (Nat.le_of_ble_eq_true rfl) hdg (fun H1 locs1 hP _ hS => kk H1 locs1 hP hS)
end RW
def f_F_reset (σ : MZ_) : Option (MZ_) :=
  st_ (va_up σ 43 (fun _ => 0)) fun σ1 => some σ1
set_option maxHeartbeats 4000000 in
set_option maxRecDepth 100000 in
theorem c_F_reset (l : Launch) (dC : Nat → ClassId) (dI : Nat → Nat → Nat) (q : Nat → Nat) (cA : Nat → ClassId) (pt : Nat) (σ : MZ_) (u : MZ_) (h : f_F_reset σ = some u) : Met l y_F_reset w_F_reset rm_F_reset (va_Pc [.ref (q 25)] (PX_ dC dI q cA pt σ)) (QW_ none (fun H => va_P (dC, dI) cls_ (wX q cA u) H) (AX q)) 0 0 (AX q) := by
  refine Met.ofW (cc := prog_3_method_2_code) (maxL := 1) (ret := none) (by decide) rfl ?_
  intro p e s m args below meth c s₁ B hml hv
  obtain ⟨rfl, hP, hK, hD, hN, hZ⟩ := hv
  have hx := B.exec
  have hb := B.bytes
  have hr := B.returns
  have hts : ∀ w ∈ AW_, w.before _ s = true := fun w h => atoms_spec (ws := w_F_reset) B.pre w (List.mem_cons_of_mem _ h)
  have hown : s.vm.findClass "StagedParsers$Frames" = some m.cls := findClass_of_methodNamed B.named
  have hlocks := B.notSynchronized
  have hS : va_S (AX q) s.heap s.heap [] := va_S.rf
  have hl := lv_entry ([.ref (q 25)]) (n := 1) (Nat.le_of_ble_eq_true rfl)
  rw [lg_entry_eq]
  generalize (lg_sl ([.ref (q 25)]) ++ List.replicate (1 - (lg_sl ([.ref (q 25)])).length) Slot.unset).toArray = ls at hl ⊢
  have hl : lv_has ls 1 [(0, .ref (q 25))] := hl
  rw [f_F_reset] at h
  refine lv_aload_n hx hb d_F_reset_0 rfl (lv_at hl 0 rfl) ?_
  refine lv_iconst (v := 0) hx hb d_F_reset_1 (by decide) ?_
  refine pf_F_24 hx hb hts hown hK hP hD hS d_F_reset_2 (fun H locs hP hS => ?_)
  obtain ⟨σ1, eσ1, h⟩ := st_some h
  rw [← eσ1] at hP
  have hD : va_D (AX q) (wX q cA σ1) := dd_re (wX_f _ _ _ _) hD
  obtain rfl := Option.some.inj h
  exact W.vret hx hb hr (fun t ht hW => ⟨rfl, by rw [ht]; exact hP, hS.F ht⟩) hS.2.2 d_F_reset_5
def y_F_isFull : MethodName := ⟨"StagedParsers$Frames", "isFull", "()Z"⟩
def w_F_isFull : List Cond := .code y_F_isFull prog_3_method_3_code 1 (some .boolean) :: AW_
def rm_F_isFull : Room := { frames := 0, cells := 0, slots := 0, locals := 0 }
theorem d_F_isFull_0 : decode prog_3_method_3_code 0 = .ok (.aload_n 0, 1) := by decide +kernel
theorem d_F_isFull_1 : decode prog_3_method_3_code 1 = .ok (.getfield 24, 3) := by decide +kernel
theorem d_F_isFull_4 : decode prog_3_method_3_code 4 = .ok (.sipush 640, 3) := by decide +kernel
theorem d_F_isFull_7 : decode prog_3_method_3_code 7 = .ok (.if_icmp .lt 7, 3) := by decide +kernel
theorem d_F_isFull_10 : decode prog_3_method_3_code 10 = .ok (.iconst 1, 1) := by decide +kernel
theorem d_F_isFull_11 : decode prog_3_method_3_code 11 = .ok (.goto 4, 3) := by decide +kernel
theorem d_F_isFull_14 : decode prog_3_method_3_code 14 = .ok (.iconst 0, 1) := by decide +kernel
theorem d_F_isFull_15 : decode prog_3_method_3_code 15 = .ok (.ireturn, 1) := by decide +kernel
section RW
variable {p : Program} {l : Launch} {e : Env} {R : Room} {s : State} {m : MethodId} {args : Array Value} {below : List Frame} {meth : Method} {c : Code} {H : Heap} {locs : List Loc} {cells slots : Nat} {Q : State → Prop}
variable {cc : ByteArray} {pc : Nat} {ls : Array Slot} {rest : List Value} {dC : Nat → ClassId} {dI : Nat → Nat → Nat} {q : Nat → Nat} {cA : Nat → ClassId} {σ : MZ_} {H0 : Heap} {A : Nat → Prop}

theorem gf_F_24 (hx : p.tables.exec = Jvm.exec) (hb : c.code = cc) (hts : ∀ w ∈ AW_, w.before args s = true) (hown : s.vm.findClass "StagedParsers$Frames" = some m.cls) (hK : va_K (dC, dI) cls_ (tyX cA) s) (hP : va_P (dC, dI) cls_ (wX q cA σ) H) (hdg : decode cc pc = .ok (.getfield 24, 3)) (kk : W p l e R s m args below meth c H locs cells slots Q (F0 m (pc + 3) ls (.int (σ 43 0) :: rest))) : W p l e R s m args below meth c H locs cells slots Q (F0 m pc ls (.ref (q 25) :: rest)) :=
  va_get (D := (dC, dI)) (cl := cls_) (ci := 6) (v := .int (σ 43 0)) (ws := wX q cA σ) (tys := tyX cA) (C := Rz_F) (T := Tz_F) (N := 5) hx hb hts uz_F hown hK hP 25 rfl rfl 4 (by decide) (hts _ kw_139) (fun _ h9 => h9) rfl hdg kk
end RW
def f_F_isFull (σ : MZ_) : Option (Int32) :=
  if (σ 43 0) < 640 then some 0
  else some 1
set_option maxHeartbeats 4000000 in
set_option maxRecDepth 100000 in
theorem c_F_isFull (l : Launch) (dC : Nat → ClassId) (dI : Nat → Nat → Nat) (q : Nat → Nat) (cA : Nat → ClassId) (pt : Nat) (σ : MZ_) (u : Int32) (h : f_F_isFull σ = some u) : Met l y_F_isFull w_F_isFull rm_F_isFull (va_Pc [.ref (q 25)] (PX_ dC dI q cA pt σ)) (QcRead u) 0 0 (fun _ => False) := by
  refine Met.ofW (cc := prog_3_method_3_code) (maxL := 1) (ret := (some .boolean)) (by decide) rfl ?_
  intro p e s m args below meth c s₁ B hml hv
  obtain ⟨rfl, hP, hK, hD, hN, hZ⟩ := hv
  have hx := B.exec
  have hb := B.bytes
  have hr := B.returns
  have hts : ∀ w ∈ AW_, w.before _ s = true := fun w h => atoms_spec (ws := w_F_isFull) B.pre w (List.mem_cons_of_mem _ h)
  have hown : s.vm.findClass "StagedParsers$Frames" = some m.cls := findClass_of_methodNamed B.named
  have hlocks := B.notSynchronized
  have hS : va_S (AX q) s.heap s.heap [] := va_S.rf
  have hl := lv_entry ([.ref (q 25)]) (n := 1) (Nat.le_of_ble_eq_true rfl)
  rw [lg_entry_eq]
  generalize (lg_sl ([.ref (q 25)]) ++ List.replicate (1 - (lg_sl ([.ref (q 25)])).length) Slot.unset).toArray = ls at hl ⊢
  have hl : lv_has ls 1 [(0, .ref (q 25))] := hl
  rw [f_F_isFull] at h
  refine lv_aload_n hx hb d_F_isFull_0 rfl (lv_at hl 0 rfl) ?_
  refine gf_F_24 hx hb hts hown hK hP d_F_isFull_1 ?_
  refine lv_sipush (v := 640) hx hb d_F_isFull_4 (by decide) ?_
  refine lv_icmp_lt (tgt := 14) hx hb d_F_isFull_7 rfl (fun hc => ?_) (fun hc => ?_)
  · have h := if_t hc h
    refine lv_iconst (v := 0) hx hb d_F_isFull_14 (by decide) ?_
    obtain rfl := Option.some.inj h
    exact W.zret hx hb hr rfl (fun t ht hW => ⟨rfl, ht⟩) (fun _ h9 => nomatch h9) d_F_isFull_15
  · have h := if_f hc h
    refine lv_iconst (v := 1) hx hb d_F_isFull_10 (by decide) ?_
    refine lv_goto (tgt := 15) hx hb d_F_isFull_11 rfl ?_
    obtain rfl := Option.some.inj h
    exact W.zret hx hb hr rfl (fun t ht hW => ⟨rfl, ht⟩) (fun _ h9 => nomatch h9) d_F_isFull_15
def y_F_size : MethodName := ⟨"StagedParsers$Frames", "size", "()I"⟩
def w_F_size : List Cond := .code y_F_size prog_3_method_4_code 1 (some .int) :: AW_
def rm_F_size : Room := { frames := 0, cells := 0, slots := 0, locals := 0 }
theorem d_F_size_0 : decode prog_3_method_4_code 0 = .ok (.aload_n 0, 1) := by decide +kernel
theorem d_F_size_1 : decode prog_3_method_4_code 1 = .ok (.getfield 24, 3) := by decide +kernel
theorem d_F_size_4 : decode prog_3_method_4_code 4 = .ok (.ireturn, 1) := by decide +kernel
def f_F_size (σ : MZ_) : Option (Int32) :=
  some (σ 43 0)
set_option maxHeartbeats 4000000 in
set_option maxRecDepth 100000 in
theorem c_F_size (l : Launch) (dC : Nat → ClassId) (dI : Nat → Nat → Nat) (q : Nat → Nat) (cA : Nat → ClassId) (pt : Nat) (σ : MZ_) (u : Int32) (h : f_F_size σ = some u) : Met l y_F_size w_F_size rm_F_size (va_Pc [.ref (q 25)] (PX_ dC dI q cA pt σ)) (QcRead u) 0 0 (fun _ => False) := by
  refine Met.ofW (cc := prog_3_method_4_code) (maxL := 1) (ret := (some .int)) (by decide) rfl ?_
  intro p e s m args below meth c s₁ B hml hv
  obtain ⟨rfl, hP, hK, hD, hN, hZ⟩ := hv
  have hx := B.exec
  have hb := B.bytes
  have hr := B.returns
  have hts : ∀ w ∈ AW_, w.before _ s = true := fun w h => atoms_spec (ws := w_F_size) B.pre w (List.mem_cons_of_mem _ h)
  have hown : s.vm.findClass "StagedParsers$Frames" = some m.cls := findClass_of_methodNamed B.named
  have hlocks := B.notSynchronized
  have hS : va_S (AX q) s.heap s.heap [] := va_S.rf
  have hl := lv_entry ([.ref (q 25)]) (n := 1) (Nat.le_of_ble_eq_true rfl)
  rw [lg_entry_eq]
  generalize (lg_sl ([.ref (q 25)]) ++ List.replicate (1 - (lg_sl ([.ref (q 25)])).length) Slot.unset).toArray = ls at hl ⊢
  have hl : lv_has ls 1 [(0, .ref (q 25))] := hl
  rw [f_F_size] at h
  refine lv_aload_n hx hb d_F_size_0 rfl (lv_at hl 0 rfl) ?_
  refine gf_F_24 hx hb hts hown hK hP d_F_size_1 ?_
  obtain rfl := Option.some.inj h
  exact W.iret hx hb hr (fun t ht hW => ⟨rfl, ht⟩) (fun _ h9 => nomatch h9) d_F_size_4
def y_F_push : MethodName := ⟨"StagedParsers$Frames", "push", "(IIII)V"⟩
def w_F_push : List Cond := .code y_F_push prog_3_method_5_code 5 none :: AW_
def rm_F_push : Room := { frames := 0, cells := 0, slots := 0, locals := 0 }
theorem d_F_push_0 : decode prog_3_method_5_code 0 = .ok (.aload_n 0, 1) := by decide +kernel
theorem d_F_push_1 : decode prog_3_method_5_code 1 = .ok (.getfield 24, 3) := by decide +kernel
theorem d_F_push_4 : decode prog_3_method_5_code 4 = .ok (.sipush 640, 3) := by decide +kernel
theorem d_F_push_7 : decode prog_3_method_5_code 7 = .ok (.if_icmp .ge 54, 3) := by decide +kernel
theorem d_F_push_10 : decode prog_3_method_5_code 10 = .ok (.aload_n 0, 1) := by decide +kernel
theorem d_F_push_11 : decode prog_3_method_5_code 11 = .ok (.getfield 9, 3) := by decide +kernel
theorem d_F_push_14 : decode prog_3_method_5_code 14 = .ok (.aload_n 0, 1) := by decide +kernel
theorem d_F_push_15 : decode prog_3_method_5_code 15 = .ok (.getfield 24, 3) := by decide +kernel
theorem d_F_push_18 : decode prog_3_method_5_code 18 = .ok (.iload_n 1, 1) := by decide +kernel
theorem d_F_push_19 : decode prog_3_method_5_code 19 = .ok (.iastore, 1) := by decide +kernel
theorem d_F_push_20 : decode prog_3_method_5_code 20 = .ok (.aload_n 0, 1) := by decide +kernel
theorem d_F_push_21 : decode prog_3_method_5_code 21 = .ok (.getfield 15, 3) := by decide +kernel
theorem d_F_push_24 : decode prog_3_method_5_code 24 = .ok (.aload_n 0, 1) := by decide +kernel
theorem d_F_push_25 : decode prog_3_method_5_code 25 = .ok (.getfield 24, 3) := by decide +kernel
theorem d_F_push_28 : decode prog_3_method_5_code 28 = .ok (.iload_n 2, 1) := by decide +kernel
theorem d_F_push_29 : decode prog_3_method_5_code 29 = .ok (.iastore, 1) := by decide +kernel
theorem d_F_push_30 : decode prog_3_method_5_code 30 = .ok (.aload_n 0, 1) := by decide +kernel
theorem d_F_push_31 : decode prog_3_method_5_code 31 = .ok (.getfield 18, 3) := by decide +kernel
theorem d_F_push_34 : decode prog_3_method_5_code 34 = .ok (.aload_n 0, 1) := by decide +kernel
theorem d_F_push_35 : decode prog_3_method_5_code 35 = .ok (.getfield 24, 3) := by decide +kernel
theorem d_F_push_38 : decode prog_3_method_5_code 38 = .ok (.iload_n 3, 1) := by decide +kernel
theorem d_F_push_39 : decode prog_3_method_5_code 39 = .ok (.iastore, 1) := by decide +kernel
theorem d_F_push_40 : decode prog_3_method_5_code 40 = .ok (.aload_n 0, 1) := by decide +kernel
theorem d_F_push_41 : decode prog_3_method_5_code 41 = .ok (.getfield 21, 3) := by decide +kernel
theorem d_F_push_44 : decode prog_3_method_5_code 44 = .ok (.aload_n 0, 1) := by decide +kernel
theorem d_F_push_45 : decode prog_3_method_5_code 45 = .ok (.getfield 24, 3) := by decide +kernel
theorem d_F_push_48 : decode prog_3_method_5_code 48 = .ok (.iload 4, 2) := by decide +kernel
theorem d_F_push_50 : decode prog_3_method_5_code 50 = .ok (.iastore, 1) := by decide +kernel
theorem d_F_push_51 : decode prog_3_method_5_code 51 = .ok (.aload_n 0, 1) := by decide +kernel
theorem d_F_push_52 : decode prog_3_method_5_code 52 = .ok (.dup, 1) := by decide +kernel
theorem d_F_push_53 : decode prog_3_method_5_code 53 = .ok (.getfield 24, 3) := by decide +kernel
theorem d_F_push_56 : decode prog_3_method_5_code 56 = .ok (.iconst 1, 1) := by decide +kernel
theorem d_F_push_57 : decode prog_3_method_5_code 57 = .ok (.iadd, 1) := by decide +kernel
theorem d_F_push_58 : decode prog_3_method_5_code 58 = .ok (.putfield 24, 3) := by decide +kernel
theorem d_F_push_61 : decode prog_3_method_5_code 61 = .ok (.return_, 1) := by decide +kernel
section RW
variable {p : Program} {l : Launch} {e : Env} {R : Room} {s : State} {m : MethodId} {args : Array Value} {below : List Frame} {meth : Method} {c : Code} {H : Heap} {locs : List Loc} {cells slots : Nat} {Q : State → Prop}
variable {cc : ByteArray} {pc : Nat} {ls : Array Slot} {rest : List Value} {dC : Nat → ClassId} {dI : Nat → Nat → Nat} {q : Nat → Nat} {cA : Nat → ClassId} {σ : MZ_} {H0 : Heap} {A : Nat → Prop}

theorem gf_F_9 (hx : p.tables.exec = Jvm.exec) (hb : c.code = cc) (hts : ∀ w ∈ AW_, w.before args s = true) (hown : s.vm.findClass "StagedParsers$Frames" = some m.cls) (hK : va_K (dC, dI) cls_ (tyX cA) s) (hP : va_P (dC, dI) cls_ (wX q cA σ) H) (hdg : decode cc pc = .ok (.getfield 9, 3)) (kk : W p l e R s m args below meth c H locs cells slots Q (F0 m (pc + 3) ls (.ref (q 26) :: rest))) : W p l e R s m args below meth c H locs cells slots Q (F0 m pc ls (.ref (q 25) :: rest)) :=
  va_get (D := (dC, dI)) (cl := cls_) (ci := 6) (v := .ref (q 26)) (ws := wX q cA σ) (tys := tyX cA) (C := Rz_F) (T := Tz_F) (N := 5) hx hb hts uz_F hown hK hP 25 rfl rfl 0 (by decide) (hts _ kw_135) (fun _ h9 => h9) rfl hdg kk
theorem gf_F_15 (hx : p.tables.exec = Jvm.exec) (hb : c.code = cc) (hts : ∀ w ∈ AW_, w.before args s = true) (hown : s.vm.findClass "StagedParsers$Frames" = some m.cls) (hK : va_K (dC, dI) cls_ (tyX cA) s) (hP : va_P (dC, dI) cls_ (wX q cA σ) H) (hdg : decode cc pc = .ok (.getfield 15, 3)) (kk : W p l e R s m args below meth c H locs cells slots Q (F0 m (pc + 3) ls (.ref (q 27) :: rest))) : W p l e R s m args below meth c H locs cells slots Q (F0 m pc ls (.ref (q 25) :: rest)) :=
  va_get (D := (dC, dI)) (cl := cls_) (ci := 6) (v := .ref (q 27)) (ws := wX q cA σ) (tys := tyX cA) (C := Rz_F) (T := Tz_F) (N := 5) hx hb hts uz_F hown hK hP 25 rfl rfl 1 (by decide) (hts _ kw_136) (fun _ h9 => h9) rfl hdg kk
theorem gf_F_18 (hx : p.tables.exec = Jvm.exec) (hb : c.code = cc) (hts : ∀ w ∈ AW_, w.before args s = true) (hown : s.vm.findClass "StagedParsers$Frames" = some m.cls) (hK : va_K (dC, dI) cls_ (tyX cA) s) (hP : va_P (dC, dI) cls_ (wX q cA σ) H) (hdg : decode cc pc = .ok (.getfield 18, 3)) (kk : W p l e R s m args below meth c H locs cells slots Q (F0 m (pc + 3) ls (.ref (q 28) :: rest))) : W p l e R s m args below meth c H locs cells slots Q (F0 m pc ls (.ref (q 25) :: rest)) :=
  va_get (D := (dC, dI)) (cl := cls_) (ci := 6) (v := .ref (q 28)) (ws := wX q cA σ) (tys := tyX cA) (C := Rz_F) (T := Tz_F) (N := 5) hx hb hts uz_F hown hK hP 25 rfl rfl 2 (by decide) (hts _ kw_137) (fun _ h9 => h9) rfl hdg kk
theorem gf_F_21 (hx : p.tables.exec = Jvm.exec) (hb : c.code = cc) (hts : ∀ w ∈ AW_, w.before args s = true) (hown : s.vm.findClass "StagedParsers$Frames" = some m.cls) (hK : va_K (dC, dI) cls_ (tyX cA) s) (hP : va_P (dC, dI) cls_ (wX q cA σ) H) (hdg : decode cc pc = .ok (.getfield 21, 3)) (kk : W p l e R s m args below meth c H locs cells slots Q (F0 m (pc + 3) ls (.ref (q 29) :: rest))) : W p l e R s m args below meth c H locs cells slots Q (F0 m pc ls (.ref (q 25) :: rest)) :=
  va_get (D := (dC, dI)) (cl := cls_) (ci := 6) (v := .ref (q 29)) (ws := wX q cA σ) (tys := tyX cA) (C := Rz_F) (T := Tz_F) (N := 5) hx hb hts uz_F hown hK hP 25 rfl rfl 3 (by decide) (hts _ kw_138) (fun _ h9 => h9) rfl hdg kk
end RW
def f_F_push (σ : MZ_) (a1 : Int32) (a2 : Int32) (a3 : Int32) (a4 : Int32) : Option (MZ_) :=
  if 640 ≤ (σ 43 0) then some σ
  else gd_ (σ 43 0) 640 (st_ (va_up σ 26 (upd (σ 26) (σ 43 0).toNatClampNeg a1)) fun σ1 => gd_ (σ1 43 0) 640 (st_ (va_up σ1 27 (upd (σ1 27) (σ1 43 0).toNatClampNeg a2)) fun σ2 => gd_ (σ2 43 0) 640 (st_ (va_up σ2 28 (upd (σ2 28) (σ2 43 0).toNatClampNeg a3)) fun σ3 => gd_ (σ3 43 0) 640 (st_ (va_up σ3 29 (upd (σ3 29) (σ3 43 0).toNatClampNeg a4)) fun σ4 => st_ (va_up σ4 43 (fun _ => (σ4 43 0) + 1)) fun σ5 => some σ5))))
set_option maxHeartbeats 4000000 in
set_option maxRecDepth 100000 in
theorem c_F_push (l : Launch) (dC : Nat → ClassId) (dI : Nat → Nat → Nat) (q : Nat → Nat) (cA : Nat → ClassId) (pt : Nat) (σ : MZ_) (a1 : Int32) (a2 : Int32) (a3 : Int32) (a4 : Int32) (u : MZ_) (h : f_F_push σ a1 a2 a3 a4 = some u) : Met l y_F_push w_F_push rm_F_push (va_Pc [.ref (q 25), .int a1, .int a2, .int a3, .int a4] (PX_ dC dI q cA pt σ)) (QW_ none (fun H => va_P (dC, dI) cls_ (wX q cA u) H) (AX q)) 0 0 (AX q) := by
  refine Met.ofW (cc := prog_3_method_5_code) (maxL := 5) (ret := none) (by decide) rfl ?_
  intro p e s m args below meth c s₁ B hml hv
  obtain ⟨rfl, hP, hK, hD, hN, hZ⟩ := hv
  have hx := B.exec
  have hb := B.bytes
  have hr := B.returns
  have hts : ∀ w ∈ AW_, w.before _ s = true := fun w h => atoms_spec (ws := w_F_push) B.pre w (List.mem_cons_of_mem _ h)
  have hown : s.vm.findClass "StagedParsers$Frames" = some m.cls := findClass_of_methodNamed B.named
  have hlocks := B.notSynchronized
  have hS : va_S (AX q) s.heap s.heap [] := va_S.rf
  have hl := lv_entry ([.ref (q 25), .int a1, .int a2, .int a3, .int a4]) (n := 5) (Nat.le_of_ble_eq_true rfl)
  rw [lg_entry_eq]
  generalize (lg_sl ([.ref (q 25), .int a1, .int a2, .int a3, .int a4]) ++ List.replicate (5 - (lg_sl ([.ref (q 25), .int a1, .int a2, .int a3, .int a4])).length) Slot.unset).toArray = ls at hl ⊢
  have hl : lv_has ls 5 [(0, .ref (q 25)), (1, .int a1), (2, .int a2), (3, .int a3), (4, .int a4)] := hl
  rw [f_F_push] at h
  refine lv_aload_n hx hb d_F_push_0 rfl (lv_at hl 0 rfl) ?_
  refine gf_F_24 hx hb hts hown hK hP d_F_push_1 ?_
  refine lv_sipush (v := 640) hx hb d_F_push_4 (by decide) ?_
  refine lv_icmp_ge (tgt := 61) hx hb d_F_push_7 rfl (fun hc => ?_) (fun hc => ?_)
  · have h := if_t hc h
    obtain rfl := Option.some.inj h
    exact W.vret hx hb hr (fun t ht hW => ⟨rfl, by rw [ht]; exact hP, hS.F ht⟩) hS.2.2 d_F_push_61
  · have h := if_f hc h
    refine lv_aload_n hx hb d_F_push_10 rfl (lv_at hl 0 rfl) ?_
    refine gf_F_9 hx hb hts hown hK hP d_F_push_11 ?_
    refine lv_aload_n hx hb d_F_push_14 rfl (lv_at hl 0 rfl) ?_
    refine gf_F_24 hx hb hts hown hK hP d_F_push_15 ?_
    refine lv_iload_n hx hb d_F_push_18 rfl (lv_at hl 1 rfl) ?_
    obtain ⟨hgd, h⟩ := gd_some h
    refine as_X_26 hx hb hK hP hD hS hgd d_F_push_19 (fun H locs hP hS => ?_)
    obtain ⟨σ1, eσ1, h⟩ := st_some h
    rw [← eσ1] at hP
    have hD : va_D (AX q) (wX q cA σ1) := dd_re (wX_f _ _ _ _) hD
    refine lv_aload_n hx hb d_F_push_20 rfl (lv_at hl 0 rfl) ?_
    refine gf_F_15 hx hb hts hown hK hP d_F_push_21 ?_
    refine lv_aload_n hx hb d_F_push_24 rfl (lv_at hl 0 rfl) ?_
    refine gf_F_24 hx hb hts hown hK hP d_F_push_25 ?_
    refine lv_iload_n hx hb d_F_push_28 rfl (lv_at hl 2 rfl) ?_
    obtain ⟨hgd, h⟩ := gd_some h
    refine as_X_27 hx hb hK hP hD hS hgd d_F_push_29 (fun H locs hP hS => ?_)
    obtain ⟨σ2, eσ2, h⟩ := st_some h
    rw [← eσ2] at hP
    have hD : va_D (AX q) (wX q cA σ2) := dd_re (wX_f _ _ _ _) hD
    refine lv_aload_n hx hb d_F_push_30 rfl (lv_at hl 0 rfl) ?_
    refine gf_F_18 hx hb hts hown hK hP d_F_push_31 ?_
    refine lv_aload_n hx hb d_F_push_34 rfl (lv_at hl 0 rfl) ?_
    refine gf_F_24 hx hb hts hown hK hP d_F_push_35 ?_
    refine lv_iload_n hx hb d_F_push_38 rfl (lv_at hl 3 rfl) ?_
    obtain ⟨hgd, h⟩ := gd_some h
    refine as_X_28 hx hb hK hP hD hS hgd d_F_push_39 (fun H locs hP hS => ?_)
    obtain ⟨σ3, eσ3, h⟩ := st_some h
    rw [← eσ3] at hP
    have hD : va_D (AX q) (wX q cA σ3) := dd_re (wX_f _ _ _ _) hD
    refine lv_aload_n hx hb d_F_push_40 rfl (lv_at hl 0 rfl) ?_
    refine gf_F_21 hx hb hts hown hK hP d_F_push_41 ?_
    refine lv_aload_n hx hb d_F_push_44 rfl (lv_at hl 0 rfl) ?_
    refine gf_F_24 hx hb hts hown hK hP d_F_push_45 ?_
    refine lv_iload hx hb d_F_push_48 (lv_at hl 4 rfl) ?_
    obtain ⟨hgd, h⟩ := gd_some h
    refine as_X_29 hx hb hK hP hD hS hgd d_F_push_50 (fun H locs hP hS => ?_)
    obtain ⟨σ4, eσ4, h⟩ := st_some h
    rw [← eσ4] at hP
    have hD : va_D (AX q) (wX q cA σ4) := dd_re (wX_f _ _ _ _) hD
    refine lv_aload_n hx hb d_F_push_51 rfl (lv_at hl 0 rfl) ?_
    refine lv_dup hx hb d_F_push_52 rfl ?_
    refine gf_F_24 hx hb hts hown hK hP d_F_push_53 ?_
    refine lv_iconst (v := 1) hx hb d_F_push_56 (by decide) ?_
    refine lv_iadd hx hb d_F_push_57 ?_
    refine pf_F_24 hx hb hts hown hK hP hD hS d_F_push_58 (fun H locs hP hS => ?_)
    obtain ⟨σ5, eσ5, h⟩ := st_some h
    rw [← eσ5] at hP
    have hD : va_D (AX q) (wX q cA σ5) := dd_re (wX_f _ _ _ _) hD
    obtain rfl := Option.some.inj h
    exact W.vret hx hb hr (fun t ht hW => ⟨rfl, by rw [ht]; exact hP, hS.F ht⟩) hS.2.2 d_F_push_61
def y_F_pop : MethodName := ⟨"StagedParsers$Frames", "pop", "()V"⟩
def w_F_pop : List Cond := .code y_F_pop prog_3_method_6_code 1 none :: AW_
def rm_F_pop : Room := { frames := 0, cells := 0, slots := 0, locals := 0 }
theorem d_F_pop_0 : decode prog_3_method_6_code 0 = .ok (.aload_n 0, 1) := by decide +kernel
theorem d_F_pop_1 : decode prog_3_method_6_code 1 = .ok (.getfield 24, 3) := by decide +kernel
theorem d_F_pop_4 : decode prog_3_method_6_code 4 = .ok (.ifCond .le 13, 3) := by decide +kernel
theorem d_F_pop_7 : decode prog_3_method_6_code 7 = .ok (.aload_n 0, 1) := by decide +kernel
theorem d_F_pop_8 : decode prog_3_method_6_code 8 = .ok (.dup, 1) := by decide +kernel
theorem d_F_pop_9 : decode prog_3_method_6_code 9 = .ok (.getfield 24, 3) := by decide +kernel
theorem d_F_pop_12 : decode prog_3_method_6_code 12 = .ok (.iconst 1, 1) := by decide +kernel
theorem d_F_pop_13 : decode prog_3_method_6_code 13 = .ok (.isub, 1) := by decide +kernel
theorem d_F_pop_14 : decode prog_3_method_6_code 14 = .ok (.putfield 24, 3) := by decide +kernel
theorem d_F_pop_17 : decode prog_3_method_6_code 17 = .ok (.return_, 1) := by decide +kernel
def f_F_pop (σ : MZ_) : Option (MZ_) :=
  if (σ 43 0) ≤ 0 then some σ
  else st_ (va_up σ 43 (fun _ => (σ 43 0) - 1)) fun σ1 => some σ1
set_option maxHeartbeats 4000000 in
set_option maxRecDepth 100000 in
theorem c_F_pop (l : Launch) (dC : Nat → ClassId) (dI : Nat → Nat → Nat) (q : Nat → Nat) (cA : Nat → ClassId) (pt : Nat) (σ : MZ_) (u : MZ_) (h : f_F_pop σ = some u) : Met l y_F_pop w_F_pop rm_F_pop (va_Pc [.ref (q 25)] (PX_ dC dI q cA pt σ)) (QW_ none (fun H => va_P (dC, dI) cls_ (wX q cA u) H) (AX q)) 0 0 (AX q) := by
  refine Met.ofW (cc := prog_3_method_6_code) (maxL := 1) (ret := none) (by decide) rfl ?_
  intro p e s m args below meth c s₁ B hml hv
  obtain ⟨rfl, hP, hK, hD, hN, hZ⟩ := hv
  have hx := B.exec
  have hb := B.bytes
  have hr := B.returns
  have hts : ∀ w ∈ AW_, w.before _ s = true := fun w h => atoms_spec (ws := w_F_pop) B.pre w (List.mem_cons_of_mem _ h)
  have hown : s.vm.findClass "StagedParsers$Frames" = some m.cls := findClass_of_methodNamed B.named
  have hlocks := B.notSynchronized
  have hS : va_S (AX q) s.heap s.heap [] := va_S.rf
  have hl := lv_entry ([.ref (q 25)]) (n := 1) (Nat.le_of_ble_eq_true rfl)
  rw [lg_entry_eq]
  generalize (lg_sl ([.ref (q 25)]) ++ List.replicate (1 - (lg_sl ([.ref (q 25)])).length) Slot.unset).toArray = ls at hl ⊢
  have hl : lv_has ls 1 [(0, .ref (q 25))] := hl
  rw [f_F_pop] at h
  refine lv_aload_n hx hb d_F_pop_0 rfl (lv_at hl 0 rfl) ?_
  refine gf_F_24 hx hb hts hown hK hP d_F_pop_1 ?_
  refine lv_if_le (tgt := 17) hx hb d_F_pop_4 rfl (fun hc => ?_) (fun hc => ?_)
  · have h := if_t hc h
    obtain rfl := Option.some.inj h
    exact W.vret hx hb hr (fun t ht hW => ⟨rfl, by rw [ht]; exact hP, hS.F ht⟩) hS.2.2 d_F_pop_17
  · have h := if_f hc h
    refine lv_aload_n hx hb d_F_pop_7 rfl (lv_at hl 0 rfl) ?_
    refine lv_dup hx hb d_F_pop_8 rfl ?_
    refine gf_F_24 hx hb hts hown hK hP d_F_pop_9 ?_
    refine lv_iconst (v := 1) hx hb d_F_pop_12 (by decide) ?_
    refine lv_isub hx hb d_F_pop_13 ?_
    refine pf_F_24 hx hb hts hown hK hP hD hS d_F_pop_14 (fun H locs hP hS => ?_)
    obtain ⟨σ1, eσ1, h⟩ := st_some h
    rw [← eσ1] at hP
    have hD : va_D (AX q) (wX q cA σ1) := dd_re (wX_f _ _ _ _) hD
    obtain rfl := Option.some.inj h
    exact W.vret hx hb hr (fun t ht hW => ⟨rfl, by rw [ht]; exact hP, hS.F ht⟩) hS.2.2 d_F_pop_17
def y_F_movePlace : MethodName := ⟨"StagedParsers$Frames", "movePlace", "(I)V"⟩
def w_F_movePlace : List Cond := .code y_F_movePlace prog_3_method_7_code 2 none :: AW_
def rm_F_movePlace : Room := { frames := 0, cells := 0, slots := 0, locals := 0 }
theorem d_F_movePlace_0 : decode prog_3_method_7_code 0 = .ok (.aload_n 0, 1) := by decide +kernel
theorem d_F_movePlace_1 : decode prog_3_method_7_code 1 = .ok (.getfield 24, 3) := by decide +kernel
theorem d_F_movePlace_4 : decode prog_3_method_7_code 4 = .ok (.ifCond .le 15, 3) := by decide +kernel
theorem d_F_movePlace_7 : decode prog_3_method_7_code 7 = .ok (.aload_n 0, 1) := by decide +kernel
theorem d_F_movePlace_8 : decode prog_3_method_7_code 8 = .ok (.getfield 18, 3) := by decide +kernel
theorem d_F_movePlace_11 : decode prog_3_method_7_code 11 = .ok (.aload_n 0, 1) := by decide +kernel
theorem d_F_movePlace_12 : decode prog_3_method_7_code 12 = .ok (.getfield 24, 3) := by decide +kernel
theorem d_F_movePlace_15 : decode prog_3_method_7_code 15 = .ok (.iconst 1, 1) := by decide +kernel
theorem d_F_movePlace_16 : decode prog_3_method_7_code 16 = .ok (.isub, 1) := by decide +kernel
theorem d_F_movePlace_17 : decode prog_3_method_7_code 17 = .ok (.iload_n 1, 1) := by decide +kernel
theorem d_F_movePlace_18 : decode prog_3_method_7_code 18 = .ok (.iastore, 1) := by decide +kernel
theorem d_F_movePlace_19 : decode prog_3_method_7_code 19 = .ok (.return_, 1) := by decide +kernel
def f_F_movePlace (σ : MZ_) (a1 : Int32) : Option (MZ_) :=
  if (σ 43 0) ≤ 0 then some σ
  else gd_ ((σ 43 0) - 1) 640 (st_ (va_up σ 28 (upd (σ 28) ((σ 43 0) - 1).toNatClampNeg a1)) fun σ1 => some σ1)
set_option maxHeartbeats 4000000 in
set_option maxRecDepth 100000 in
theorem c_F_movePlace (l : Launch) (dC : Nat → ClassId) (dI : Nat → Nat → Nat) (q : Nat → Nat) (cA : Nat → ClassId) (pt : Nat) (σ : MZ_) (a1 : Int32) (u : MZ_) (h : f_F_movePlace σ a1 = some u) : Met l y_F_movePlace w_F_movePlace rm_F_movePlace (va_Pc [.ref (q 25), .int a1] (PX_ dC dI q cA pt σ)) (QW_ none (fun H => va_P (dC, dI) cls_ (wX q cA u) H) (AX q)) 0 0 (AX q) := by
  refine Met.ofW (cc := prog_3_method_7_code) (maxL := 2) (ret := none) (by decide) rfl ?_
  intro p e s m args below meth c s₁ B hml hv
  obtain ⟨rfl, hP, hK, hD, hN, hZ⟩ := hv
  have hx := B.exec
  have hb := B.bytes
  have hr := B.returns
  have hts : ∀ w ∈ AW_, w.before _ s = true := fun w h => atoms_spec (ws := w_F_movePlace) B.pre w (List.mem_cons_of_mem _ h)
  have hown : s.vm.findClass "StagedParsers$Frames" = some m.cls := findClass_of_methodNamed B.named
  have hlocks := B.notSynchronized
  have hS : va_S (AX q) s.heap s.heap [] := va_S.rf
  have hl := lv_entry ([.ref (q 25), .int a1]) (n := 2) (Nat.le_of_ble_eq_true rfl)
  rw [lg_entry_eq]
  generalize (lg_sl ([.ref (q 25), .int a1]) ++ List.replicate (2 - (lg_sl ([.ref (q 25), .int a1])).length) Slot.unset).toArray = ls at hl ⊢
  have hl : lv_has ls 2 [(0, .ref (q 25)), (1, .int a1)] := hl
  rw [f_F_movePlace] at h
  refine lv_aload_n hx hb d_F_movePlace_0 rfl (lv_at hl 0 rfl) ?_
  refine gf_F_24 hx hb hts hown hK hP d_F_movePlace_1 ?_
  refine lv_if_le (tgt := 19) hx hb d_F_movePlace_4 rfl (fun hc => ?_) (fun hc => ?_)
  · have h := if_t hc h
    obtain rfl := Option.some.inj h
    exact W.vret hx hb hr (fun t ht hW => ⟨rfl, by rw [ht]; exact hP, hS.F ht⟩) hS.2.2 d_F_movePlace_19
  · have h := if_f hc h
    refine lv_aload_n hx hb d_F_movePlace_7 rfl (lv_at hl 0 rfl) ?_
    refine gf_F_18 hx hb hts hown hK hP d_F_movePlace_8 ?_
    refine lv_aload_n hx hb d_F_movePlace_11 rfl (lv_at hl 0 rfl) ?_
    refine gf_F_24 hx hb hts hown hK hP d_F_movePlace_12 ?_
    refine lv_iconst (v := 1) hx hb d_F_movePlace_15 (by decide) ?_
    refine lv_isub hx hb d_F_movePlace_16 ?_
    refine lv_iload_n hx hb d_F_movePlace_17 rfl (lv_at hl 1 rfl) ?_
    obtain ⟨hgd, h⟩ := gd_some h
    refine as_X_28 hx hb hK hP hD hS hgd d_F_movePlace_18 (fun H locs hP hS => ?_)
    obtain ⟨σ1, eσ1, h⟩ := st_some h
    rw [← eσ1] at hP
    have hD : va_D (AX q) (wX q cA σ1) := dd_re (wX_f _ _ _ _) hD
    obtain rfl := Option.some.inj h
    exact W.vret hx hb hr (fun t ht hW => ⟨rfl, by rw [ht]; exact hP, hS.F ht⟩) hS.2.2 d_F_movePlace_19
def y_F_manner : MethodName := ⟨"StagedParsers$Frames", "manner", "()I"⟩
def w_F_manner : List Cond := .code y_F_manner prog_3_method_8_code 1 (some .int) :: AW_
def rm_F_manner : Room := { frames := 0, cells := 0, slots := 0, locals := 0 }
theorem d_F_manner_0 : decode prog_3_method_8_code 0 = .ok (.aload_n 0, 1) := by decide +kernel
theorem d_F_manner_1 : decode prog_3_method_8_code 1 = .ok (.getfield 24, 3) := by decide +kernel
theorem d_F_manner_4 : decode prog_3_method_8_code 4 = .ok (.ifCond .le 17, 3) := by decide +kernel
theorem d_F_manner_7 : decode prog_3_method_8_code 7 = .ok (.aload_n 0, 1) := by decide +kernel
theorem d_F_manner_8 : decode prog_3_method_8_code 8 = .ok (.getfield 9, 3) := by decide +kernel
theorem d_F_manner_11 : decode prog_3_method_8_code 11 = .ok (.aload_n 0, 1) := by decide +kernel
theorem d_F_manner_12 : decode prog_3_method_8_code 12 = .ok (.getfield 24, 3) := by decide +kernel
theorem d_F_manner_15 : decode prog_3_method_8_code 15 = .ok (.iconst 1, 1) := by decide +kernel
theorem d_F_manner_16 : decode prog_3_method_8_code 16 = .ok (.isub, 1) := by decide +kernel
theorem d_F_manner_17 : decode prog_3_method_8_code 17 = .ok (.iaload, 1) := by decide +kernel
theorem d_F_manner_18 : decode prog_3_method_8_code 18 = .ok (.goto 4, 3) := by decide +kernel
theorem d_F_manner_21 : decode prog_3_method_8_code 21 = .ok (.iconst 0, 1) := by decide +kernel
theorem d_F_manner_22 : decode prog_3_method_8_code 22 = .ok (.ireturn, 1) := by decide +kernel
def f_F_manner (σ : MZ_) : Option (Int32) :=
  if (σ 43 0) ≤ 0 then some 0
  else gd_ ((σ 43 0) - 1) 640 (some (σ 26 ((σ 43 0) - 1).toNatClampNeg))
set_option maxHeartbeats 4000000 in
set_option maxRecDepth 100000 in
theorem c_F_manner (l : Launch) (dC : Nat → ClassId) (dI : Nat → Nat → Nat) (q : Nat → Nat) (cA : Nat → ClassId) (pt : Nat) (σ : MZ_) (u : Int32) (h : f_F_manner σ = some u) : Met l y_F_manner w_F_manner rm_F_manner (va_Pc [.ref (q 25)] (PX_ dC dI q cA pt σ)) (QcRead u) 0 0 (fun _ => False) := by
  refine Met.ofW (cc := prog_3_method_8_code) (maxL := 1) (ret := (some .int)) (by decide) rfl ?_
  intro p e s m args below meth c s₁ B hml hv
  obtain ⟨rfl, hP, hK, hD, hN, hZ⟩ := hv
  have hx := B.exec
  have hb := B.bytes
  have hr := B.returns
  have hts : ∀ w ∈ AW_, w.before _ s = true := fun w h => atoms_spec (ws := w_F_manner) B.pre w (List.mem_cons_of_mem _ h)
  have hown : s.vm.findClass "StagedParsers$Frames" = some m.cls := findClass_of_methodNamed B.named
  have hlocks := B.notSynchronized
  have hS : va_S (AX q) s.heap s.heap [] := va_S.rf
  have hl := lv_entry ([.ref (q 25)]) (n := 1) (Nat.le_of_ble_eq_true rfl)
  rw [lg_entry_eq]
  generalize (lg_sl ([.ref (q 25)]) ++ List.replicate (1 - (lg_sl ([.ref (q 25)])).length) Slot.unset).toArray = ls at hl ⊢
  have hl : lv_has ls 1 [(0, .ref (q 25))] := hl
  rw [f_F_manner] at h
  refine lv_aload_n hx hb d_F_manner_0 rfl (lv_at hl 0 rfl) ?_
  refine gf_F_24 hx hb hts hown hK hP d_F_manner_1 ?_
  refine lv_if_le (tgt := 21) hx hb d_F_manner_4 rfl (fun hc => ?_) (fun hc => ?_)
  · have h := if_t hc h
    refine lv_iconst (v := 0) hx hb d_F_manner_21 (by decide) ?_
    obtain rfl := Option.some.inj h
    exact W.iret hx hb hr (fun t ht hW => ⟨rfl, ht⟩) (fun _ h9 => nomatch h9) d_F_manner_22
  · have h := if_f hc h
    refine lv_aload_n hx hb d_F_manner_7 rfl (lv_at hl 0 rfl) ?_
    refine gf_F_9 hx hb hts hown hK hP d_F_manner_8 ?_
    refine lv_aload_n hx hb d_F_manner_11 rfl (lv_at hl 0 rfl) ?_
    refine gf_F_24 hx hb hts hown hK hP d_F_manner_12 ?_
    refine lv_iconst (v := 1) hx hb d_F_manner_15 (by decide) ?_
    refine lv_isub hx hb d_F_manner_16 ?_
    obtain ⟨hgd, h⟩ := gd_some h
    refine al_X_26 hx hb hK hP hgd d_F_manner_17 ?_
    refine lv_goto (tgt := 22) hx hb d_F_manner_18 rfl ?_
    obtain rfl := Option.some.inj h
    exact W.iret hx hb hr (fun t ht hW => ⟨rfl, ht⟩) (fun _ h9 => nomatch h9) d_F_manner_22
def y_F_target : MethodName := ⟨"StagedParsers$Frames", "target", "()I"⟩
def w_F_target : List Cond := .code y_F_target prog_3_method_9_code 1 (some .int) :: AW_
def rm_F_target : Room := { frames := 0, cells := 0, slots := 0, locals := 0 }
theorem d_F_target_0 : decode prog_3_method_9_code 0 = .ok (.aload_n 0, 1) := by decide +kernel
theorem d_F_target_1 : decode prog_3_method_9_code 1 = .ok (.getfield 24, 3) := by decide +kernel
theorem d_F_target_4 : decode prog_3_method_9_code 4 = .ok (.ifCond .le 17, 3) := by decide +kernel
theorem d_F_target_7 : decode prog_3_method_9_code 7 = .ok (.aload_n 0, 1) := by decide +kernel
theorem d_F_target_8 : decode prog_3_method_9_code 8 = .ok (.getfield 15, 3) := by decide +kernel
theorem d_F_target_11 : decode prog_3_method_9_code 11 = .ok (.aload_n 0, 1) := by decide +kernel
theorem d_F_target_12 : decode prog_3_method_9_code 12 = .ok (.getfield 24, 3) := by decide +kernel
theorem d_F_target_15 : decode prog_3_method_9_code 15 = .ok (.iconst 1, 1) := by decide +kernel
theorem d_F_target_16 : decode prog_3_method_9_code 16 = .ok (.isub, 1) := by decide +kernel
theorem d_F_target_17 : decode prog_3_method_9_code 17 = .ok (.iaload, 1) := by decide +kernel
theorem d_F_target_18 : decode prog_3_method_9_code 18 = .ok (.goto 4, 3) := by decide +kernel
theorem d_F_target_21 : decode prog_3_method_9_code 21 = .ok (.iconst 0, 1) := by decide +kernel
theorem d_F_target_22 : decode prog_3_method_9_code 22 = .ok (.ireturn, 1) := by decide +kernel
def f_F_target (σ : MZ_) : Option (Int32) :=
  if (σ 43 0) ≤ 0 then some 0
  else gd_ ((σ 43 0) - 1) 640 (some (σ 27 ((σ 43 0) - 1).toNatClampNeg))
set_option maxHeartbeats 4000000 in
set_option maxRecDepth 100000 in
theorem c_F_target (l : Launch) (dC : Nat → ClassId) (dI : Nat → Nat → Nat) (q : Nat → Nat) (cA : Nat → ClassId) (pt : Nat) (σ : MZ_) (u : Int32) (h : f_F_target σ = some u) : Met l y_F_target w_F_target rm_F_target (va_Pc [.ref (q 25)] (PX_ dC dI q cA pt σ)) (QcRead u) 0 0 (fun _ => False) := by
  refine Met.ofW (cc := prog_3_method_9_code) (maxL := 1) (ret := (some .int)) (by decide) rfl ?_
  intro p e s m args below meth c s₁ B hml hv
  obtain ⟨rfl, hP, hK, hD, hN, hZ⟩ := hv
  have hx := B.exec
  have hb := B.bytes
  have hr := B.returns
  have hts : ∀ w ∈ AW_, w.before _ s = true := fun w h => atoms_spec (ws := w_F_target) B.pre w (List.mem_cons_of_mem _ h)
  have hown : s.vm.findClass "StagedParsers$Frames" = some m.cls := findClass_of_methodNamed B.named
  have hlocks := B.notSynchronized
  have hS : va_S (AX q) s.heap s.heap [] := va_S.rf
  have hl := lv_entry ([.ref (q 25)]) (n := 1) (Nat.le_of_ble_eq_true rfl)
  rw [lg_entry_eq]
  generalize (lg_sl ([.ref (q 25)]) ++ List.replicate (1 - (lg_sl ([.ref (q 25)])).length) Slot.unset).toArray = ls at hl ⊢
  have hl : lv_has ls 1 [(0, .ref (q 25))] := hl
  rw [f_F_target] at h
  refine lv_aload_n hx hb d_F_target_0 rfl (lv_at hl 0 rfl) ?_
  refine gf_F_24 hx hb hts hown hK hP d_F_target_1 ?_
  refine lv_if_le (tgt := 21) hx hb d_F_target_4 rfl (fun hc => ?_) (fun hc => ?_)
  · have h := if_t hc h
    refine lv_iconst (v := 0) hx hb d_F_target_21 (by decide) ?_
    obtain rfl := Option.some.inj h
    exact W.iret hx hb hr (fun t ht hW => ⟨rfl, ht⟩) (fun _ h9 => nomatch h9) d_F_target_22
  · have h := if_f hc h
    refine lv_aload_n hx hb d_F_target_7 rfl (lv_at hl 0 rfl) ?_
    refine gf_F_15 hx hb hts hown hK hP d_F_target_8 ?_
    refine lv_aload_n hx hb d_F_target_11 rfl (lv_at hl 0 rfl) ?_
    refine gf_F_24 hx hb hts hown hK hP d_F_target_12 ?_
    refine lv_iconst (v := 1) hx hb d_F_target_15 (by decide) ?_
    refine lv_isub hx hb d_F_target_16 ?_
    obtain ⟨hgd, h⟩ := gd_some h
    refine al_X_27 hx hb hK hP hgd d_F_target_17 ?_
    refine lv_goto (tgt := 22) hx hb d_F_target_18 rfl ?_
    obtain rfl := Option.some.inj h
    exact W.iret hx hb hr (fun t ht hW => ⟨rfl, ht⟩) (fun _ h9 => nomatch h9) d_F_target_22
def y_F_place : MethodName := ⟨"StagedParsers$Frames", "place", "()I"⟩
def w_F_place : List Cond := .code y_F_place prog_3_method_10_code 1 (some .int) :: AW_
def rm_F_place : Room := { frames := 0, cells := 0, slots := 0, locals := 0 }
theorem d_F_place_0 : decode prog_3_method_10_code 0 = .ok (.aload_n 0, 1) := by decide +kernel
theorem d_F_place_1 : decode prog_3_method_10_code 1 = .ok (.getfield 24, 3) := by decide +kernel
theorem d_F_place_4 : decode prog_3_method_10_code 4 = .ok (.ifCond .le 17, 3) := by decide +kernel
theorem d_F_place_7 : decode prog_3_method_10_code 7 = .ok (.aload_n 0, 1) := by decide +kernel
theorem d_F_place_8 : decode prog_3_method_10_code 8 = .ok (.getfield 18, 3) := by decide +kernel
theorem d_F_place_11 : decode prog_3_method_10_code 11 = .ok (.aload_n 0, 1) := by decide +kernel
theorem d_F_place_12 : decode prog_3_method_10_code 12 = .ok (.getfield 24, 3) := by decide +kernel
theorem d_F_place_15 : decode prog_3_method_10_code 15 = .ok (.iconst 1, 1) := by decide +kernel
theorem d_F_place_16 : decode prog_3_method_10_code 16 = .ok (.isub, 1) := by decide +kernel
theorem d_F_place_17 : decode prog_3_method_10_code 17 = .ok (.iaload, 1) := by decide +kernel
theorem d_F_place_18 : decode prog_3_method_10_code 18 = .ok (.goto 4, 3) := by decide +kernel
theorem d_F_place_21 : decode prog_3_method_10_code 21 = .ok (.iconst 0, 1) := by decide +kernel
theorem d_F_place_22 : decode prog_3_method_10_code 22 = .ok (.ireturn, 1) := by decide +kernel
def f_F_place (σ : MZ_) : Option (Int32) :=
  if (σ 43 0) ≤ 0 then some 0
  else gd_ ((σ 43 0) - 1) 640 (some (σ 28 ((σ 43 0) - 1).toNatClampNeg))
set_option maxHeartbeats 4000000 in
set_option maxRecDepth 100000 in
theorem c_F_place (l : Launch) (dC : Nat → ClassId) (dI : Nat → Nat → Nat) (q : Nat → Nat) (cA : Nat → ClassId) (pt : Nat) (σ : MZ_) (u : Int32) (h : f_F_place σ = some u) : Met l y_F_place w_F_place rm_F_place (va_Pc [.ref (q 25)] (PX_ dC dI q cA pt σ)) (QcRead u) 0 0 (fun _ => False) := by
  refine Met.ofW (cc := prog_3_method_10_code) (maxL := 1) (ret := (some .int)) (by decide) rfl ?_
  intro p e s m args below meth c s₁ B hml hv
  obtain ⟨rfl, hP, hK, hD, hN, hZ⟩ := hv
  have hx := B.exec
  have hb := B.bytes
  have hr := B.returns
  have hts : ∀ w ∈ AW_, w.before _ s = true := fun w h => atoms_spec (ws := w_F_place) B.pre w (List.mem_cons_of_mem _ h)
  have hown : s.vm.findClass "StagedParsers$Frames" = some m.cls := findClass_of_methodNamed B.named
  have hlocks := B.notSynchronized
  have hS : va_S (AX q) s.heap s.heap [] := va_S.rf
  have hl := lv_entry ([.ref (q 25)]) (n := 1) (Nat.le_of_ble_eq_true rfl)
  rw [lg_entry_eq]
  generalize (lg_sl ([.ref (q 25)]) ++ List.replicate (1 - (lg_sl ([.ref (q 25)])).length) Slot.unset).toArray = ls at hl ⊢
  have hl : lv_has ls 1 [(0, .ref (q 25))] := hl
  rw [f_F_place] at h
  refine lv_aload_n hx hb d_F_place_0 rfl (lv_at hl 0 rfl) ?_
  refine gf_F_24 hx hb hts hown hK hP d_F_place_1 ?_
  refine lv_if_le (tgt := 21) hx hb d_F_place_4 rfl (fun hc => ?_) (fun hc => ?_)
  · have h := if_t hc h
    refine lv_iconst (v := 0) hx hb d_F_place_21 (by decide) ?_
    obtain rfl := Option.some.inj h
    exact W.iret hx hb hr (fun t ht hW => ⟨rfl, ht⟩) (fun _ h9 => nomatch h9) d_F_place_22
  · have h := if_f hc h
    refine lv_aload_n hx hb d_F_place_7 rfl (lv_at hl 0 rfl) ?_
    refine gf_F_18 hx hb hts hown hK hP d_F_place_8 ?_
    refine lv_aload_n hx hb d_F_place_11 rfl (lv_at hl 0 rfl) ?_
    refine gf_F_24 hx hb hts hown hK hP d_F_place_12 ?_
    refine lv_iconst (v := 1) hx hb d_F_place_15 (by decide) ?_
    refine lv_isub hx hb d_F_place_16 ?_
    obtain ⟨hgd, h⟩ := gd_some h
    refine al_X_28 hx hb hK hP hgd d_F_place_17 ?_
    refine lv_goto (tgt := 22) hx hb d_F_place_18 rfl ?_
    obtain rfl := Option.some.inj h
    exact W.iret hx hb hr (fun t ht hW => ⟨rfl, ht⟩) (fun _ h9 => nomatch h9) d_F_place_22
def y_F_height : MethodName := ⟨"StagedParsers$Frames", "height", "()I"⟩
def w_F_height : List Cond := .code y_F_height prog_3_method_11_code 1 (some .int) :: AW_
def rm_F_height : Room := { frames := 0, cells := 0, slots := 0, locals := 0 }
theorem d_F_height_0 : decode prog_3_method_11_code 0 = .ok (.aload_n 0, 1) := by decide +kernel
theorem d_F_height_1 : decode prog_3_method_11_code 1 = .ok (.getfield 24, 3) := by decide +kernel
theorem d_F_height_4 : decode prog_3_method_11_code 4 = .ok (.ifCond .le 17, 3) := by decide +kernel
theorem d_F_height_7 : decode prog_3_method_11_code 7 = .ok (.aload_n 0, 1) := by decide +kernel
theorem d_F_height_8 : decode prog_3_method_11_code 8 = .ok (.getfield 21, 3) := by decide +kernel
theorem d_F_height_11 : decode prog_3_method_11_code 11 = .ok (.aload_n 0, 1) := by decide +kernel
theorem d_F_height_12 : decode prog_3_method_11_code 12 = .ok (.getfield 24, 3) := by decide +kernel
theorem d_F_height_15 : decode prog_3_method_11_code 15 = .ok (.iconst 1, 1) := by decide +kernel
theorem d_F_height_16 : decode prog_3_method_11_code 16 = .ok (.isub, 1) := by decide +kernel
theorem d_F_height_17 : decode prog_3_method_11_code 17 = .ok (.iaload, 1) := by decide +kernel
theorem d_F_height_18 : decode prog_3_method_11_code 18 = .ok (.goto 4, 3) := by decide +kernel
theorem d_F_height_21 : decode prog_3_method_11_code 21 = .ok (.iconst 0, 1) := by decide +kernel
theorem d_F_height_22 : decode prog_3_method_11_code 22 = .ok (.ireturn, 1) := by decide +kernel
def f_F_height (σ : MZ_) : Option (Int32) :=
  if (σ 43 0) ≤ 0 then some 0
  else gd_ ((σ 43 0) - 1) 640 (some (σ 29 ((σ 43 0) - 1).toNatClampNeg))
set_option maxHeartbeats 4000000 in
set_option maxRecDepth 100000 in
theorem c_F_height (l : Launch) (dC : Nat → ClassId) (dI : Nat → Nat → Nat) (q : Nat → Nat) (cA : Nat → ClassId) (pt : Nat) (σ : MZ_) (u : Int32) (h : f_F_height σ = some u) : Met l y_F_height w_F_height rm_F_height (va_Pc [.ref (q 25)] (PX_ dC dI q cA pt σ)) (QcRead u) 0 0 (fun _ => False) := by
  refine Met.ofW (cc := prog_3_method_11_code) (maxL := 1) (ret := (some .int)) (by decide) rfl ?_
  intro p e s m args below meth c s₁ B hml hv
  obtain ⟨rfl, hP, hK, hD, hN, hZ⟩ := hv
  have hx := B.exec
  have hb := B.bytes
  have hr := B.returns
  have hts : ∀ w ∈ AW_, w.before _ s = true := fun w h => atoms_spec (ws := w_F_height) B.pre w (List.mem_cons_of_mem _ h)
  have hown : s.vm.findClass "StagedParsers$Frames" = some m.cls := findClass_of_methodNamed B.named
  have hlocks := B.notSynchronized
  have hS : va_S (AX q) s.heap s.heap [] := va_S.rf
  have hl := lv_entry ([.ref (q 25)]) (n := 1) (Nat.le_of_ble_eq_true rfl)
  rw [lg_entry_eq]
  generalize (lg_sl ([.ref (q 25)]) ++ List.replicate (1 - (lg_sl ([.ref (q 25)])).length) Slot.unset).toArray = ls at hl ⊢
  have hl : lv_has ls 1 [(0, .ref (q 25))] := hl
  rw [f_F_height] at h
  refine lv_aload_n hx hb d_F_height_0 rfl (lv_at hl 0 rfl) ?_
  refine gf_F_24 hx hb hts hown hK hP d_F_height_1 ?_
  refine lv_if_le (tgt := 21) hx hb d_F_height_4 rfl (fun hc => ?_) (fun hc => ?_)
  · have h := if_t hc h
    refine lv_iconst (v := 0) hx hb d_F_height_21 (by decide) ?_
    obtain rfl := Option.some.inj h
    exact W.iret hx hb hr (fun t ht hW => ⟨rfl, ht⟩) (fun _ h9 => nomatch h9) d_F_height_22
  · have h := if_f hc h
    refine lv_aload_n hx hb d_F_height_7 rfl (lv_at hl 0 rfl) ?_
    refine gf_F_21 hx hb hts hown hK hP d_F_height_8 ?_
    refine lv_aload_n hx hb d_F_height_11 rfl (lv_at hl 0 rfl) ?_
    refine gf_F_24 hx hb hts hown hK hP d_F_height_12 ?_
    refine lv_iconst (v := 1) hx hb d_F_height_15 (by decide) ?_
    refine lv_isub hx hb d_F_height_16 ?_
    obtain ⟨hgd, h⟩ := gd_some h
    refine al_X_29 hx hb hK hP hgd d_F_height_17 ?_
    refine lv_goto (tgt := 22) hx hb d_F_height_18 rfl ?_
    obtain rfl := Option.some.inj h
    exact W.iret hx hb hr (fun t ht hW => ⟨rfl, ht⟩) (fun _ h9 => nomatch h9) d_F_height_22
