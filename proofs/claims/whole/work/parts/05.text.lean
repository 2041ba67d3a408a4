/-! Text -/
def y_T_isFull : MethodName := ⟨"StagedParsers$Text", "isFull", "()Z"⟩
def w_T_isFull : List Cond := .code y_T_isFull prog_7_method_2_code 1 (some .boolean) :: AW_
def rm_T_isFull : Room := { frames := 0, cells := 0, slots := 0, locals := 0 }
theorem d_T_isFull_0 : decode prog_7_method_2_code 0 = .ok (.aload_n 0, 1) := by decide +kernel
theorem d_T_isFull_1 : decode prog_7_method_2_code 1 = .ok (.getfield 15, 3) := by decide +kernel
theorem d_T_isFull_4 : decode prog_7_method_2_code 4 = .ok (.bipush 40, 2) := by decide +kernel
theorem d_T_isFull_6 : decode prog_7_method_2_code 6 = .ok (.if_icmp .lt 7, 3) := by decide +kernel
theorem d_T_isFull_9 : decode prog_7_method_2_code 9 = .ok (.iconst 1, 1) := by decide +kernel
theorem d_T_isFull_10 : decode prog_7_method_2_code 10 = .ok (.goto 4, 3) := by decide +kernel
theorem d_T_isFull_13 : decode prog_7_method_2_code 13 = .ok (.iconst 0, 1) := by decide +kernel
theorem d_T_isFull_14 : decode prog_7_method_2_code 14 = .ok (.ireturn, 1) := by decide +kernel
section RW
variable {p : Program} {l : Launch} {e : Env} {R : Room} {s : State} {m : MethodId} {args : Array Value} {below : List Frame} {meth : Method} {c : Code} {H : Heap} {locs : List Loc} {cells slots : Nat} {Q : State → Prop}
variable {cc : ByteArray} {pc : Nat} {ls : Array Slot} {rest : List Value} {dC : Nat → ClassId} {dI : Nat → Nat → Nat} {q : Nat → Nat} {cA : Nat → ClassId} {σ : MZ_} {H0 : Heap} {A : Nat → Prop}

theorem gf_T_15 (hx : p.tables.exec = Jvm.exec) (hb : c.code = cc) (hts : ∀ w ∈ AW_, w.before args s = true) (hown : s.vm.findClass "StagedParsers$Text" = some m.cls) (hK : va_K (dC, dI) cls_ (tyX cA) s) (hP : va_P (dC, dI) cls_ (wX q cA σ) H) (hdg : decode cc pc = .ok (.getfield 15, 3)) (kk : W p l e R s m args below meth c H locs cells slots Q (F0 m (pc + 3) ls (.int (σ 33 0) :: rest))) : W p l e R s m args below meth c H locs cells slots Q (F0 m pc ls (.ref (q 20) :: rest)) :=
  va_get (D := (dC, dI)) (cl := cls_) (ci := 4) (v := .int (σ 33 0)) (ws := wX q cA σ) (tys := tyX cA) (C := Rz_T) (T := Tz_T) (N := 2) hx hb hts uz_T hown hK hP 20 rfl rfl 1 (by decide) (hts _ kw_116) (fun _ h9 => h9) rfl hdg kk
end RW
def f_T_isFull (σ : MZ_) : Option (Int32) :=
  if (σ 33 0) < 40 then some 0
  else some 1
set_option maxHeartbeats 4000000 in
set_option maxRecDepth 100000 in
theorem c_T_isFull (l : Launch) (dC : Nat → ClassId) (dI : Nat → Nat → Nat) (q : Nat → Nat) (cA : Nat → ClassId) (pt : Nat) (σ : MZ_) (u : Int32) (h : f_T_isFull σ = some u) : Met l y_T_isFull w_T_isFull rm_T_isFull (va_Pc [.ref (q 20)] (PX_ dC dI q cA pt σ)) (QcRead u) 0 0 (fun _ => False) := by
  refine Met.ofW (cc := prog_7_method_2_code) (maxL := 1) (ret := (some .boolean)) (by decide) rfl ?_
  intro p e s m args below meth c s₁ B hml hv
  obtain ⟨rfl, hP, hK, hD, hN, hZ⟩ := hv
  have hx := B.exec
  have hb := B.bytes
  have hr := B.returns
  have hts : ∀ w ∈ AW_, w.before _ s = true := fun w h => atoms_spec (ws := w_T_isFull) B.pre w (List.mem_cons_of_mem _ h)
  have hown : s.vm.findClass "StagedParsers$Text" = some m.cls := findClass_of_methodNamed B.named
  have hlocks := B.notSynchronized
  have hS : va_S (AX q) s.heap s.heap [] := va_S.rf
  have hl := lv_entry ([.ref (q 20)]) (n := 1) (Nat.le_of_ble_eq_true rfl)
  rw [lg_entry_eq]
  generalize (lg_sl ([.ref (q 20)]) ++ List.replicate (1 - (lg_sl ([.ref (q 20)])).length) Slot.unset).toArray = ls at hl ⊢
  have hl : lv_has ls 1 [(0, .ref (q 20))] := hl
  rw [f_T_isFull] at h
  refine lv_aload_n hx hb d_T_isFull_0 rfl (lv_at hl 0 rfl) ?_
  refine gf_T_15 hx hb hts hown hK hP d_T_isFull_1 ?_
  refine lv_bipush (v := 40) hx hb d_T_isFull_4 (by decide) ?_
  refine lv_icmp_lt (tgt := 13) hx hb d_T_isFull_6 rfl (fun hc => ?_) (fun hc => ?_)
  · have h := if_t hc h
    refine lv_iconst (v := 0) hx hb d_T_isFull_13 (by decide) ?_
    obtain rfl := Option.some.inj h
    exact W.zret hx hb hr rfl (fun t ht hW => ⟨rfl, ht⟩) (fun _ h9 => nomatch h9) d_T_isFull_14
  · have h := if_f hc h
    refine lv_iconst (v := 1) hx hb d_T_isFull_9 (by decide) ?_
    refine lv_goto (tgt := 14) hx hb d_T_isFull_10 rfl ?_
    obtain rfl := Option.some.inj h
    exact W.zret hx hb hr rfl (fun t ht hW => ⟨rfl, ht⟩) (fun _ h9 => nomatch h9) d_T_isFull_14
def y_T_size : MethodName := ⟨"StagedParsers$Text", "size", "()I"⟩
def w_T_size : List Cond := .code y_T_size prog_7_method_3_code 1 (some .int) :: AW_
def rm_T_size : Room := { frames := 0, cells := 0, slots := 0, locals := 0 }
theorem d_T_size_0 : decode prog_7_method_3_code 0 = .ok (.aload_n 0, 1) := by decide +kernel
theorem d_T_size_1 : decode prog_7_method_3_code 1 = .ok (.getfield 15, 3) := by decide +kernel
theorem d_T_size_4 : decode prog_7_method_3_code 4 = .ok (.ireturn, 1) := by decide +kernel
def f_T_size (σ : MZ_) : Option (Int32) :=
  some (σ 33 0)
set_option maxHeartbeats 4000000 in
set_option maxRecDepth 100000 in
theorem c_T_size (l : Launch) (dC : Nat → ClassId) (dI : Nat → Nat → Nat) (q : Nat → Nat) (cA : Nat → ClassId) (pt : Nat) (σ : MZ_) (u : Int32) (h : f_T_size σ = some u) : Met l y_T_size w_T_size rm_T_size (va_Pc [.ref (q 20)] (PX_ dC dI q cA pt σ)) (QcRead u) 0 0 (fun _ => False) := by
  refine Met.ofW (cc := prog_7_method_3_code) (maxL := 1) (ret := (some .int)) (by decide) rfl ?_
  intro p e s m args below meth c s₁ B hml hv
  obtain ⟨rfl, hP, hK, hD, hN, hZ⟩ := hv
  have hx := B.exec
  have hb := B.bytes
  have hr := B.returns
  have hts : ∀ w ∈ AW_, w.before _ s = true := fun w h => atoms_spec (ws := w_T_size) B.pre w (List.mem_cons_of_mem _ h)
  have hown : s.vm.findClass "StagedParsers$Text" = some m.cls := findClass_of_methodNamed B.named
  have hlocks := B.notSynchronized
  have hS : va_S (AX q) s.heap s.heap [] := va_S.rf
  have hl := lv_entry ([.ref (q 20)]) (n := 1) (Nat.le_of_ble_eq_true rfl)
  rw [lg_entry_eq]
  generalize (lg_sl ([.ref (q 20)]) ++ List.replicate (1 - (lg_sl ([.ref (q 20)])).length) Slot.unset).toArray = ls at hl ⊢
  have hl : lv_has ls 1 [(0, .ref (q 20))] := hl
  rw [f_T_size] at h
  refine lv_aload_n hx hb d_T_size_0 rfl (lv_at hl 0 rfl) ?_
  refine gf_T_15 hx hb hts hown hK hP d_T_size_1 ?_
  obtain rfl := Option.some.inj h
  exact W.iret hx hb hr (fun t ht hW => ⟨rfl, ht⟩) (fun _ h9 => nomatch h9) d_T_size_4
def y_T_append : MethodName := ⟨"StagedParsers$Text", "append", "(C)V"⟩
def w_T_append : List Cond := .code y_T_append prog_7_method_4_code 2 none :: AW_
def rm_T_append : Room := { frames := 0, cells := 0, slots := 0, locals := 0 }
theorem d_T_append_0 : decode prog_7_method_4_code 0 = .ok (.aload_n 0, 1) := by decide +kernel
theorem d_T_append_1 : decode prog_7_method_4_code 1 = .ok (.getfield 15, 3) := by decide +kernel
theorem d_T_append_4 : decode prog_7_method_4_code 4 = .ok (.bipush 40, 2) := by decide +kernel
theorem d_T_append_6 : decode prog_7_method_4_code 6 = .ok (.if_icmp .ge 23, 3) := by decide +kernel
theorem d_T_append_9 : decode prog_7_method_4_code 9 = .ok (.aload_n 0, 1) := by decide +kernel
theorem d_T_append_10 : decode prog_7_method_4_code 10 = .ok (.getfield 9, 3) := by decide +kernel
theorem d_T_append_13 : decode prog_7_method_4_code 13 = .ok (.aload_n 0, 1) := by decide +kernel
theorem d_T_append_14 : decode prog_7_method_4_code 14 = .ok (.getfield 15, 3) := by decide +kernel
theorem d_T_append_17 : decode prog_7_method_4_code 17 = .ok (.iload_n 1, 1) := by decide +kernel
theorem d_T_append_18 : decode prog_7_method_4_code 18 = .ok (.castore, 1) := by decide +kernel
theorem d_T_append_19 : decode prog_7_method_4_code 19 = .ok (.aload_n 0, 1) := by decide +kernel
theorem d_T_append_20 : decode prog_7_method_4_code 20 = .ok (.dup, 1) := by decide +kernel
theorem d_T_append_21 : decode prog_7_method_4_code 21 = .ok (.getfield 15, 3) := by decide +kernel
theorem d_T_append_24 : decode prog_7_method_4_code 24 = .ok (.iconst 1, 1) := by decide +kernel
theorem d_T_append_25 : decode prog_7_method_4_code 25 = .ok (.iadd, 1) := by decide +kernel
theorem d_T_append_26 : decode prog_7_method_4_code 26 = .ok (.putfield 15, 3) := by decide +kernel
theorem d_T_append_29 : decode prog_7_method_4_code 29 = .ok (.return_, 1) := by decide +kernel
section RW
variable {p : Program} {l : Launch} {e : Env} {R : Room} {s : State} {m : MethodId} {args : Array Value} {below : List Frame} {meth : Method} {c : Code} {H : Heap} {locs : List Loc} {cells slots : Nat} {Q : State → Prop}
variable {cc : ByteArray} {pc : Nat} {ls : Array Slot} {rest : List Value} {dC : Nat → ClassId} {dI : Nat → Nat → Nat} {q : Nat → Nat} {cA : Nat → ClassId} {σ : MZ_} {H0 : Heap} {A : Nat → Prop}

theorem gf_T_9 (hx : p.tables.exec = Jvm.exec) (hb : c.code = cc) (hts : ∀ w ∈ AW_, w.before args s = true) (hown : s.vm.findClass "StagedParsers$Text" = some m.cls) (hK : va_K (dC, dI) cls_ (tyX cA) s) (hP : va_P (dC, dI) cls_ (wX q cA σ) H) (hdg : decode cc pc = .ok (.getfield 9, 3)) (kk : W p l e R s m args below meth c H locs cells slots Q (F0 m (pc + 3) ls (.ref (q 21) :: rest))) : W p l e R s m args below meth c H locs cells slots Q (F0 m pc ls (.ref (q 20) :: rest)) :=
  va_get (D := (dC, dI)) (cl := cls_) (ci := 4) (v := .ref (q 21)) (ws := wX q cA σ) (tys := tyX cA) (C := Rz_T) (T := Tz_T) (N := 2) hx hb hts uz_T hown hK hP 20 rfl rfl 0 (by decide) (hts _ kw_115) (fun _ h9 => h9) rfl hdg kk
theorem pf_T_15 (hx : p.tables.exec = Jvm.exec) (hb : c.code = cc) (hts : ∀ w ∈ AW_, w.before args s = true) (hown : s.vm.findClass "StagedParsers$Text" = some m.cls) (hK : va_K (dC, dI) cls_ (tyX cA) s) (hP : va_P (dC, dI) cls_ (wX q cA σ) H) (hD : va_D A (wX q cA σ)) (hS : va_S A H0 H locs) {v : Int32} (hdg : decode cc pc = .ok (.putfield 15, 3)) (kk : ∀ (H1 : Heap) (locs1 : List Loc), va_P (dC, dI) cls_ (wX q cA (va_up σ 33 (fun _ => v))) H1 → va_S A H0 H1 locs1 → W p l e R s m args below meth c H1 locs1 cells slots Q (F0 m (pc + 3) ls rest)) : W p l e R s m args below meth c H locs cells slots Q (F0 m pc ls (.int v :: .ref (q 20) :: rest)) :=
  va_put (D := (dC, dI)) (cl := cls_) (ci := 4) (v := .int v) (ty := .int) (ws := wX q cA σ) (tys := tyX cA) (C := Rz_T) (T := Tz_T) (N := 2) hx hb hts uz_T tz_T tz_T_ok nz_T hown hK hP hD hS 20 rfl rfl 1 (by decide) (hts _ kw_116) (fun _ h9 => h9) rfl (by decide +kernel) rfl rfl (Nat.le_of_ble_eq_true rfl) hdg (fun H1 locs1 hP _ hS => kk H1 locs1 hP hS)
end RW
def f_T_append (σ : MZ_) (a1 : Int32) : Option (MZ_) :=
  if 40 ≤ (σ 33 0) then some σ
  else gd_ (σ 33 0) 40 (st_ (va_up σ 21 (upd (σ 21) (σ 33 0).toNatClampNeg (vp_nar .char a1))) fun σ1 => st_ (va_up σ1 33 (fun _ => (σ1 33 0) + 1)) fun σ2 => some σ2)
set_option maxHeartbeats 4000000 in
set_option maxRecDepth 100000 in
theorem c_T_append (l : Launch) (dC : Nat → ClassId) (dI : Nat → Nat → Nat) (q : Nat → Nat) (cA : Nat → ClassId) (pt : Nat) (σ : MZ_) (a1 : Int32) (u : MZ_) (h : f_T_append σ a1 = some u) : Met l y_T_append w_T_append rm_T_append (va_Pc [.ref (q 20), .int a1] (PX_ dC dI q cA pt σ)) (QW_ none (fun H => va_P (dC, dI) cls_ (wX q cA u) H) (AX q)) 0 0 (AX q) := by
  refine Met.ofW (cc := prog_7_method_4_code) (maxL := 2) (ret := none) (by decide) rfl ?_
  intro p e s m args below meth c s₁ B hml hv
  obtain ⟨rfl, hP, hK, hD, hN, hZ⟩ := hv
  have hx := B.exec
  have hb := B.bytes
  have hr := B.returns
  have hts : ∀ w ∈ AW_, w.before _ s = true := fun w h => atoms_spec (ws := w_T_append) B.pre w (List.mem_cons_of_mem _ h)
  have hown : s.vm.findClass "StagedParsers$Text" = some m.cls := findClass_of_methodNamed B.named
  have hlocks := B.notSynchronized
  have hS : va_S (AX q) s.heap s.heap [] := va_S.rf
  have hl := lv_entry ([.ref (q 20), .int a1]) (n := 2) (Nat.le_of_ble_eq_true rfl)
  rw [lg_entry_eq]
  generalize (lg_sl ([.ref (q 20), .int a1]) ++ List.replicate (2 - (lg_sl ([.ref (q 20), .int a1])).length) Slot.unset).toArray = ls at hl ⊢
  have hl : lv_has ls 2 [(0, .ref (q 20)), (1, .int a1)] := hl
  rw [f_T_append] at h
  refine lv_aload_n hx hb d_T_append_0 rfl (lv_at hl 0 rfl) ?_
  refine gf_T_15 hx hb hts hown hK hP d_T_append_1 ?_
  refine lv_bipush (v := 40) hx hb d_T_append_4 (by decide) ?_
  refine lv_icmp_ge (tgt := 29) hx hb d_T_append_6 rfl (fun hc => ?_) (fun hc => ?_)
  · have h := if_t hc h
    obtain rfl := Option.some.inj h
    exact W.vret hx hb hr (fun t ht hW => ⟨rfl, by rw [ht]; exact hP, hS.F ht⟩) hS.2.2 d_T_append_29
  · have h := if_f hc h
    refine lv_aload_n hx hb d_T_append_9 rfl (lv_at hl 0 rfl) ?_
    refine gf_T_9 hx hb hts hown hK hP d_T_append_10 ?_
    refine lv_aload_n hx hb d_T_append_13 rfl (lv_at hl 0 rfl) ?_
    refine gf_T_15 hx hb hts hown hK hP d_T_append_14 ?_
    refine lv_iload_n hx hb d_T_append_17 rfl (lv_at hl 1 rfl) ?_
    obtain ⟨hgd, h⟩ := gd_some h
    refine as_X_21 hx hb hK hP hD hS hgd d_T_append_18 (fun H locs hP hS => ?_)
    obtain ⟨σ1, eσ1, h⟩ := st_some h
    rw [← eσ1] at hP
    have hD : va_D (AX q) (wX q cA σ1) := dd_re (wX_f _ _ _ _) hD
    refine lv_aload_n hx hb d_T_append_19 rfl (lv_at hl 0 rfl) ?_
    refine lv_dup hx hb d_T_append_20 rfl ?_
    refine gf_T_15 hx hb hts hown hK hP d_T_append_21 ?_
    refine lv_iconst (v := 1) hx hb d_T_append_24 (by decide) ?_
    refine lv_iadd hx hb d_T_append_25 ?_
    refine pf_T_15 hx hb hts hown hK hP hD hS d_T_append_26 (fun H locs hP hS => ?_)
    obtain ⟨σ2, eσ2, h⟩ := st_some h
    rw [← eσ2] at hP
    have hD : va_D (AX q) (wX q cA σ2) := dd_re (wX_f _ _ _ _) hD
    obtain rfl := Option.some.inj h
    exact W.vret hx hb hr (fun t ht hW => ⟨rfl, by rw [ht]; exact hP, hS.F ht⟩) hS.2.2 d_T_append_29
def y_T_erase : MethodName := ⟨"StagedParsers$Text", "erase", "()V"⟩
def w_T_erase : List Cond := .code y_T_erase prog_7_method_5_code 1 none :: AW_
def rm_T_erase : Room := { frames := 0, cells := 0, slots := 0, locals := 0 }
theorem d_T_erase_0 : decode prog_7_method_5_code 0 = .ok (.aload_n 0, 1) := by decide +kernel
theorem d_T_erase_1 : decode prog_7_method_5_code 1 = .ok (.iconst 0, 1) := by decide +kernel
theorem d_T_erase_2 : decode prog_7_method_5_code 2 = .ok (.putfield 15, 3) := by decide +kernel
theorem d_T_erase_5 : decode prog_7_method_5_code 5 = .ok (.return_, 1) := by decide +kernel
def f_T_erase (σ : MZ_) : Option (MZ_) :=
  st_ (va_up σ 33 (fun _ => 0)) fun σ1 => some σ1
set_option maxHeartbeats 4000000 in
set_option maxRecDepth 100000 in
theorem c_T_erase (l : Launch) (dC : Nat → ClassId) (dI : Nat → Nat → Nat) (q : Nat → Nat) (cA : Nat → ClassId) (pt : Nat) (σ : MZ_) (u : MZ_) (h : f_T_erase σ = some u) : Met l y_T_erase w_T_erase rm_T_erase (va_Pc [.ref (q 20)] (PX_ dC dI q cA pt σ)) (QW_ none (fun H => va_P (dC, dI) cls_ (wX q cA u) H) (AX q)) 0 0 (AX q) := by
  refine Met.ofW (cc := prog_7_method_5_code) (maxL := 1) (ret := none) (by decide) rfl ?_
  intro p e s m args below meth c s₁ B hml hv
  obtain ⟨rfl, hP, hK, hD, hN, hZ⟩ := hv
  have hx := B.exec
  have hb := B.bytes
  have hr := B.returns
  have hts : ∀ w ∈ AW_, w.before _ s = true := fun w h => atoms_spec (ws := w_T_erase) B.pre w (List.mem_cons_of_mem _ h)
  have hown : s.vm.findClass "StagedParsers$Text" = some m.cls := findClass_of_methodNamed B.named
  have hlocks := B.notSynchronized
  have hS : va_S (AX q) s.heap s.heap [] := va_S.rf
  have hl := lv_entry ([.ref (q 20)]) (n := 1) (Nat.le_of_ble_eq_true rfl)
  rw [lg_entry_eq]
  generalize (lg_sl ([.ref (q 20)]) ++ List.replicate (1 - (lg_sl ([.ref (q 20)])).length) Slot.unset).toArray = ls at hl ⊢
  have hl : lv_has ls 1 [(0, .ref (q 20))] := hl
  rw [f_T_erase] at h
  refine lv_aload_n hx hb d_T_erase_0 rfl (lv_at hl 0 rfl) ?_
  refine lv_iconst (v := 0) hx hb d_T_erase_1 (by decide) ?_
  refine pf_T_15 hx hb hts hown hK hP hD hS d_T_erase_2 (fun H locs hP hS => ?_)
  obtain ⟨σ1, eσ1, h⟩ := st_some h
  rw [← eσ1] at hP
  have hD : va_D (AX q) (wX q cA σ1) := dd_re (wX_f _ _ _ _) hD
  obtain rfl := Option.some.inj h
  exact W.vret hx hb hr (fun t ht hW => ⟨rfl, by rw [ht]; exact hP, hS.F ht⟩) hS.2.2 d_T_erase_5
def y_T_signAt : MethodName := ⟨"StagedParsers$Text", "signAt", "(I)I"⟩
def w_T_signAt : List Cond := .code y_T_signAt prog_7_method_6_code 2 (some .int) :: AW_
def rm_T_signAt : Room := { frames := 0, cells := 0, slots := 0, locals := 0 }
theorem d_T_signAt_0 : decode prog_7_method_6_code 0 = .ok (.iload_n 1, 1) := by decide +kernel
theorem d_T_signAt_1 : decode prog_7_method_6_code 1 = .ok (.ifCond .lt 20, 3) := by decide +kernel
theorem d_T_signAt_4 : decode prog_7_method_6_code 4 = .ok (.iload_n 1, 1) := by decide +kernel
theorem d_T_signAt_5 : decode prog_7_method_6_code 5 = .ok (.aload_n 0, 1) := by decide +kernel
theorem d_T_signAt_6 : decode prog_7_method_6_code 6 = .ok (.getfield 15, 3) := by decide +kernel
theorem d_T_signAt_9 : decode prog_7_method_6_code 9 = .ok (.if_icmp .ge 12, 3) := by decide +kernel
theorem d_T_signAt_12 : decode prog_7_method_6_code 12 = .ok (.aload_n 0, 1) := by decide +kernel
theorem d_T_signAt_13 : decode prog_7_method_6_code 13 = .ok (.getfield 9, 3) := by decide +kernel
theorem d_T_signAt_16 : decode prog_7_method_6_code 16 = .ok (.iload_n 1, 1) := by decide +kernel
theorem d_T_signAt_17 : decode prog_7_method_6_code 17 = .ok (.caload, 1) := by decide +kernel
theorem d_T_signAt_18 : decode prog_7_method_6_code 18 = .ok (.goto 4, 3) := by decide +kernel
theorem d_T_signAt_21 : decode prog_7_method_6_code 21 = .ok (.iconst (-1), 1) := by decide +kernel
theorem d_T_signAt_22 : decode prog_7_method_6_code 22 = .ok (.ireturn, 1) := by decide +kernel
def f_T_signAt (σ : MZ_) (a1 : Int32) : Option (Int32) :=
  if a1 < 0 then some (-1)
  else if (σ 33 0) ≤ a1 then some (-1)
  else gd_ a1 40 (some (σ 21 a1.toNatClampNeg))
set_option maxHeartbeats 4000000 in
set_option maxRecDepth 100000 in
theorem c_T_signAt (l : Launch) (dC : Nat → ClassId) (dI : Nat → Nat → Nat) (q : Nat → Nat) (cA : Nat → ClassId) (pt : Nat) (σ : MZ_) (a1 : Int32) (u : Int32) (h : f_T_signAt σ a1 = some u) : Met l y_T_signAt w_T_signAt rm_T_signAt (va_Pc [.ref (q 20), .int a1] (PX_ dC dI q cA pt σ)) (QcRead u) 0 0 (fun _ => False) := by
  refine Met.ofW (cc := prog_7_method_6_code) (maxL := 2) (ret := (some .int)) (by decide) rfl ?_
  intro p e s m args below meth c s₁ B hml hv
  obtain ⟨rfl, hP, hK, hD, hN, hZ⟩ := hv
  have hx := B.exec
  have hb := B.bytes
  have hr := B.returns
  have hts : ∀ w ∈ AW_, w.before _ s = true := fun w h => atoms_spec (ws := w_T_signAt) B.pre w (List.mem_cons_of_mem _ h)
  have hown : s.vm.findClass "StagedParsers$Text" = some m.cls := findClass_of_methodNamed B.named
  have hlocks := B.notSynchronized
  have hS : va_S (AX q) s.heap s.heap [] := va_S.rf
  have hl := lv_entry ([.ref (q 20), .int a1]) (n := 2) (Nat.le_of_ble_eq_true rfl)
  rw [lg_entry_eq]
  generalize (lg_sl ([.ref (q 20), .int a1]) ++ List.replicate (2 - (lg_sl ([.ref (q 20), .int a1])).length) Slot.unset).toArray = ls at hl ⊢
  have hl : lv_has ls 2 [(0, .ref (q 20)), (1, .int a1)] := hl
  rw [f_T_signAt] at h
  refine lv_iload_n hx hb d_T_signAt_0 rfl (lv_at hl 1 rfl) ?_
  refine lv_if_lt (tgt := 21) hx hb d_T_signAt_1 rfl (fun hc => ?_) (fun hc => ?_)
  · have h := if_t hc h
    refine lv_iconst (v := (-1)) hx hb d_T_signAt_21 (by decide) ?_
    obtain rfl := Option.some.inj h
    exact W.iret hx hb hr (fun t ht hW => ⟨rfl, ht⟩) (fun _ h9 => nomatch h9) d_T_signAt_22
  · have h := if_f hc h
    refine lv_iload_n hx hb d_T_signAt_4 rfl (lv_at hl 1 rfl) ?_
    refine lv_aload_n hx hb d_T_signAt_5 rfl (lv_at hl 0 rfl) ?_
    refine gf_T_15 hx hb hts hown hK hP d_T_signAt_6 ?_
    refine lv_icmp_ge (tgt := 21) hx hb d_T_signAt_9 rfl (fun hc => ?_) (fun hc => ?_)
    · have h := if_t hc h
      refine lv_iconst (v := (-1)) hx hb d_T_signAt_21 (by decide) ?_
      obtain rfl := Option.some.inj h
      exact W.iret hx hb hr (fun t ht hW => ⟨rfl, ht⟩) (fun _ h9 => nomatch h9) d_T_signAt_22
    · have h := if_f hc h
      refine lv_aload_n hx hb d_T_signAt_12 rfl (lv_at hl 0 rfl) ?_
      refine gf_T_9 hx hb hts hown hK hP d_T_signAt_13 ?_
      refine lv_iload_n hx hb d_T_signAt_16 rfl (lv_at hl 1 rfl) ?_
      obtain ⟨hgd, h⟩ := gd_some h
      refine al_X_21 hx hb hK hP hgd d_T_signAt_17 ?_
      refine lv_goto (tgt := 22) hx hb d_T_signAt_18 rfl ?_
      obtain rfl := Option.some.inj h
      exact W.iret hx hb hr (fun t ht hW => ⟨rfl, ht⟩) (fun _ h9 => nomatch h9) d_T_signAt_22
