/-! the face, where nothing is thrown -/
def y_S_stage : MethodName := ⟨"StagedParsers", "stage", "()I"⟩
def w_S_stage : List Cond := .code y_S_stage prog_1_method_4_code 2 (some .int) :: AW_
def rm_S_stage : Room := { frames := 6, cells := 0, slots := 0, locals := 130 }
theorem d_S_stage_0 : decode prog_1_method_4_code 0 = .ok (.aload_n 0, 1) := by decide +kernel
theorem d_S_stage_1 : decode prog_1_method_4_code 1 = .ok (.getfield 21, 3) := by decide +kernel
theorem d_S_stage_4 : decode prog_1_method_4_code 4 = .ok (.invokevirtual 93, 3) := by decide +kernel
theorem d_S_stage_7 : decode prog_1_method_4_code 7 = .ok (.istore_n 1, 1) := by decide +kernel
theorem d_S_stage_8 : decode prog_1_method_4_code 8 = .ok (.aload_n 0, 1) := by decide +kernel
theorem d_S_stage_9 : decode prog_1_method_4_code 9 = .ok (.iload_n 1, 1) := by decide +kernel
theorem d_S_stage_10 : decode prog_1_method_4_code 10 = .ok (.ifCond .ne 7, 3) := by decide +kernel
theorem d_S_stage_13 : decode prog_1_method_4_code 13 = .ok (.iconst 1, 1) := by decide +kernel
theorem d_S_stage_14 : decode prog_1_method_4_code 14 = .ok (.goto 4, 3) := by decide +kernel
theorem d_S_stage_17 : decode prog_1_method_4_code 17 = .ok (.iconst 0, 1) := by decide +kernel
theorem d_S_stage_18 : decode prog_1_method_4_code 18 = .ok (.putfield 48, 3) := by decide +kernel
theorem d_S_stage_21 : decode prog_1_method_4_code 21 = .ok (.aload_n 0, 1) := by decide +kernel
theorem d_S_stage_22 : decode prog_1_method_4_code 22 = .ok (.getfield 48, 3) := by decide +kernel
theorem d_S_stage_25 : decode prog_1_method_4_code 25 = .ok (.ifCond .eq 18, 3) := by decide +kernel
theorem d_S_stage_28 : decode prog_1_method_4_code 28 = .ok (.aload_n 0, 1) := by decide +kernel
theorem d_S_stage_29 : decode prog_1_method_4_code 29 = .ok (.getfield 28, 3) := by decide +kernel
theorem d_S_stage_32 : decode prog_1_method_4_code 32 = .ok (.aload_n 0, 1) := by decide +kernel
theorem d_S_stage_33 : decode prog_1_method_4_code 33 = .ok (.getfield 12, 3) := by decide +kernel
theorem d_S_stage_36 : decode prog_1_method_4_code 36 = .ok (.aload_n 0, 1) := by decide +kernel
theorem d_S_stage_37 : decode prog_1_method_4_code 37 = .ok (.getfield 21, 3) := by decide +kernel
theorem d_S_stage_40 : decode prog_1_method_4_code 40 = .ok (.invokevirtual 96, 3) := by decide +kernel
theorem d_S_stage_43 : decode prog_1_method_4_code 43 = .ok (.iload_n 1, 1) := by decide +kernel
theorem d_S_stage_44 : decode prog_1_method_4_code 44 = .ok (.ireturn, 1) := by decide +kernel
section RW
variable {p : Program} {l : Launch} {e : Env} {R : Room} {s : State} {m : MethodId} {args : Array Value} {below : List Frame} {meth : Method} {c : Code} {H : Heap} {locs : List Loc} {cells slots : Nat} {Q : State → Prop}
variable {cc : ByteArray} {pc : Nat} {ls : Array Slot} {rest : List Value} {dC : Nat → ClassId} {dI : Nat → Nat → Nat} {q : Nat → Nat} {cA : Nat → ClassId} {σ : MZ_} {H0 : Heap} {A : Nat → Prop}

theorem gf_S_21 (hx : p.tables.exec = Jvm.exec) (hb : c.code = cc) (hts : ∀ w ∈ AW_, w.before args s = true) (hown : s.vm.findClass "StagedParsers" = some m.cls) (hK : va_K (dC, dI) cls_ (tyX cA) s) (hP : va_P (dC, dI) cls_ (wX q cA σ) H) (hdg : decode cc pc = .ok (.getfield 21, 3)) (kk : W p l e R s m args below meth c H locs cells slots Q (F0 m (pc + 3) ls (.ref (q 8) :: rest))) : W p l e R s m args below meth c H locs cells slots Q (F0 m pc ls (.ref (q 0) :: rest)) :=
  va_get (D := (dC, dI)) (cl := cls_) (ci := 0) (v := .ref (q 8)) (ws := wX q cA σ) (tys := tyX cA) (C := Rz_S) (T := Tz_S) (N := 6) hx hb hts uz_S hown hK hP 0 rfl rfl 1 (by decide) (hts _ kw_195) (fun _ h9 => h9) rfl hdg kk
theorem cw_S_93 (hts : ∀ w ∈ AW_, w.before args s = true) (hR : rm_Y_fault.frames + 1 ≤ R.frames ∧ 8 + (1 + 11) + rm_Y_fault.locals ≤ R.locals) : CallW R s args "StagedParsers" "StagedParsers$Study" 93 y_Y_fault prog_6_method_6_code 1 (some .int) w_Y_fault rm_Y_fault 0 0 0 :=
  ⟨callB_of 0 hts (aw_in kw_220) rfl rfl rfl (hts _ kw_4) (hts _ kw_217) ⟨by decide, by decide, by decide +kernel⟩ hR, hts _ kw_218, hts _ kw_219⟩
theorem pf_S_48 (hx : p.tables.exec = Jvm.exec) (hb : c.code = cc) (hts : ∀ w ∈ AW_, w.before args s = true) (hown : s.vm.findClass "StagedParsers" = some m.cls) (hK : va_K (dC, dI) cls_ (tyX cA) s) (hP : va_P (dC, dI) cls_ (wX q cA σ) H) (hD : va_D A (wX q cA σ)) (hS : va_S A H0 H locs) {v : Int32} (hbo : v = 0 ∨ v = 1) (hdg : decode cc pc = .ok (.putfield 48, 3)) (kk : ∀ (H1 : Heap) (locs1 : List Loc), va_P (dC, dI) cls_ (wX q cA (va_up σ 30 (fun _ => v))) H1 → va_S A H0 H1 locs1 → W p l e R s m args below meth c H1 locs1 cells slots Q (F0 m (pc + 3) ls rest)) : W p l e R s m args below meth c H locs cells slots Q (F0 m pc ls (.int v :: .ref (q 0) :: rest)) :=
  va_put (D := (dC, dI)) (cl := cls_) (ci := 0) (v := .int v) (ty := .boolean) (ws := wX q cA σ) (tys := tyX cA) (C := Rz_S) (T := Tz_S) (N := 6) hx hb hts uz_S tz_S tz_S_ok nz_S hown hK hP hD hS 0 rfl rfl 5 (by decide) (hts _ kw_199) (fun _ h9 => h9) rfl (by decide +kernel) (bo_nar hbo) (bo_fit hbo) (Nat.le_of_ble_eq_true rfl) hdg (fun H1 locs1 hP _ hS => kk H1 locs1 hP hS)
theorem gf_S_48 (hx : p.tables.exec = Jvm.exec) (hb : c.code = cc) (hts : ∀ w ∈ AW_, w.before args s = true) (hown : s.vm.findClass "StagedParsers" = some m.cls) (hK : va_K (dC, dI) cls_ (tyX cA) s) (hP : va_P (dC, dI) cls_ (wX q cA σ) H) (hdg : decode cc pc = .ok (.getfield 48, 3)) (kk : W p l e R s m args below meth c H locs cells slots Q (F0 m (pc + 3) ls (.int (σ 30 0) :: rest))) : W p l e R s m args below meth c H locs cells slots Q (F0 m pc ls (.ref (q 0) :: rest)) :=
  va_get (D := (dC, dI)) (cl := cls_) (ci := 0) (v := .int (σ 30 0)) (ws := wX q cA σ) (tys := tyX cA) (C := Rz_S) (T := Tz_S) (N := 6) hx hb hts uz_S hown hK hP 0 rfl rfl 5 (by decide) (hts _ kw_199) (fun _ h9 => h9) rfl hdg kk
theorem gf_S_28 (hx : p.tables.exec = Jvm.exec) (hb : c.code = cc) (hts : ∀ w ∈ AW_, w.before args s = true) (hown : s.vm.findClass "StagedParsers" = some m.cls) (hK : va_K (dC, dI) cls_ (tyX cA) s) (hP : va_P (dC, dI) cls_ (wX q cA σ) H) (hdg : decode cc pc = .ok (.getfield 28, 3)) (kk : W p l e R s m args below meth c H locs cells slots Q (F0 m (pc + 3) ls (.ref (q 14) :: rest))) : W p l e R s m args below meth c H locs cells slots Q (F0 m pc ls (.ref (q 0) :: rest)) :=
  va_get (D := (dC, dI)) (cl := cls_) (ci := 0) (v := .ref (q 14)) (ws := wX q cA σ) (tys := tyX cA) (C := Rz_S) (T := Tz_S) (N := 6) hx hb hts uz_S hown hK hP 0 rfl rfl 2 (by decide) (hts _ kw_196) (fun _ h9 => h9) rfl hdg kk
theorem gf_S_12 (hx : p.tables.exec = Jvm.exec) (hb : c.code = cc) (hts : ∀ w ∈ AW_, w.before args s = true) (hown : s.vm.findClass "StagedParsers" = some m.cls) (hK : va_K (dC, dI) cls_ (tyX cA) s) (hP : va_P (dC, dI) cls_ (wX q cA σ) H) (hdg : decode cc pc = .ok (.getfield 12, 3)) (kk : W p l e R s m args below meth c H locs cells slots Q (F0 m (pc + 3) ls (.ref (q 1) :: rest))) : W p l e R s m args below meth c H locs cells slots Q (F0 m pc ls (.ref (q 0) :: rest)) :=
  va_get (D := (dC, dI)) (cl := cls_) (ci := 0) (v := .ref (q 1)) (ws := wX q cA σ) (tys := tyX cA) (C := Rz_S) (T := Tz_S) (N := 6) hx hb hts uz_S hown hK hP 0 rfl rfl 0 (by decide) (hts _ kw_194) (fun _ h9 => h9) rfl hdg kk
theorem cw_S_96 (hts : ∀ w ∈ AW_, w.before args s = true) (hR : rm_C_write.frames + 1 ≤ R.frames ∧ 8 + (4 + 11) + rm_C_write.locals ≤ R.locals) : CallW R s args "StagedParsers" "StagedParsers$Code" 96 y_C_write prog_2_method_6_code 4 none w_C_write rm_C_write 0 0 2 :=
  ⟨callB_of 2 hts (aw_in kw_311) rfl rfl rfl (hts _ kw_5) (hts _ kw_308) ⟨by decide, by decide, by decide +kernel⟩ hR, hts _ kw_309, hts _ kw_310⟩
end RW
def f_S_stage (σ : MZ_) : Option (Int32 × MZ_) :=
  (f_Y_fault σ).bind fun u1 => if u1.1 = 0 then st_ (va_up u1.2 30 (fun _ => 1)) fun σ2 => if (σ2 30 0) = 0 then some (u1.1, σ2)
    else (f_C_write σ2).bind fun u3 => some (u1.1, u3)
  else st_ (va_up u1.2 30 (fun _ => 0)) fun σ1 => if (σ1 30 0) = 0 then some (u1.1, σ1)
  else (f_C_write σ1).bind fun u2 => some (u1.1, u2)
set_option maxHeartbeats 4000000 in
set_option maxRecDepth 100000 in
theorem c_S_stage (l : Launch) (dC : Nat → ClassId) (dI : Nat → Nat → Nat) (q : Nat → Nat) (cA : Nat → ClassId) (pt : Nat) (σ : MZ_) (u : Int32 × MZ_) (h : f_S_stage σ = some u) : Met l y_S_stage w_S_stage rm_S_stage (va_Pc [.ref (q 0)] (PX_ dC dI q cA pt σ)) (QW_ (some (.int u.1)) (fun H => va_P (dC, dI) cls_ (wX q cA u.2) H) (AX q)) 0 0 (AX q) := by
  refine Met.ofW (cc := prog_1_method_4_code) (maxL := 2) (ret := (some .int)) (by decide) rfl ?_
  intro p e s m args below meth c s₁ B hml hv
  obtain ⟨rfl, hP, hK, hD, hN, hZ⟩ := hv
  have hx := B.exec
  have hb := B.bytes
  have hr := B.returns
  have hts : ∀ w ∈ AW_, w.before _ s = true := fun w h => atoms_spec (ws := w_S_stage) B.pre w (List.mem_cons_of_mem _ h)
  have hown : s.vm.findClass "StagedParsers" = some m.cls := findClass_of_methodNamed B.named
  have hlocks := B.notSynchronized
  have hS : va_S (AX q) s.heap s.heap [] := va_S.rf
  have hl := lv_entry ([.ref (q 0)]) (n := 2) (Nat.le_of_ble_eq_true rfl)
  rw [lg_entry_eq]
  generalize (lg_sl ([.ref (q 0)]) ++ List.replicate (2 - (lg_sl ([.ref (q 0)])).length) Slot.unset).toArray = ls at hl ⊢
  have hl : lv_has ls 2 [(0, .ref (q 0))] := hl
  rw [f_S_stage] at h
  refine lv_aload_n hx hb d_S_stage_0 rfl (lv_at hl 0 rfl) ?_
  refine gf_S_21 hx hb hts hown hK hP d_S_stage_1 ?_
  obtain ⟨u1, hcl, h⟩ := bd_some h
  refine cx_wri (va_runV (As := []) (rest := []) ⟨hx, hb, hml, hown, hts⟩ (c_Y_fault l dC dI q cA pt σ _ hcl) (cw_S_93 hts ⟨Nat.le_of_ble_eq_true rfl, Nat.le_of_ble_eq_true rfl⟩) ⟨pxX_B, va_recv hK hP (ci := 2) (q0 := 8) rfl rfl, pxX_U hP hK hD hN hZ hS⟩ rfl rfl hl.1 rfl (lv_room (Nat.le_of_ble_eq_true rfl)) d_S_stage_4 ⟨Nat.zero_le _, Nat.zero_le _⟩) hS (fun _ h => h) (fun H locs hP hS => ?_)
  have hD : va_D (AX q) (wX q cA u1.2) := dd_re (wX_f _ _ _ _) hD
  refine lv_istore_n hx hb d_S_stage_7 rfl hl (by decide) rfl (fun ls hl => ?_)
  have hl : lv_has ls 2 [(1, .int u1.1), (0, .ref (q 0))] := hl
  refine lv_aload_n hx hb d_S_stage_8 rfl (lv_at hl 1 rfl) ?_
  refine lv_iload_n hx hb d_S_stage_9 rfl (lv_at hl 0 rfl) ?_
  refine lv_if_ne (tgt := 17) hx hb d_S_stage_10 rfl (fun hc => ?_) (fun hc => ?_)
  · have h := if_f hc h
    refine lv_iconst (v := 0) hx hb d_S_stage_17 (by decide) ?_
    refine pf_S_48 hx hb hts hown hK hP hD hS (Or.inl rfl) d_S_stage_18 (fun H locs hP hS => ?_)
    obtain ⟨σ1, eσ1, h⟩ := st_some h
    rw [← eσ1] at hP
    have hD : va_D (AX q) (wX q cA σ1) := dd_re (wX_f _ _ _ _) hD
    refine lv_aload_n hx hb d_S_stage_21 rfl (lv_at hl 1 rfl) ?_
    refine gf_S_48 hx hb hts hown hK hP d_S_stage_22 ?_
    refine lv_if_eq (tgt := 43) hx hb d_S_stage_25 rfl (fun hc => ?_) (fun hc => ?_)
    · have h := if_t hc h
      refine lv_iload_n hx hb d_S_stage_43 rfl (lv_at hl 0 rfl) ?_
      obtain rfl := Option.some.inj h
      exact W.iret hx hb hr (fun t ht hW => ⟨rfl, by rw [ht]; exact hP, hS.F ht⟩) hS.2.2 d_S_stage_44
    · have h := if_f hc h
      refine lv_aload_n hx hb d_S_stage_28 rfl (lv_at hl 1 rfl) ?_
      refine gf_S_28 hx hb hts hown hK hP d_S_stage_29 ?_
      refine lv_aload_n hx hb d_S_stage_32 rfl (lv_at hl 1 rfl) ?_
      refine gf_S_12 hx hb hts hown hK hP d_S_stage_33 ?_
      refine lv_aload_n hx hb d_S_stage_36 rfl (lv_at hl 1 rfl) ?_
      refine gf_S_21 hx hb hts hown hK hP d_S_stage_37 ?_
      obtain ⟨u2, hcl, h⟩ := bd_some h
      refine cx_wrv (va_runV (As := [.ref (q 1), .ref (q 8)]) (rest := []) ⟨hx, hb, hml, hown, hts⟩ (c_C_write l dC dI q cA pt σ1 _ hcl) (cw_S_96 hts ⟨Nat.le_of_ble_eq_true rfl, Nat.le_of_ble_eq_true rfl⟩) ⟨pxX_B, va_recv hK hP (ci := 3) (q0 := 14) rfl rfl, pxX_U hP hK hD hN hZ hS⟩ rfl rfl hl.1 rfl (lv_room (Nat.le_of_ble_eq_true rfl)) d_S_stage_40 ⟨Nat.zero_le _, Nat.zero_le _⟩) hS (fun _ h => h) (fun H locs hP hS => ?_)
      have hD : va_D (AX q) (wX q cA u2) := dd_re (wX_f _ _ _ _) hD
      refine lv_iload_n hx hb d_S_stage_43 rfl (lv_at hl 0 rfl) ?_
      obtain rfl := Option.some.inj h
      exact W.iret hx hb hr (fun t ht hW => ⟨rfl, by rw [ht]; exact hP, hS.F ht⟩) hS.2.2 d_S_stage_44
  · have h := if_t hc h
    refine lv_iconst (v := 1) hx hb d_S_stage_13 (by decide) ?_
    refine lv_goto (tgt := 18) hx hb d_S_stage_14 rfl ?_
    refine pf_S_48 hx hb hts hown hK hP hD hS (Or.inr rfl) d_S_stage_18 (fun H locs hP hS => ?_)
    obtain ⟨σ2, eσ2, h⟩ := st_some h
    rw [← eσ2] at hP
    have hD : va_D (AX q) (wX q cA σ2) := dd_re (wX_f _ _ _ _) hD
    refine lv_aload_n hx hb d_S_stage_21 rfl (lv_at hl 1 rfl) ?_
    refine gf_S_48 hx hb hts hown hK hP d_S_stage_22 ?_
    refine lv_if_eq (tgt := 43) hx hb d_S_stage_25 rfl (fun hc => ?_) (fun hc => ?_)
    · have h := if_t hc h
      refine lv_iload_n hx hb d_S_stage_43 rfl (lv_at hl 0 rfl) ?_
      obtain rfl := Option.some.inj h
      exact W.iret hx hb hr (fun t ht hW => ⟨rfl, by rw [ht]; exact hP, hS.F ht⟩) hS.2.2 d_S_stage_44
    · have h := if_f hc h
      refine lv_aload_n hx hb d_S_stage_28 rfl (lv_at hl 1 rfl) ?_
      refine gf_S_28 hx hb hts hown hK hP d_S_stage_29 ?_
      refine lv_aload_n hx hb d_S_stage_32 rfl (lv_at hl 1 rfl) ?_
      refine gf_S_12 hx hb hts hown hK hP d_S_stage_33 ?_
      refine lv_aload_n hx hb d_S_stage_36 rfl (lv_at hl 1 rfl) ?_
      refine gf_S_21 hx hb hts hown hK hP d_S_stage_37 ?_
      obtain ⟨u3, hcl, h⟩ := bd_some h
      refine cx_wrv (va_runV (As := [.ref (q 1), .ref (q 8)]) (rest := []) ⟨hx, hb, hml, hown, hts⟩ (c_C_write l dC dI q cA pt σ2 _ hcl) (cw_S_96 hts ⟨Nat.le_of_ble_eq_true rfl, Nat.le_of_ble_eq_true rfl⟩) ⟨pxX_B, va_recv hK hP (ci := 3) (q0 := 14) rfl rfl, pxX_U hP hK hD hN hZ hS⟩ rfl rfl hl.1 rfl (lv_room (Nat.le_of_ble_eq_true rfl)) d_S_stage_40 ⟨Nat.zero_le _, Nat.zero_le _⟩) hS (fun _ h => h) (fun H locs hP hS => ?_)
      have hD : va_D (AX q) (wX q cA u3) := dd_re (wX_f _ _ _ _) hD
      refine lv_iload_n hx hb d_S_stage_43 rfl (lv_at hl 0 rfl) ?_
      obtain rfl := Option.some.inj h
      exact W.iret hx hb hr (fun t ht hW => ⟨rfl, by rw [ht]; exact hP, hS.F ht⟩) hS.2.2 d_S_stage_44
def y_S_clear : MethodName := ⟨"StagedParsers", "clear", "()I"⟩
def w_S_clear : List Cond := .code y_S_clear prog_1_method_9_code 2 (some .int) :: AW_
def rm_S_clear : Room := { frames := 1, cells := 0, slots := 0, locals := 20 }
theorem d_S_clear_0 : decode prog_1_method_9_code 0 = .ok (.aload_n 0, 1) := by decide +kernel
theorem d_S_clear_1 : decode prog_1_method_9_code 1 = .ok (.getfield 35, 3) := by decide +kernel
theorem d_S_clear_4 : decode prog_1_method_9_code 4 = .ok (.invokevirtual 129, 3) := by decide +kernel
theorem d_S_clear_7 : decode prog_1_method_9_code 7 = .ok (.istore_n 1, 1) := by decide +kernel
theorem d_S_clear_8 : decode prog_1_method_9_code 8 = .ok (.aload_n 0, 1) := by decide +kernel
theorem d_S_clear_9 : decode prog_1_method_9_code 9 = .ok (.getfield 35, 3) := by decide +kernel
theorem d_S_clear_12 : decode prog_1_method_9_code 12 = .ok (.invokevirtual 132, 3) := by decide +kernel
theorem d_S_clear_15 : decode prog_1_method_9_code 15 = .ok (.iload_n 1, 1) := by decide +kernel
theorem d_S_clear_16 : decode prog_1_method_9_code 16 = .ok (.ireturn, 1) := by decide +kernel
section RW
variable {p : Program} {l : Launch} {e : Env} {R : Room} {s : State} {m : MethodId} {args : Array Value} {below : List Frame} {meth : Method} {c : Code} {H : Heap} {locs : List Loc} {cells slots : Nat} {Q : State → Prop}
variable {cc : ByteArray} {pc : Nat} {ls : Array Slot} {rest : List Value} {dC : Nat → ClassId} {dI : Nat → Nat → Nat} {q : Nat → Nat} {cA : Nat → ClassId} {σ : MZ_} {H0 : Heap} {A : Nat → Prop}

theorem gf_S_35 (hx : p.tables.exec = Jvm.exec) (hb : c.code = cc) (hts : ∀ w ∈ AW_, w.before args s = true) (hown : s.vm.findClass "StagedParsers" = some m.cls) (hK : va_K (dC, dI) cls_ (tyX cA) s) (hP : va_P (dC, dI) cls_ (wX q cA σ) H) (hdg : decode cc pc = .ok (.getfield 35, 3)) (kk : W p l e R s m args below meth c H locs cells slots Q (F0 m (pc + 3) ls (.ref (q 20) :: rest))) : W p l e R s m args below meth c H locs cells slots Q (F0 m pc ls (.ref (q 0) :: rest)) :=
  va_get (D := (dC, dI)) (cl := cls_) (ci := 0) (v := .ref (q 20)) (ws := wX q cA σ) (tys := tyX cA) (C := Rz_S) (T := Tz_S) (N := 6) hx hb hts uz_S hown hK hP 0 rfl rfl 3 (by decide) (hts _ kw_197) (fun _ h9 => h9) rfl hdg kk
theorem cw_S_129 (hts : ∀ w ∈ AW_, w.before args s = true) (hR : rm_T_size.frames + 1 ≤ R.frames ∧ 8 + (1 + 11) + rm_T_size.locals ≤ R.locals) : CallW R s args "StagedParsers" "StagedParsers$Text" 129 y_T_size prog_7_method_3_code 1 (some .int) w_T_size rm_T_size 0 0 0 :=
  ⟨callB_of 0 hts (aw_in kw_364) rfl rfl rfl (hts _ kw_6) (hts _ kw_361) ⟨by decide, by decide, by decide +kernel⟩ hR, hts _ kw_362, hts _ kw_363⟩
theorem cw_S_132 (hts : ∀ w ∈ AW_, w.before args s = true) (hR : rm_T_erase.frames + 1 ≤ R.frames ∧ 8 + (1 + 11) + rm_T_erase.locals ≤ R.locals) : CallW R s args "StagedParsers" "StagedParsers$Text" 132 y_T_erase prog_7_method_5_code 1 none w_T_erase rm_T_erase 0 0 0 :=
  ⟨callB_of 0 hts (aw_in kw_368) rfl rfl rfl (hts _ kw_6) (hts _ kw_365) ⟨by decide, by decide, by decide +kernel⟩ hR, hts _ kw_366, hts _ kw_367⟩
end RW
def f_S_clear (σ : MZ_) : Option (Int32 × MZ_) :=
  (f_T_size σ).bind fun r1 => (f_T_erase σ).bind fun u2 => some (r1, u2)
set_option maxHeartbeats 4000000 in
set_option maxRecDepth 100000 in
theorem c_S_clear (l : Launch) (dC : Nat → ClassId) (dI : Nat → Nat → Nat) (q : Nat → Nat) (cA : Nat → ClassId) (pt : Nat) (σ : MZ_) (u : Int32 × MZ_) (h : f_S_clear σ = some u) : Met l y_S_clear w_S_clear rm_S_clear (va_Pc [.ref (q 0)] (PX_ dC dI q cA pt σ)) (QW_ (some (.int u.1)) (fun H => va_P (dC, dI) cls_ (wX q cA u.2) H) (AX q)) 0 0 (AX q) := by
  refine Met.ofW (cc := prog_1_method_9_code) (maxL := 2) (ret := (some .int)) (by decide) rfl ?_
  intro p e s m args below meth c s₁ B hml hv
  obtain ⟨rfl, hP, hK, hD, hN, hZ⟩ := hv
  have hx := B.exec
  have hb := B.bytes
  have hr := B.returns
  have hts : ∀ w ∈ AW_, w.before _ s = true := fun w h => atoms_spec (ws := w_S_clear) B.pre w (List.mem_cons_of_mem _ h)
  have hown : s.vm.findClass "StagedParsers" = some m.cls := findClass_of_methodNamed B.named
  have hlocks := B.notSynchronized
  have hS : va_S (AX q) s.heap s.heap [] := va_S.rf
  have hl := lv_entry ([.ref (q 0)]) (n := 2) (Nat.le_of_ble_eq_true rfl)
  rw [lg_entry_eq]
  generalize (lg_sl ([.ref (q 0)]) ++ List.replicate (2 - (lg_sl ([.ref (q 0)])).length) Slot.unset).toArray = ls at hl ⊢
  have hl : lv_has ls 2 [(0, .ref (q 0))] := hl
  rw [f_S_clear] at h
  refine lv_aload_n hx hb d_S_clear_0 rfl (lv_at hl 0 rfl) ?_
  refine gf_S_35 hx hb hts hown hK hP d_S_clear_1 ?_
  obtain ⟨r1, hcl, h⟩ := bd_some h
  refine cx_read (va_runV (As := []) (rest := []) ⟨hx, hb, hml, hown, hts⟩ (c_T_size l dC dI q cA pt σ _ hcl) (cw_S_129 hts ⟨Nat.le_of_ble_eq_true rfl, Nat.le_of_ble_eq_true rfl⟩) ⟨pxX_B, va_recv hK hP (ci := 4) (q0 := 20) rfl rfl, pxX_U hP hK hD hN hZ hS⟩ rfl rfl hl.1 rfl (lv_room (Nat.le_of_ble_eq_true rfl)) d_S_clear_4 ⟨Nat.zero_le _, Nat.zero_le _⟩) ?_
  refine lv_istore_n hx hb d_S_clear_7 rfl hl (by decide) rfl (fun ls hl => ?_)
  have hl : lv_has ls 2 [(1, .int r1), (0, .ref (q 0))] := hl
  refine lv_aload_n hx hb d_S_clear_8 rfl (lv_at hl 1 rfl) ?_
  refine gf_S_35 hx hb hts hown hK hP d_S_clear_9 ?_
  obtain ⟨u2, hcl, h⟩ := bd_some h
  refine cx_wrv (va_runV (As := []) (rest := []) ⟨hx, hb, hml, hown, hts⟩ (c_T_erase l dC dI q cA pt σ _ hcl) (cw_S_132 hts ⟨Nat.le_of_ble_eq_true rfl, Nat.le_of_ble_eq_true rfl⟩) ⟨pxX_B, va_recv hK hP (ci := 4) (q0 := 20) rfl rfl, pxX_U hP hK hD hN hZ hS⟩ rfl rfl hl.1 rfl (lv_room (Nat.le_of_ble_eq_true rfl)) d_S_clear_12 ⟨Nat.zero_le _, Nat.zero_le _⟩) hS (fun _ h => h) (fun H locs hP hS => ?_)
  have hD : va_D (AX q) (wX q cA u2) := dd_re (wX_f _ _ _ _) hD
  refine lv_iload_n hx hb d_S_clear_15 rfl (lv_at hl 0 rfl) ?_
  obtain rfl := Option.some.inj h
  exact W.iret hx hb hr (fun t ht hW => ⟨rfl, by rw [ht]; exact hP, hS.F ht⟩) hS.2.2 d_S_clear_16
def y_S_latest : MethodName := ⟨"StagedParsers", "latest", "(I)I"⟩
def w_S_latest : List Cond := .code y_S_latest prog_1_method_11_code 2 (some .int) :: AW_
def rm_S_latest : Room := { frames := 1, cells := 0, slots := 0, locals := 20 }
theorem d_S_latest_0 : decode prog_1_method_11_code 0 = .ok (.iload_n 1, 1) := by decide +kernel
theorem d_S_latest_1 : decode prog_1_method_11_code 1 = .ok (.ifCond .lt 8, 3) := by decide +kernel
theorem d_S_latest_4 : decode prog_1_method_11_code 4 = .ok (.iload_n 1, 1) := by decide +kernel
theorem d_S_latest_5 : decode prog_1_method_11_code 5 = .ok (.iconst 3, 1) := by decide +kernel
theorem d_S_latest_6 : decode prog_1_method_11_code 6 = .ok (.if_icmp .le 6, 3) := by decide +kernel
theorem d_S_latest_9 : decode prog_1_method_11_code 9 = .ok (.bipush (-2), 2) := by decide +kernel
theorem d_S_latest_11 : decode prog_1_method_11_code 11 = .ok (.ireturn, 1) := by decide +kernel
theorem d_S_latest_12 : decode prog_1_method_11_code 12 = .ok (.aload_n 0, 1) := by decide +kernel
theorem d_S_latest_13 : decode prog_1_method_11_code 13 = .ok (.getfield 44, 3) := by decide +kernel
theorem d_S_latest_16 : decode prog_1_method_11_code 16 = .ok (.invokevirtual 165, 3) := by decide +kernel
theorem d_S_latest_19 : decode prog_1_method_11_code 19 = .ok (.ifCond .ne 5, 3) := by decide +kernel
theorem d_S_latest_22 : decode prog_1_method_11_code 22 = .ok (.iconst 0, 1) := by decide +kernel
theorem d_S_latest_23 : decode prog_1_method_11_code 23 = .ok (.ireturn, 1) := by decide +kernel
theorem d_S_latest_24 : decode prog_1_method_11_code 24 = .ok (.iload_n 1, 1) := by decide +kernel
theorem d_S_latest_25 : decode prog_1_method_11_code 25 = .ok (.tableswitch 65 0 2 #[27, 49, 57], 27) := by decide +kernel
theorem d_S_latest_52 : decode prog_1_method_11_code 52 = .ok (.aload_n 0, 1) := by decide +kernel
theorem d_S_latest_53 : decode prog_1_method_11_code 53 = .ok (.getfield 44, 3) := by decide +kernel
theorem d_S_latest_56 : decode prog_1_method_11_code 56 = .ok (.invokevirtual 146, 3) := by decide +kernel
theorem d_S_latest_59 : decode prog_1_method_11_code 59 = .ok (.ifCond .eq 7, 3) := by decide +kernel
theorem d_S_latest_62 : decode prog_1_method_11_code 62 = .ok (.iconst (-1), 1) := by decide +kernel
theorem d_S_latest_63 : decode prog_1_method_11_code 63 = .ok (.goto 10, 3) := by decide +kernel
theorem d_S_latest_66 : decode prog_1_method_11_code 66 = .ok (.aload_n 0, 1) := by decide +kernel
theorem d_S_latest_67 : decode prog_1_method_11_code 67 = .ok (.getfield 44, 3) := by decide +kernel
theorem d_S_latest_70 : decode prog_1_method_11_code 70 = .ok (.invokevirtual 168, 3) := by decide +kernel
theorem d_S_latest_73 : decode prog_1_method_11_code 73 = .ok (.ireturn, 1) := by decide +kernel
theorem d_S_latest_74 : decode prog_1_method_11_code 74 = .ok (.aload_n 0, 1) := by decide +kernel
theorem d_S_latest_75 : decode prog_1_method_11_code 75 = .ok (.getfield 44, 3) := by decide +kernel
theorem d_S_latest_78 : decode prog_1_method_11_code 78 = .ok (.invokevirtual 171, 3) := by decide +kernel
theorem d_S_latest_81 : decode prog_1_method_11_code 81 = .ok (.ireturn, 1) := by decide +kernel
theorem d_S_latest_82 : decode prog_1_method_11_code 82 = .ok (.aload_n 0, 1) := by decide +kernel
theorem d_S_latest_83 : decode prog_1_method_11_code 83 = .ok (.getfield 44, 3) := by decide +kernel
theorem d_S_latest_86 : decode prog_1_method_11_code 86 = .ok (.invokevirtual 174, 3) := by decide +kernel
theorem d_S_latest_89 : decode prog_1_method_11_code 89 = .ok (.ireturn, 1) := by decide +kernel
theorem d_S_latest_90 : decode prog_1_method_11_code 90 = .ok (.aload_n 0, 1) := by decide +kernel
theorem d_S_latest_91 : decode prog_1_method_11_code 91 = .ok (.getfield 44, 3) := by decide +kernel
theorem d_S_latest_94 : decode prog_1_method_11_code 94 = .ok (.invokevirtual 154, 3) := by decide +kernel
theorem d_S_latest_97 : decode prog_1_method_11_code 97 = .ok (.ifCond .eq 7, 3) := by decide +kernel
theorem d_S_latest_100 : decode prog_1_method_11_code 100 = .ok (.iconst 1, 1) := by decide +kernel
theorem d_S_latest_101 : decode prog_1_method_11_code 101 = .ok (.goto 4, 3) := by decide +kernel
theorem d_S_latest_104 : decode prog_1_method_11_code 104 = .ok (.iconst 0, 1) := by decide +kernel
theorem d_S_latest_105 : decode prog_1_method_11_code 105 = .ok (.ireturn, 1) := by decide +kernel
section RW
variable {p : Program} {l : Launch} {e : Env} {R : Room} {s : State} {m : MethodId} {args : Array Value} {below : List Frame} {meth : Method} {c : Code} {H : Heap} {locs : List Loc} {cells slots : Nat} {Q : State → Prop}
variable {cc : ByteArray} {pc : Nat} {ls : Array Slot} {rest : List Value} {dC : Nat → ClassId} {dI : Nat → Nat → Nat} {q : Nat → Nat} {cA : Nat → ClassId} {σ : MZ_} {H0 : Heap} {A : Nat → Prop}

theorem gf_S_44 (hx : p.tables.exec = Jvm.exec) (hb : c.code = cc) (hts : ∀ w ∈ AW_, w.before args s = true) (hown : s.vm.findClass "StagedParsers" = some m.cls) (hK : va_K (dC, dI) cls_ (tyX cA) s) (hP : va_P (dC, dI) cls_ (wX q cA σ) H) (hdg : decode cc pc = .ok (.getfield 44, 3)) (kk : W p l e R s m args below meth c H locs cells slots Q (F0 m (pc + 3) ls (.ref (q 22) :: rest))) : W p l e R s m args below meth c H locs cells slots Q (F0 m pc ls (.ref (q 0) :: rest)) :=
  va_get (D := (dC, dI)) (cl := cls_) (ci := 0) (v := .ref (q 22)) (ws := wX q cA σ) (tys := tyX cA) (C := Rz_S) (T := Tz_S) (N := 6) hx hb hts uz_S hown hK hP 0 rfl rfl 4 (by decide) (hts _ kw_198) (fun _ h9 => h9) rfl hdg kk
theorem cw_S_165 (hts : ∀ w ∈ AW_, w.before args s = true) (hR : rm_M_hasRun.frames + 1 ≤ R.frames ∧ 8 + (1 + 11) + rm_M_hasRun.locals ≤ R.locals) : CallW R s args "StagedParsers" "StagedParsers$Machine" 165 y_M_hasRun prog_5_method_2_code 1 (some .boolean) w_M_hasRun rm_M_hasRun 0 0 0 :=
  ⟨callB_of 0 hts (aw_in kw_376) rfl rfl rfl (hts _ kw_7) (hts _ kw_373) ⟨by decide, by decide, by decide +kernel⟩ hR, hts _ kw_374, hts _ kw_375⟩
theorem cw_S_146 (hts : ∀ w ∈ AW_, w.before args s = true) (hR : rm_M_isTired.frames + 1 ≤ R.frames ∧ 8 + (1 + 11) + rm_M_isTired.locals ≤ R.locals) : CallW R s args "StagedParsers" "StagedParsers$Machine" 146 y_M_isTired prog_5_method_4_code 1 (some .boolean) w_M_isTired rm_M_isTired 0 0 0 :=
  ⟨callB_of 0 hts (aw_in kw_380) rfl rfl rfl (hts _ kw_7) (hts _ kw_377) ⟨by decide, by decide, by decide +kernel⟩ hR, hts _ kw_378, hts _ kw_379⟩
theorem cw_S_168 (hts : ∀ w ∈ AW_, w.before args s = true) (hR : rm_M_place.frames + 1 ≤ R.frames ∧ 8 + (1 + 11) + rm_M_place.locals ≤ R.locals) : CallW R s args "StagedParsers" "StagedParsers$Machine" 168 y_M_place prog_5_method_5_code 1 (some .int) w_M_place rm_M_place 0 0 0 :=
  ⟨callB_of 0 hts (aw_in kw_384) rfl rfl rfl (hts _ kw_7) (hts _ kw_381) ⟨by decide, by decide, by decide +kernel⟩ hR, hts _ kw_382, hts _ kw_383⟩
theorem cw_S_171 (hts : ∀ w ∈ AW_, w.before args s = true) (hR : rm_M_looks.frames + 1 ≤ R.frames ∧ 8 + (1 + 11) + rm_M_looks.locals ≤ R.locals) : CallW R s args "StagedParsers" "StagedParsers$Machine" 171 y_M_looks prog_5_method_6_code 1 (some .int) w_M_looks rm_M_looks 0 0 0 :=
  ⟨callB_of 0 hts (aw_in kw_388) rfl rfl rfl (hts _ kw_7) (hts _ kw_385) ⟨by decide, by decide, by decide +kernel⟩ hR, hts _ kw_386, hts _ kw_387⟩
theorem cw_S_174 (hts : ∀ w ∈ AW_, w.before args s = true) (hR : rm_M_far.frames + 1 ≤ R.frames ∧ 8 + (1 + 11) + rm_M_far.locals ≤ R.locals) : CallW R s args "StagedParsers" "StagedParsers$Machine" 174 y_M_far prog_5_method_7_code 1 (some .int) w_M_far rm_M_far 0 0 0 :=
  ⟨callB_of 0 hts (aw_in kw_392) rfl rfl rfl (hts _ kw_7) (hts _ kw_389) ⟨by decide, by decide, by decide +kernel⟩ hR, hts _ kw_390, hts _ kw_391⟩
theorem cw_S_154 (hts : ∀ w ∈ AW_, w.before args s = true) (hR : rm_M_hasSucceeded.frames + 1 ≤ R.frames ∧ 8 + (1 + 11) + rm_M_hasSucceeded.locals ≤ R.locals) : CallW R s args "StagedParsers" "StagedParsers$Machine" 154 y_M_hasSucceeded prog_5_method_3_code 1 (some .boolean) w_M_hasSucceeded rm_M_hasSucceeded 0 0 0 :=
  ⟨callB_of 0 hts (aw_in kw_396) rfl rfl rfl (hts _ kw_7) (hts _ kw_393) ⟨by decide, by decide, by decide +kernel⟩ hR, hts _ kw_394, hts _ kw_395⟩
end RW
def f_S_latest (σ : MZ_) (a1 : Int32) : Option (Int32) :=
  if a1 < 0 then some (-2)
  else if a1 ≤ 3 then (f_M_hasRun σ).bind fun r1 => if r1 = 0 then some 0
    else if a1 = 0 then (f_M_isTired σ).bind fun r2 => if r2 = 0 then (f_M_place σ).bind fun r3 => some r3
      else some (-1)
    else if a1 = 1 then (f_M_looks σ).bind fun r4 => some r4
    else if a1 = 2 then (f_M_far σ).bind fun r5 => some r5
    else (f_M_hasSucceeded σ).bind fun r6 => if r6 = 0 then some 0
    else some 1
  else some (-2)
set_option maxHeartbeats 4000000 in
set_option maxRecDepth 100000 in
theorem c_S_latest (l : Launch) (dC : Nat → ClassId) (dI : Nat → Nat → Nat) (q : Nat → Nat) (cA : Nat → ClassId) (pt : Nat) (σ : MZ_) (a1 : Int32) (u : Int32) (h : f_S_latest σ a1 = some u) : Met l y_S_latest w_S_latest rm_S_latest (va_Pc [.ref (q 0), .int a1] (PX_ dC dI q cA pt σ)) (QcRead u) 0 0 (fun _ => False) := by
  refine Met.ofW (cc := prog_1_method_11_code) (maxL := 2) (ret := (some .int)) (by decide) rfl ?_
  intro p e s m args below meth c s₁ B hml hv
  obtain ⟨rfl, hP, hK, hD, hN, hZ⟩ := hv
  have hx := B.exec
  have hb := B.bytes
  have hr := B.returns
  have hts : ∀ w ∈ AW_, w.before _ s = true := fun w h => atoms_spec (ws := w_S_latest) B.pre w (List.mem_cons_of_mem _ h)
  have hown : s.vm.findClass "StagedParsers" = some m.cls := findClass_of_methodNamed B.named
  have hlocks := B.notSynchronized
  have hS : va_S (AX q) s.heap s.heap [] := va_S.rf
  have hl := lv_entry ([.ref (q 0), .int a1]) (n := 2) (Nat.le_of_ble_eq_true rfl)
  rw [lg_entry_eq]
  generalize (lg_sl ([.ref (q 0), .int a1]) ++ List.replicate (2 - (lg_sl ([.ref (q 0), .int a1])).length) Slot.unset).toArray = ls at hl ⊢
  have hl : lv_has ls 2 [(0, .ref (q 0)), (1, .int a1)] := hl
  rw [f_S_latest] at h
  refine lv_iload_n hx hb d_S_latest_0 rfl (lv_at hl 1 rfl) ?_
  refine lv_if_lt (tgt := 9) hx hb d_S_latest_1 rfl (fun hc => ?_) (fun hc => ?_)
  · have h := if_t hc h
    refine lv_bipush (v := (-2)) hx hb d_S_latest_9 (by decide) ?_
    obtain rfl := Option.some.inj h
    exact W.iret hx hb hr (fun t ht hW => ⟨rfl, ht⟩) (fun _ h9 => nomatch h9) d_S_latest_11
  · have h := if_f hc h
    refine lv_iload_n hx hb d_S_latest_4 rfl (lv_at hl 1 rfl) ?_
    refine lv_iconst (v := 3) hx hb d_S_latest_5 (by decide) ?_
    refine lv_icmp_le (tgt := 12) hx hb d_S_latest_6 rfl (fun hc => ?_) (fun hc => ?_)
    · have h := if_t hc h
      refine lv_aload_n hx hb d_S_latest_12 rfl (lv_at hl 0 rfl) ?_
      refine gf_S_44 hx hb hts hown hK hP d_S_latest_13 ?_
      obtain ⟨r1, hcl, h⟩ := bd_some h
      refine cx_read (va_runV (As := []) (rest := []) ⟨hx, hb, hml, hown, hts⟩ (c_M_hasRun l dC dI q cA pt σ _ hcl) (cw_S_165 hts ⟨Nat.le_of_ble_eq_true rfl, Nat.le_of_ble_eq_true rfl⟩) ⟨pxX_B, va_recv hK hP (ci := 5) (q0 := 22) rfl rfl, pxX_U hP hK hD hN hZ hS⟩ rfl rfl hl.1 rfl (lv_room (Nat.le_of_ble_eq_true rfl)) d_S_latest_16 ⟨Nat.zero_le _, Nat.zero_le _⟩) ?_
      refine lv_if_ne (tgt := 24) hx hb d_S_latest_19 rfl (fun hc => ?_) (fun hc => ?_)
      · have h := if_f hc h
        refine lv_iload_n hx hb d_S_latest_24 rfl (lv_at hl 1 rfl) ?_
        by_cases hc0 : a1 = 0
        · have h := if_t hc0 h
          refine sw_in (tgt := 52) hx hb d_S_latest_25 hc0 (by decide) (by decide) rfl rfl ?_
          refine lv_aload_n hx hb d_S_latest_52 rfl (lv_at hl 0 rfl) ?_
          refine gf_S_44 hx hb hts hown hK hP d_S_latest_53 ?_
          obtain ⟨r2, hcl, h⟩ := bd_some h
          refine cx_read (va_runV (As := []) (rest := []) ⟨hx, hb, hml, hown, hts⟩ (c_M_isTired l dC dI q cA pt σ _ hcl) (cw_S_146 hts ⟨Nat.le_of_ble_eq_true rfl, Nat.le_of_ble_eq_true rfl⟩) ⟨pxX_B, va_recv hK hP (ci := 5) (q0 := 22) rfl rfl, pxX_U hP hK hD hN hZ hS⟩ rfl rfl hl.1 rfl (lv_room (Nat.le_of_ble_eq_true rfl)) d_S_latest_56 ⟨Nat.zero_le _, Nat.zero_le _⟩) ?_
          refine lv_if_eq (tgt := 66) hx hb d_S_latest_59 rfl (fun hc => ?_) (fun hc => ?_)
          · have h := if_t hc h
            refine lv_aload_n hx hb d_S_latest_66 rfl (lv_at hl 0 rfl) ?_
            refine gf_S_44 hx hb hts hown hK hP d_S_latest_67 ?_
            obtain ⟨r3, hcl, h⟩ := bd_some h
            refine cx_read (va_runV (As := []) (rest := []) ⟨hx, hb, hml, hown, hts⟩ (c_M_place l dC dI q cA pt σ _ hcl) (cw_S_168 hts ⟨Nat.le_of_ble_eq_true rfl, Nat.le_of_ble_eq_true rfl⟩) ⟨pxX_B, va_recv hK hP (ci := 5) (q0 := 22) rfl rfl, pxX_U hP hK hD hN hZ hS⟩ rfl rfl hl.1 rfl (lv_room (Nat.le_of_ble_eq_true rfl)) d_S_latest_70 ⟨Nat.zero_le _, Nat.zero_le _⟩) ?_
            obtain rfl := Option.some.inj h
            exact W.iret hx hb hr (fun t ht hW => ⟨rfl, ht⟩) (fun _ h9 => nomatch h9) d_S_latest_73
          · have h := if_f hc h
            refine lv_iconst (v := (-1)) hx hb d_S_latest_62 (by decide) ?_
            refine lv_goto (tgt := 73) hx hb d_S_latest_63 rfl ?_
            obtain rfl := Option.some.inj h
            exact W.iret hx hb hr (fun t ht hW => ⟨rfl, ht⟩) (fun _ h9 => nomatch h9) d_S_latest_73
        have h := if_f hc0 h
        by_cases hc1 : a1 = 1
        · have h := if_t hc1 h
          refine sw_in (tgt := 74) hx hb d_S_latest_25 hc1 (by decide) (by decide) rfl rfl ?_
          refine lv_aload_n hx hb d_S_latest_74 rfl (lv_at hl 0 rfl) ?_
          refine gf_S_44 hx hb hts hown hK hP d_S_latest_75 ?_
          obtain ⟨r4, hcl, h⟩ := bd_some h
          refine cx_read (va_runV (As := []) (rest := []) ⟨hx, hb, hml, hown, hts⟩ (c_M_looks l dC dI q cA pt σ _ hcl) (cw_S_171 hts ⟨Nat.le_of_ble_eq_true rfl, Nat.le_of_ble_eq_true rfl⟩) ⟨pxX_B, va_recv hK hP (ci := 5) (q0 := 22) rfl rfl, pxX_U hP hK hD hN hZ hS⟩ rfl rfl hl.1 rfl (lv_room (Nat.le_of_ble_eq_true rfl)) d_S_latest_78 ⟨Nat.zero_le _, Nat.zero_le _⟩) ?_
          obtain rfl := Option.some.inj h
          exact W.iret hx hb hr (fun t ht hW => ⟨rfl, ht⟩) (fun _ h9 => nomatch h9) d_S_latest_81
        have h := if_f hc1 h
        by_cases hc2 : a1 = 2
        · have h := if_t hc2 h
          refine sw_in (tgt := 82) hx hb d_S_latest_25 hc2 (by decide) (by decide) rfl rfl ?_
          refine lv_aload_n hx hb d_S_latest_82 rfl (lv_at hl 0 rfl) ?_
          refine gf_S_44 hx hb hts hown hK hP d_S_latest_83 ?_
          obtain ⟨r5, hcl, h⟩ := bd_some h
          refine cx_read (va_runV (As := []) (rest := []) ⟨hx, hb, hml, hown, hts⟩ (c_M_far l dC dI q cA pt σ _ hcl) (cw_S_174 hts ⟨Nat.le_of_ble_eq_true rfl, Nat.le_of_ble_eq_true rfl⟩) ⟨pxX_B, va_recv hK hP (ci := 5) (q0 := 22) rfl rfl, pxX_U hP hK hD hN hZ hS⟩ rfl rfl hl.1 rfl (lv_room (Nat.le_of_ble_eq_true rfl)) d_S_latest_86 ⟨Nat.zero_le _, Nat.zero_le _⟩) ?_
          obtain rfl := Option.some.inj h
          exact W.iret hx hb hr (fun t ht hW => ⟨rfl, ht⟩) (fun _ h9 => nomatch h9) d_S_latest_89
        have h := if_f hc2 h
        refine lv_tableOut (tgt := 90) hx hb d_S_latest_25 (by have q0 := lv_neT hc0 (a := 0) (by decide); have q1 := lv_neT hc1 (a := 1) (by decide); have q2 := lv_neT hc2 (a := 2) (by decide); omega) rfl ?_
        refine lv_aload_n hx hb d_S_latest_90 rfl (lv_at hl 0 rfl) ?_
        refine gf_S_44 hx hb hts hown hK hP d_S_latest_91 ?_
        obtain ⟨r6, hcl, h⟩ := bd_some h
        refine cx_read (va_runV (As := []) (rest := []) ⟨hx, hb, hml, hown, hts⟩ (c_M_hasSucceeded l dC dI q cA pt σ _ hcl) (cw_S_154 hts ⟨Nat.le_of_ble_eq_true rfl, Nat.le_of_ble_eq_true rfl⟩) ⟨pxX_B, va_recv hK hP (ci := 5) (q0 := 22) rfl rfl, pxX_U hP hK hD hN hZ hS⟩ rfl rfl hl.1 rfl (lv_room (Nat.le_of_ble_eq_true rfl)) d_S_latest_94 ⟨Nat.zero_le _, Nat.zero_le _⟩) ?_
        refine lv_if_eq (tgt := 104) hx hb d_S_latest_97 rfl (fun hc => ?_) (fun hc => ?_)
        · have h := if_t hc h
          refine lv_iconst (v := 0) hx hb d_S_latest_104 (by decide) ?_
          obtain rfl := Option.some.inj h
          exact W.iret hx hb hr (fun t ht hW => ⟨rfl, ht⟩) (fun _ h9 => nomatch h9) d_S_latest_105
        · have h := if_f hc h
          refine lv_iconst (v := 1) hx hb d_S_latest_100 (by decide) ?_
          refine lv_goto (tgt := 105) hx hb d_S_latest_101 rfl ?_
          obtain rfl := Option.some.inj h
          exact W.iret hx hb hr (fun t ht hW => ⟨rfl, ht⟩) (fun _ h9 => nomatch h9) d_S_latest_105
      · have h := if_t hc h
        refine lv_iconst (v := 0) hx hb d_S_latest_22 (by decide) ?_
        obtain rfl := Option.some.inj h
        exact W.iret hx hb hr (fun t ht hW => ⟨rfl, ht⟩) (fun _ h9 => nomatch h9) d_S_latest_23
    · have h := if_f hc h
      refine lv_bipush (v := (-2)) hx hb d_S_latest_9 (by decide) ?_
      obtain rfl := Option.some.inj h
      exact W.iret hx hb hr (fun t ht hW => ⟨rfl, ht⟩) (fun _ h9 => nomatch h9) d_S_latest_11
def y_S_register : MethodName := ⟨"StagedParsers", "register", "(I)I"⟩
def w_S_register : List Cond := .code y_S_register prog_1_method_12_code 2 (some .int) :: AW_
def rm_S_register : Room := { frames := 2, cells := 0, slots := 0, locals := 41 }
theorem d_S_register_0 : decode prog_1_method_12_code 0 = .ok (.iload_n 1, 1) := by decide +kernel
theorem d_S_register_1 : decode prog_1_method_12_code 1 = .ok (.invokestatic 177, 3) := by decide +kernel
theorem d_S_register_4 : decode prog_1_method_12_code 4 = .ok (.ifCond .eq 14, 3) := by decide +kernel
theorem d_S_register_7 : decode prog_1_method_12_code 7 = .ok (.aload_n 0, 1) := by decide +kernel
theorem d_S_register_8 : decode prog_1_method_12_code 8 = .ok (.getfield 44, 3) := by decide +kernel
theorem d_S_register_11 : decode prog_1_method_12_code 11 = .ok (.iload_n 1, 1) := by decide +kernel
theorem d_S_register_12 : decode prog_1_method_12_code 12 = .ok (.invokevirtual 180, 3) := by decide +kernel
theorem d_S_register_15 : decode prog_1_method_12_code 15 = .ok (.goto 4, 3) := by decide +kernel
theorem d_S_register_18 : decode prog_1_method_12_code 18 = .ok (.iconst 0, 1) := by decide +kernel
theorem d_S_register_19 : decode prog_1_method_12_code 19 = .ok (.ireturn, 1) := by decide +kernel
section RW
variable {p : Program} {l : Launch} {e : Env} {R : Room} {s : State} {m : MethodId} {args : Array Value} {below : List Frame} {meth : Method} {c : Code} {H : Heap} {locs : List Loc} {cells slots : Nat} {Q : State → Prop}
variable {cc : ByteArray} {pc : Nat} {ls : Array Slot} {rest : List Value} {dC : Nat → ClassId} {dI : Nat → Nat → Nat} {q : Nat → Nat} {cA : Nat → ClassId} {σ : MZ_} {H0 : Heap} {A : Nat → Prop}

theorem cw_S_177 (hts : ∀ w ∈ AW_, w.before args s = true) (hR : rm_S_isRegister.frames + 1 ≤ R.frames ∧ 8 + (1 + 11) + rm_S_isRegister.locals ≤ R.locals) : CallB R s args "StagedParsers" 177 y_S_isRegister prog_1_method_15_code 1 (some .boolean) w_S_isRegister rm_S_isRegister 0 0 1 ∧ (Cond.static y_S_isRegister).before args s = true :=
  ⟨callB_of 1 hts (aw_in kw_403) rfl rfl rfl (hts _ kw_1) (hts _ kw_401) ⟨by decide, by decide, by decide +kernel⟩ hR, hts _ kw_402⟩
theorem cw_S_180 (hts : ∀ w ∈ AW_, w.before args s = true) (hR : rm_M_kept.frames + 1 ≤ R.frames ∧ 8 + (2 + 11) + rm_M_kept.locals ≤ R.locals) : CallW R s args "StagedParsers" "StagedParsers$Machine" 180 y_M_kept prog_5_method_8_code 2 (some .int) w_M_kept rm_M_kept 0 0 1 :=
  ⟨callB_of 1 hts (aw_in kw_407) rfl rfl rfl (hts _ kw_7) (hts _ kw_404) ⟨by decide, by decide, by decide +kernel⟩ hR, hts _ kw_405, hts _ kw_406⟩
end RW
def f_S_register (σ : MZ_) (a1 : Int32) : Option (Int32) :=
  (f_S_isRegister a1).bind fun r1 => if r1 = 0 then some 0
  else (f_M_kept σ a1).bind fun r2 => some r2
set_option maxHeartbeats 4000000 in
set_option maxRecDepth 100000 in
theorem c_S_register (l : Launch) (dC : Nat → ClassId) (dI : Nat → Nat → Nat) (q : Nat → Nat) (cA : Nat → ClassId) (pt : Nat) (σ : MZ_) (a1 : Int32) (u : Int32) (h : f_S_register σ a1 = some u) : Met l y_S_register w_S_register rm_S_register (va_Pc [.ref (q 0), .int a1] (PX_ dC dI q cA pt σ)) (QcRead u) 0 0 (fun _ => False) := by
  refine Met.ofW (cc := prog_1_method_12_code) (maxL := 2) (ret := (some .int)) (by decide) rfl ?_
  intro p e s m args below meth c s₁ B hml hv
  obtain ⟨rfl, hP, hK, hD, hN, hZ⟩ := hv
  have hx := B.exec
  have hb := B.bytes
  have hr := B.returns
  have hts : ∀ w ∈ AW_, w.before _ s = true := fun w h => atoms_spec (ws := w_S_register) B.pre w (List.mem_cons_of_mem _ h)
  have hown : s.vm.findClass "StagedParsers" = some m.cls := findClass_of_methodNamed B.named
  have hlocks := B.notSynchronized
  have hS : va_S (AX q) s.heap s.heap [] := va_S.rf
  have hl := lv_entry ([.ref (q 0), .int a1]) (n := 2) (Nat.le_of_ble_eq_true rfl)
  rw [lg_entry_eq]
  generalize (lg_sl ([.ref (q 0), .int a1]) ++ List.replicate (2 - (lg_sl ([.ref (q 0), .int a1])).length) Slot.unset).toArray = ls at hl ⊢
  have hl : lv_has ls 2 [(0, .ref (q 0)), (1, .int a1)] := hl
  rw [f_S_register] at h
  refine lv_iload_n hx hb d_S_register_0 rfl (lv_at hl 1 rfl) ?_
  obtain ⟨r1, hcl, h⟩ := bd_some h
  refine cx_read (va_runS (As := [.int a1]) (rest := []) ⟨hx, hb, hml, hown, hts⟩ (c_S_isRegister l dC dI q cA pt σ a1 _ hcl) (cw_S_177 hts ⟨Nat.le_of_ble_eq_true rfl, Nat.le_of_ble_eq_true rfl⟩) ⟨pxX_B, pxX_U hP hK hD hN hZ hS⟩ rfl rfl hl.1 rfl (lv_room (Nat.le_of_ble_eq_true rfl)) d_S_register_1 ⟨Nat.zero_le _, Nat.zero_le _⟩) ?_
  refine lv_if_eq (tgt := 18) hx hb d_S_register_4 rfl (fun hc => ?_) (fun hc => ?_)
  · have h := if_t hc h
    refine lv_iconst (v := 0) hx hb d_S_register_18 (by decide) ?_
    obtain rfl := Option.some.inj h
    exact W.iret hx hb hr (fun t ht hW => ⟨rfl, ht⟩) (fun _ h9 => nomatch h9) d_S_register_19
  · have h := if_f hc h
    refine lv_aload_n hx hb d_S_register_7 rfl (lv_at hl 0 rfl) ?_
    refine gf_S_44 hx hb hts hown hK hP d_S_register_8 ?_
    refine lv_iload_n hx hb d_S_register_11 rfl (lv_at hl 1 rfl) ?_
    obtain ⟨r2, hcl, h⟩ := bd_some h
    refine cx_read (va_runV (As := [.int a1]) (rest := []) ⟨hx, hb, hml, hown, hts⟩ (c_M_kept l dC dI q cA pt σ a1 _ hcl) (cw_S_180 hts ⟨Nat.le_of_ble_eq_true rfl, Nat.le_of_ble_eq_true rfl⟩) ⟨pxX_B, va_recv hK hP (ci := 5) (q0 := 22) rfl rfl, pxX_U hP hK hD hN hZ hS⟩ rfl rfl hl.1 rfl (lv_room (Nat.le_of_ble_eq_true rfl)) d_S_register_12 ⟨Nat.zero_le _, Nat.zero_le _⟩) ?_
    refine lv_goto (tgt := 19) hx hb d_S_register_15 rfl ?_
    obtain rfl := Option.some.inj h
    exact W.iret hx hb hr (fun t ht hW => ⟨rfl, ht⟩) (fun _ h9 => nomatch h9) d_S_register_19
def y_S_count : MethodName := ⟨"StagedParsers", "count", "(I)I"⟩
def w_S_count : List Cond := .code y_S_count prog_1_method_13_code 2 (some .int) :: AW_
def rm_S_count : Room := { frames := 3, cells := 0, slots := 0, locals := 64 }
theorem d_S_count_0 : decode prog_1_method_13_code 0 = .ok (.iload_n 1, 1) := by decide +kernel
theorem d_S_count_1 : decode prog_1_method_13_code 1 = .ok (.tableswitch 68 0 3 #[31, 39, 47, 60], 31) := by decide +kernel
theorem d_S_count_32 : decode prog_1_method_13_code 32 = .ok (.aload_n 0, 1) := by decide +kernel
theorem d_S_count_33 : decode prog_1_method_13_code 33 = .ok (.getfield 12, 3) := by decide +kernel
theorem d_S_count_36 : decode prog_1_method_13_code 36 = .ok (.invokevirtual 183, 3) := by decide +kernel
theorem d_S_count_39 : decode prog_1_method_13_code 39 = .ok (.ireturn, 1) := by decide +kernel
theorem d_S_count_40 : decode prog_1_method_13_code 40 = .ok (.aload_n 0, 1) := by decide +kernel
theorem d_S_count_41 : decode prog_1_method_13_code 41 = .ok (.getfield 12, 3) := by decide +kernel
theorem d_S_count_44 : decode prog_1_method_13_code 44 = .ok (.invokevirtual 89, 3) := by decide +kernel
theorem d_S_count_47 : decode prog_1_method_13_code 47 = .ok (.ireturn, 1) := by decide +kernel
theorem d_S_count_48 : decode prog_1_method_13_code 48 = .ok (.aload_n 0, 1) := by decide +kernel
theorem d_S_count_49 : decode prog_1_method_13_code 49 = .ok (.getfield 48, 3) := by decide +kernel
theorem d_S_count_52 : decode prog_1_method_13_code 52 = .ok (.ifCond .eq 7, 3) := by decide +kernel
theorem d_S_count_55 : decode prog_1_method_13_code 55 = .ok (.iconst 1, 1) := by decide +kernel
theorem d_S_count_56 : decode prog_1_method_13_code 56 = .ok (.goto 4, 3) := by decide +kernel
theorem d_S_count_59 : decode prog_1_method_13_code 59 = .ok (.iconst 0, 1) := by decide +kernel
theorem d_S_count_60 : decode prog_1_method_13_code 60 = .ok (.ireturn, 1) := by decide +kernel
theorem d_S_count_61 : decode prog_1_method_13_code 61 = .ok (.aload_n 0, 1) := by decide +kernel
theorem d_S_count_62 : decode prog_1_method_13_code 62 = .ok (.getfield 35, 3) := by decide +kernel
theorem d_S_count_65 : decode prog_1_method_13_code 65 = .ok (.invokevirtual 129, 3) := by decide +kernel
theorem d_S_count_68 : decode prog_1_method_13_code 68 = .ok (.ireturn, 1) := by decide +kernel
theorem d_S_count_69 : decode prog_1_method_13_code 69 = .ok (.iconst (-1), 1) := by decide +kernel
theorem d_S_count_70 : decode prog_1_method_13_code 70 = .ok (.ireturn, 1) := by decide +kernel
section RW
variable {p : Program} {l : Launch} {e : Env} {R : Room} {s : State} {m : MethodId} {args : Array Value} {below : List Frame} {meth : Method} {c : Code} {H : Heap} {locs : List Loc} {cells slots : Nat} {Q : State → Prop}
variable {cc : ByteArray} {pc : Nat} {ls : Array Slot} {rest : List Value} {dC : Nat → ClassId} {dI : Nat → Nat → Nat} {q : Nat → Nat} {cA : Nat → ClassId} {σ : MZ_} {H0 : Heap} {A : Nat → Prop}

theorem cw_S_183 (hts : ∀ w ∈ AW_, w.before args s = true) (hR : rm_G_size.frames + 1 ≤ R.frames ∧ 8 + (1 + 11) + rm_G_size.locals ≤ R.locals) : CallW R s args "StagedParsers" "StagedParsers$Grammar" 183 y_G_size prog_4_method_2_code 1 (some .int) w_G_size rm_G_size 0 0 0 :=
  ⟨callB_of 0 hts (aw_in kw_248) rfl rfl rfl (hts _ kw_2) (hts _ kw_413) ⟨by decide, by decide, by decide +kernel⟩ hR, hts _ kw_246, hts _ kw_247⟩
theorem cw_S_89 (hts : ∀ w ∈ AW_, w.before args s = true) (hR : rm_G_bodies.frames + 1 ≤ R.frames ∧ 8 + (3 + 11) + rm_G_bodies.locals ≤ R.locals) : CallW R s args "StagedParsers" "StagedParsers$Grammar" 89 y_G_bodies prog_4_method_9_code 3 (some .int) w_G_bodies rm_G_bodies 0 0 0 :=
  ⟨callB_of 0 hts (aw_in kw_417) rfl rfl rfl (hts _ kw_2) (hts _ kw_414) ⟨by decide, by decide, by decide +kernel⟩ hR, hts _ kw_415, hts _ kw_416⟩
end RW
def f_S_count (σ : MZ_) (a1 : Int32) : Option (Int32) :=
  if a1 = 0 then (f_G_size σ).bind fun r1 => some r1
  else if a1 = 1 then (f_G_bodies σ).bind fun r2 => some r2
  else if a1 = 2 then if (σ 30 0) = 0 then some 0
    else some 1
  else if a1 = 3 then (f_T_size σ).bind fun r3 => some r3
  else some (-1)
set_option maxHeartbeats 4000000 in
set_option maxRecDepth 100000 in
theorem c_S_count (l : Launch) (dC : Nat → ClassId) (dI : Nat → Nat → Nat) (q : Nat → Nat) (cA : Nat → ClassId) (pt : Nat) (σ : MZ_) (a1 : Int32) (u : Int32) (h : f_S_count σ a1 = some u) : Met l y_S_count w_S_count rm_S_count (va_Pc [.ref (q 0), .int a1] (PX_ dC dI q cA pt σ)) (QcRead u) 0 0 (fun _ => False) := by
  refine Met.ofW (cc := prog_1_method_13_code) (maxL := 2) (ret := (some .int)) (by decide) rfl ?_
  intro p e s m args below meth c s₁ B hml hv
  obtain ⟨rfl, hP, hK, hD, hN, hZ⟩ := hv
  have hx := B.exec
  have hb := B.bytes
  have hr := B.returns
  have hts : ∀ w ∈ AW_, w.before _ s = true := fun w h => atoms_spec (ws := w_S_count) B.pre w (List.mem_cons_of_mem _ h)
  have hown : s.vm.findClass "StagedParsers" = some m.cls := findClass_of_methodNamed B.named
  have hlocks := B.notSynchronized
  have hS : va_S (AX q) s.heap s.heap [] := va_S.rf
  have hl := lv_entry ([.ref (q 0), .int a1]) (n := 2) (Nat.le_of_ble_eq_true rfl)
  rw [lg_entry_eq]
  generalize (lg_sl ([.ref (q 0), .int a1]) ++ List.replicate (2 - (lg_sl ([.ref (q 0), .int a1])).length) Slot.unset).toArray = ls at hl ⊢
  have hl : lv_has ls 2 [(0, .ref (q 0)), (1, .int a1)] := hl
  rw [f_S_count] at h
  refine lv_iload_n hx hb d_S_count_0 rfl (lv_at hl 1 rfl) ?_
  by_cases hc0 : a1 = 0
  · have h := if_t hc0 h
    refine sw_in (tgt := 32) hx hb d_S_count_1 hc0 (by decide) (by decide) rfl rfl ?_
    refine lv_aload_n hx hb d_S_count_32 rfl (lv_at hl 0 rfl) ?_
    refine gf_S_12 hx hb hts hown hK hP d_S_count_33 ?_
    obtain ⟨r1, hcl, h⟩ := bd_some h
    refine cx_read (va_runV (As := []) (rest := []) ⟨hx, hb, hml, hown, hts⟩ (c_G_size l dC dI q cA pt σ _ hcl) (cw_S_183 hts ⟨Nat.le_of_ble_eq_true rfl, Nat.le_of_ble_eq_true rfl⟩) ⟨pxX_B, va_recv hK hP (ci := 1) (q0 := 1) rfl rfl, pxX_U hP hK hD hN hZ hS⟩ rfl rfl hl.1 rfl (lv_room (Nat.le_of_ble_eq_true rfl)) d_S_count_36 ⟨Nat.zero_le _, Nat.zero_le _⟩) ?_
    obtain rfl := Option.some.inj h
    exact W.iret hx hb hr (fun t ht hW => ⟨rfl, ht⟩) (fun _ h9 => nomatch h9) d_S_count_39
  have h := if_f hc0 h
  by_cases hc1 : a1 = 1
  · have h := if_t hc1 h
    refine sw_in (tgt := 40) hx hb d_S_count_1 hc1 (by decide) (by decide) rfl rfl ?_
    refine lv_aload_n hx hb d_S_count_40 rfl (lv_at hl 0 rfl) ?_
    refine gf_S_12 hx hb hts hown hK hP d_S_count_41 ?_
    obtain ⟨r2, hcl, h⟩ := bd_some h
    refine cx_read (va_runV (As := []) (rest := []) ⟨hx, hb, hml, hown, hts⟩ (c_G_bodies l dC dI q cA pt σ _ hcl) (cw_S_89 hts ⟨Nat.le_of_ble_eq_true rfl, Nat.le_of_ble_eq_true rfl⟩) ⟨pxX_B, va_recv hK hP (ci := 1) (q0 := 1) rfl rfl, pxX_U hP hK hD hN hZ hS⟩ rfl rfl hl.1 rfl (lv_room (Nat.le_of_ble_eq_true rfl)) d_S_count_44 ⟨Nat.zero_le _, Nat.zero_le _⟩) ?_
    obtain rfl := Option.some.inj h
    exact W.iret hx hb hr (fun t ht hW => ⟨rfl, ht⟩) (fun _ h9 => nomatch h9) d_S_count_47
  have h := if_f hc1 h
  by_cases hc2 : a1 = 2
  · have h := if_t hc2 h
    refine sw_in (tgt := 48) hx hb d_S_count_1 hc2 (by decide) (by decide) rfl rfl ?_
    refine lv_aload_n hx hb d_S_count_48 rfl (lv_at hl 0 rfl) ?_
    refine gf_S_48 hx hb hts hown hK hP d_S_count_49 ?_
    refine lv_if_eq (tgt := 59) hx hb d_S_count_52 rfl (fun hc => ?_) (fun hc => ?_)
    · have h := if_t hc h
      refine lv_iconst (v := 0) hx hb d_S_count_59 (by decide) ?_
      obtain rfl := Option.some.inj h
      exact W.iret hx hb hr (fun t ht hW => ⟨rfl, ht⟩) (fun _ h9 => nomatch h9) d_S_count_60
    · have h := if_f hc h
      refine lv_iconst (v := 1) hx hb d_S_count_55 (by decide) ?_
      refine lv_goto (tgt := 60) hx hb d_S_count_56 rfl ?_
      obtain rfl := Option.some.inj h
      exact W.iret hx hb hr (fun t ht hW => ⟨rfl, ht⟩) (fun _ h9 => nomatch h9) d_S_count_60
  have h := if_f hc2 h
  by_cases hc3 : a1 = 3
  · have h := if_t hc3 h
    refine sw_in (tgt := 61) hx hb d_S_count_1 hc3 (by decide) (by decide) rfl rfl ?_
    refine lv_aload_n hx hb d_S_count_61 rfl (lv_at hl 0 rfl) ?_
    refine gf_S_35 hx hb hts hown hK hP d_S_count_62 ?_
    obtain ⟨r3, hcl, h⟩ := bd_some h
    refine cx_read (va_runV (As := []) (rest := []) ⟨hx, hb, hml, hown, hts⟩ (c_T_size l dC dI q cA pt σ _ hcl) (cw_S_129 hts ⟨Nat.le_of_ble_eq_true rfl, Nat.le_of_ble_eq_true rfl⟩) ⟨pxX_B, va_recv hK hP (ci := 4) (q0 := 20) rfl rfl, pxX_U hP hK hD hN hZ hS⟩ rfl rfl hl.1 rfl (lv_room (Nat.le_of_ble_eq_true rfl)) d_S_count_65 ⟨Nat.zero_le _, Nat.zero_le _⟩) ?_
    obtain rfl := Option.some.inj h
    exact W.iret hx hb hr (fun t ht hW => ⟨rfl, ht⟩) (fun _ h9 => nomatch h9) d_S_count_68
  have h := if_f hc3 h
  refine lv_tableOut (tgt := 69) hx hb d_S_count_1 (by have q0 := lv_neT hc0 (a := 0) (by decide); have q1 := lv_neT hc1 (a := 1) (by decide); have q2 := lv_neT hc2 (a := 2) (by decide); have q3 := lv_neT hc3 (a := 3) (by decide); omega) rfl ?_
  refine lv_iconst (v := (-1)) hx hb d_S_count_69 (by decide) ?_
  obtain rfl := Option.some.inj h
  exact W.iret hx hb hr (fun t ht hW => ⟨rfl, ht⟩) (fun _ h9 => nomatch h9) d_S_count_70
