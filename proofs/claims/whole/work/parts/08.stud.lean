/-! Study, first -/
def y_Y_marked : MethodName := ⟨"StagedParsers$Study", "marked", "([ZI)Z"⟩
def w_Y_marked : List Cond := .code y_Y_marked prog_6_method_7_code 3 (some .boolean) :: AW_
def rm_Y_marked : Room := { frames := 1, cells := 0, slots := 0, locals := 21 }
theorem d_Y_marked_9_0 : decode prog_6_method_7_code 0 = .ok (.aload_n 0, 1) := by decide +kernel
theorem d_Y_marked_9_1 : decode prog_6_method_7_code 1 = .ok (.getfield 28, 3) := by decide +kernel
theorem d_Y_marked_9_4 : decode prog_6_method_7_code 4 = .ok (.iload_n 2, 1) := by decide +kernel
theorem d_Y_marked_9_5 : decode prog_6_method_7_code 5 = .ok (.invokevirtual 59, 3) := by decide +kernel
theorem d_Y_marked_9_8 : decode prog_6_method_7_code 8 = .ok (.ifCond .eq 13, 3) := by decide +kernel
theorem d_Y_marked_9_11 : decode prog_6_method_7_code 11 = .ok (.aload_n 1, 1) := by decide +kernel
theorem d_Y_marked_9_12 : decode prog_6_method_7_code 12 = .ok (.iload_n 2, 1) := by decide +kernel
theorem d_Y_marked_9_13 : decode prog_6_method_7_code 13 = .ok (.baload, 1) := by decide +kernel
theorem d_Y_marked_9_14 : decode prog_6_method_7_code 14 = .ok (.ifCond .eq 7, 3) := by decide +kernel
theorem d_Y_marked_9_17 : decode prog_6_method_7_code 17 = .ok (.iconst 1, 1) := by decide +kernel
theorem d_Y_marked_9_18 : decode prog_6_method_7_code 18 = .ok (.goto 4, 3) := by decide +kernel
theorem d_Y_marked_9_21 : decode prog_6_method_7_code 21 = .ok (.iconst 0, 1) := by decide +kernel
theorem d_Y_marked_9_22 : decode prog_6_method_7_code 22 = .ok (.ireturn, 1) := by decide +kernel
section RW
variable {p : Program} {l : Launch} {e : Env} {R : Room} {s : State} {m : MethodId} {args : Array Value} {below : List Frame} {meth : Method} {c : Code} {H : Heap} {locs : List Loc} {cells slots : Nat} {Q : State → Prop}
variable {cc : ByteArray} {pc : Nat} {ls : Array Slot} {rest : List Value} {dC : Nat → ClassId} {dI : Nat → Nat → Nat} {q : Nat → Nat} {cA : Nat → ClassId} {σ : MZ_} {H0 : Heap} {A : Nat → Prop}

theorem gf_Y_28 (hx : p.tables.exec = Jvm.exec) (hb : c.code = cc) (hts : ∀ w ∈ AW_, w.before args s = true) (hown : s.vm.findClass "StagedParsers$Study" = some m.cls) (hK : va_K (dC, dI) cls_ (tyX cA) s) (hP : va_P (dC, dI) cls_ (wX q cA σ) H) (hdg : decode cc pc = .ok (.getfield 28, 3)) (kk : W p l e R s m args below meth c H locs cells slots Q (F0 m (pc + 3) ls (.ref (q 1) :: rest))) : W p l e R s m args below meth c H locs cells slots Q (F0 m pc ls (.ref (q 8) :: rest)) :=
  va_get (D := (dC, dI)) (cl := cls_) (ci := 2) (v := .ref (q 1)) (ws := wX q cA σ) (tys := tyX cA) (C := Rz_Y) (T := Tz_Y) (N := 6) hx hb hts uz_Y hown hK hP 8 rfl rfl 0 (by decide) (hts _ kw_64) (fun _ h9 => h9) rfl hdg kk
theorem cw_Y_59 (hts : ∀ w ∈ AW_, w.before args s = true) (hR : rm_G_isNode.frames + 1 ≤ R.frames ∧ 8 + (2 + 11) + rm_G_isNode.locals ≤ R.locals) : CallW R s args "StagedParsers$Study" "StagedParsers$Grammar" 59 y_G_isNode prog_4_method_4_code 2 (some .boolean) w_G_isNode rm_G_isNode 0 0 1 :=
  ⟨callB_of 1 hts (aw_in kw_244) rfl rfl rfl (hts _ kw_2) (hts _ kw_241) ⟨by decide, by decide, by decide +kernel⟩ hR, hts _ kw_242, hts _ kw_243⟩
end RW
def f_Y_marked_9 (σ : MZ_) (a2 : Int32) : Option (Int32) :=
  (f_G_isNode σ a2).bind fun r1 => if r1 = 0 then some 0
  else gd_ a2 80 (if (σ 9 a2.toNatClampNeg) = 0 then some 0
  else some 1)
set_option maxHeartbeats 4000000 in
set_option maxRecDepth 100000 in
theorem c_Y_marked_9 (l : Launch) (dC : Nat → ClassId) (dI : Nat → Nat → Nat) (q : Nat → Nat) (cA : Nat → ClassId) (pt : Nat) (σ : MZ_) (a2 : Int32) (u : Int32) (h : f_Y_marked_9 σ a2 = some u) : Met l y_Y_marked w_Y_marked rm_Y_marked (va_Pc [.ref (q 8), .ref (q 9), .int a2] (PX_ dC dI q cA pt σ)) (QcRead u) 0 0 (fun _ => False) := by
  refine Met.ofW (cc := prog_6_method_7_code) (maxL := 3) (ret := (some .boolean)) (by decide) rfl ?_
  intro p e s m args below meth c s₁ B hml hv
  obtain ⟨rfl, hP, hK, hD, hN, hZ⟩ := hv
  have hx := B.exec
  have hb := B.bytes
  have hr := B.returns
  have hts : ∀ w ∈ AW_, w.before _ s = true := fun w h => atoms_spec (ws := w_Y_marked) B.pre w (List.mem_cons_of_mem _ h)
  have hown : s.vm.findClass "StagedParsers$Study" = some m.cls := findClass_of_methodNamed B.named
  have hlocks := B.notSynchronized
  have hS : va_S (AX q) s.heap s.heap [] := va_S.rf
  have hl := lv_entry ([.ref (q 8), .ref (q 9), .int a2]) (n := 3) (Nat.le_of_ble_eq_true rfl)
  rw [lg_entry_eq]
  generalize (lg_sl ([.ref (q 8), .ref (q 9), .int a2]) ++ List.replicate (3 - (lg_sl ([.ref (q 8), .ref (q 9), .int a2])).length) Slot.unset).toArray = ls at hl ⊢
  have hl : lv_has ls 3 [(0, .ref (q 8)), (1, .ref (q 9)), (2, .int a2)] := hl
  rw [f_Y_marked_9] at h
  refine lv_aload_n hx hb d_Y_marked_9_0 rfl (lv_at hl 0 rfl) ?_
  refine gf_Y_28 hx hb hts hown hK hP d_Y_marked_9_1 ?_
  refine lv_iload_n hx hb d_Y_marked_9_4 rfl (lv_at hl 2 rfl) ?_
  obtain ⟨r1, hcl, h⟩ := bd_some h
  refine cx_read (va_runV (As := [.int a2]) (rest := []) ⟨hx, hb, hml, hown, hts⟩ (c_G_isNode l dC dI q cA pt σ a2 _ hcl) (cw_Y_59 hts ⟨Nat.le_of_ble_eq_true rfl, Nat.le_of_ble_eq_true rfl⟩) ⟨pxX_B, va_recv hK hP (ci := 1) (q0 := 1) rfl rfl, pxX_U hP hK hD hN hZ hS⟩ rfl rfl hl.1 rfl (lv_room (Nat.le_of_ble_eq_true rfl)) d_Y_marked_9_5 ⟨Nat.zero_le _, Nat.zero_le _⟩) ?_
  refine lv_if_eq (tgt := 21) hx hb d_Y_marked_9_8 rfl (fun hc => ?_) (fun hc => ?_)
  · have h := if_t hc h
    refine lv_iconst (v := 0) hx hb d_Y_marked_9_21 (by decide) ?_
    obtain rfl := Option.some.inj h
    exact W.zret hx hb hr rfl (fun t ht hW => ⟨rfl, ht⟩) (fun _ h9 => nomatch h9) d_Y_marked_9_22
  · have h := if_f hc h
    refine lv_aload_n hx hb d_Y_marked_9_11 rfl (lv_at hl 1 rfl) ?_
    refine lv_iload_n hx hb d_Y_marked_9_12 rfl (lv_at hl 2 rfl) ?_
    obtain ⟨hgd, h⟩ := gd_some h
    refine al_X_9 hx hb hK hP hgd d_Y_marked_9_13 ?_
    refine lv_if_eq (tgt := 21) hx hb d_Y_marked_9_14 rfl (fun hc => ?_) (fun hc => ?_)
    · have h := if_t hc h
      refine lv_iconst (v := 0) hx hb d_Y_marked_9_21 (by decide) ?_
      obtain rfl := Option.some.inj h
      exact W.zret hx hb hr rfl (fun t ht hW => ⟨rfl, ht⟩) (fun _ h9 => nomatch h9) d_Y_marked_9_22
    · have h := if_f hc h
      refine lv_iconst (v := 1) hx hb d_Y_marked_9_17 (by decide) ?_
      refine lv_goto (tgt := 22) hx hb d_Y_marked_9_18 rfl ?_
      obtain rfl := Option.some.inj h
      exact W.zret hx hb hr rfl (fun t ht hW => ⟨rfl, ht⟩) (fun _ h9 => nomatch h9) d_Y_marked_9_22
theorem d_Y_marked_10_0 : decode prog_6_method_7_code 0 = .ok (.aload_n 0, 1) := by decide +kernel
theorem d_Y_marked_10_1 : decode prog_6_method_7_code 1 = .ok (.getfield 28, 3) := by decide +kernel
theorem d_Y_marked_10_4 : decode prog_6_method_7_code 4 = .ok (.iload_n 2, 1) := by decide +kernel
theorem d_Y_marked_10_5 : decode prog_6_method_7_code 5 = .ok (.invokevirtual 59, 3) := by decide +kernel
theorem d_Y_marked_10_8 : decode prog_6_method_7_code 8 = .ok (.ifCond .eq 13, 3) := by decide +kernel
theorem d_Y_marked_10_11 : decode prog_6_method_7_code 11 = .ok (.aload_n 1, 1) := by decide +kernel
theorem d_Y_marked_10_12 : decode prog_6_method_7_code 12 = .ok (.iload_n 2, 1) := by decide +kernel
theorem d_Y_marked_10_13 : decode prog_6_method_7_code 13 = .ok (.baload, 1) := by decide +kernel
theorem d_Y_marked_10_14 : decode prog_6_method_7_code 14 = .ok (.ifCond .eq 7, 3) := by decide +kernel
theorem d_Y_marked_10_17 : decode prog_6_method_7_code 17 = .ok (.iconst 1, 1) := by decide +kernel
theorem d_Y_marked_10_18 : decode prog_6_method_7_code 18 = .ok (.goto 4, 3) := by decide +kernel
theorem d_Y_marked_10_21 : decode prog_6_method_7_code 21 = .ok (.iconst 0, 1) := by decide +kernel
theorem d_Y_marked_10_22 : decode prog_6_method_7_code 22 = .ok (.ireturn, 1) := by decide +kernel
def f_Y_marked_10 (σ : MZ_) (a2 : Int32) : Option (Int32) :=
  (f_G_isNode σ a2).bind fun r1 => if r1 = 0 then some 0
  else gd_ a2 80 (if (σ 10 a2.toNatClampNeg) = 0 then some 0
  else some 1)
set_option maxHeartbeats 4000000 in
set_option maxRecDepth 100000 in
theorem c_Y_marked_10 (l : Launch) (dC : Nat → ClassId) (dI : Nat → Nat → Nat) (q : Nat → Nat) (cA : Nat → ClassId) (pt : Nat) (σ : MZ_) (a2 : Int32) (u : Int32) (h : f_Y_marked_10 σ a2 = some u) : Met l y_Y_marked w_Y_marked rm_Y_marked (va_Pc [.ref (q 8), .ref (q 10), .int a2] (PX_ dC dI q cA pt σ)) (QcRead u) 0 0 (fun _ => False) := by
  refine Met.ofW (cc := prog_6_method_7_code) (maxL := 3) (ret := (some .boolean)) (by decide) rfl ?_
  intro p e s m args below meth c s₁ B hml hv
  obtain ⟨rfl, hP, hK, hD, hN, hZ⟩ := hv
  have hx := B.exec
  have hb := B.bytes
  have hr := B.returns
  have hts : ∀ w ∈ AW_, w.before _ s = true := fun w h => atoms_spec (ws := w_Y_marked) B.pre w (List.mem_cons_of_mem _ h)
  have hown : s.vm.findClass "StagedParsers$Study" = some m.cls := findClass_of_methodNamed B.named
  have hlocks := B.notSynchronized
  have hS : va_S (AX q) s.heap s.heap [] := va_S.rf
  have hl := lv_entry ([.ref (q 8), .ref (q 10), .int a2]) (n := 3) (Nat.le_of_ble_eq_true rfl)
  rw [lg_entry_eq]
  generalize (lg_sl ([.ref (q 8), .ref (q 10), .int a2]) ++ List.replicate (3 - (lg_sl ([.ref (q 8), .ref (q 10), .int a2])).length) Slot.unset).toArray = ls at hl ⊢
  have hl : lv_has ls 3 [(0, .ref (q 8)), (1, .ref (q 10)), (2, .int a2)] := hl
  rw [f_Y_marked_10] at h
  refine lv_aload_n hx hb d_Y_marked_10_0 rfl (lv_at hl 0 rfl) ?_
  refine gf_Y_28 hx hb hts hown hK hP d_Y_marked_10_1 ?_
  refine lv_iload_n hx hb d_Y_marked_10_4 rfl (lv_at hl 2 rfl) ?_
  obtain ⟨r1, hcl, h⟩ := bd_some h
  refine cx_read (va_runV (As := [.int a2]) (rest := []) ⟨hx, hb, hml, hown, hts⟩ (c_G_isNode l dC dI q cA pt σ a2 _ hcl) (cw_Y_59 hts ⟨Nat.le_of_ble_eq_true rfl, Nat.le_of_ble_eq_true rfl⟩) ⟨pxX_B, va_recv hK hP (ci := 1) (q0 := 1) rfl rfl, pxX_U hP hK hD hN hZ hS⟩ rfl rfl hl.1 rfl (lv_room (Nat.le_of_ble_eq_true rfl)) d_Y_marked_10_5 ⟨Nat.zero_le _, Nat.zero_le _⟩) ?_
  refine lv_if_eq (tgt := 21) hx hb d_Y_marked_10_8 rfl (fun hc => ?_) (fun hc => ?_)
  · have h := if_t hc h
    refine lv_iconst (v := 0) hx hb d_Y_marked_10_21 (by decide) ?_
    obtain rfl := Option.some.inj h
    exact W.zret hx hb hr rfl (fun t ht hW => ⟨rfl, ht⟩) (fun _ h9 => nomatch h9) d_Y_marked_10_22
  · have h := if_f hc h
    refine lv_aload_n hx hb d_Y_marked_10_11 rfl (lv_at hl 1 rfl) ?_
    refine lv_iload_n hx hb d_Y_marked_10_12 rfl (lv_at hl 2 rfl) ?_
    obtain ⟨hgd, h⟩ := gd_some h
    refine al_X_10 hx hb hK hP hgd d_Y_marked_10_13 ?_
    refine lv_if_eq (tgt := 21) hx hb d_Y_marked_10_14 rfl (fun hc => ?_) (fun hc => ?_)
    · have h := if_t hc h
      refine lv_iconst (v := 0) hx hb d_Y_marked_10_21 (by decide) ?_
      obtain rfl := Option.some.inj h
      exact W.zret hx hb hr rfl (fun t ht hW => ⟨rfl, ht⟩) (fun _ h9 => nomatch h9) d_Y_marked_10_22
    · have h := if_f hc h
      refine lv_iconst (v := 1) hx hb d_Y_marked_10_17 (by decide) ?_
      refine lv_goto (tgt := 22) hx hb d_Y_marked_10_18 rfl ?_
      obtain rfl := Option.some.inj h
      exact W.zret hx hb hr rfl (fun t ht hW => ⟨rfl, ht⟩) (fun _ h9 => nomatch h9) d_Y_marked_10_22
theorem d_Y_marked_11_0 : decode prog_6_method_7_code 0 = .ok (.aload_n 0, 1) := by decide +kernel
theorem d_Y_marked_11_1 : decode prog_6_method_7_code 1 = .ok (.getfield 28, 3) := by decide +kernel
theorem d_Y_marked_11_4 : decode prog_6_method_7_code 4 = .ok (.iload_n 2, 1) := by decide +kernel
theorem d_Y_marked_11_5 : decode prog_6_method_7_code 5 = .ok (.invokevirtual 59, 3) := by decide +kernel
theorem d_Y_marked_11_8 : decode prog_6_method_7_code 8 = .ok (.ifCond .eq 13, 3) := by decide +kernel
theorem d_Y_marked_11_11 : decode prog_6_method_7_code 11 = .ok (.aload_n 1, 1) := by decide +kernel
theorem d_Y_marked_11_12 : decode prog_6_method_7_code 12 = .ok (.iload_n 2, 1) := by decide +kernel
theorem d_Y_marked_11_13 : decode prog_6_method_7_code 13 = .ok (.baload, 1) := by decide +kernel
theorem d_Y_marked_11_14 : decode prog_6_method_7_code 14 = .ok (.ifCond .eq 7, 3) := by decide +kernel
theorem d_Y_marked_11_17 : decode prog_6_method_7_code 17 = .ok (.iconst 1, 1) := by decide +kernel
theorem d_Y_marked_11_18 : decode prog_6_method_7_code 18 = .ok (.goto 4, 3) := by decide +kernel
theorem d_Y_marked_11_21 : decode prog_6_method_7_code 21 = .ok (.iconst 0, 1) := by decide +kernel
theorem d_Y_marked_11_22 : decode prog_6_method_7_code 22 = .ok (.ireturn, 1) := by decide +kernel
def f_Y_marked_11 (σ : MZ_) (a2 : Int32) : Option (Int32) :=
  (f_G_isNode σ a2).bind fun r1 => if r1 = 0 then some 0
  else gd_ a2 80 (if (σ 11 a2.toNatClampNeg) = 0 then some 0
  else some 1)
set_option maxHeartbeats 4000000 in
set_option maxRecDepth 100000 in
theorem c_Y_marked_11 (l : Launch) (dC : Nat → ClassId) (dI : Nat → Nat → Nat) (q : Nat → Nat) (cA : Nat → ClassId) (pt : Nat) (σ : MZ_) (a2 : Int32) (u : Int32) (h : f_Y_marked_11 σ a2 = some u) : Met l y_Y_marked w_Y_marked rm_Y_marked (va_Pc [.ref (q 8), .ref (q 11), .int a2] (PX_ dC dI q cA pt σ)) (QcRead u) 0 0 (fun _ => False) := by
  refine Met.ofW (cc := prog_6_method_7_code) (maxL := 3) (ret := (some .boolean)) (by decide) rfl ?_
  intro p e s m args below meth c s₁ B hml hv
  obtain ⟨rfl, hP, hK, hD, hN, hZ⟩ := hv
  have hx := B.exec
  have hb := B.bytes
  have hr := B.returns
  have hts : ∀ w ∈ AW_, w.before _ s = true := fun w h => atoms_spec (ws := w_Y_marked) B.pre w (List.mem_cons_of_mem _ h)
  have hown : s.vm.findClass "StagedParsers$Study" = some m.cls := findClass_of_methodNamed B.named
  have hlocks := B.notSynchronized
  have hS : va_S (AX q) s.heap s.heap [] := va_S.rf
  have hl := lv_entry ([.ref (q 8), .ref (q 11), .int a2]) (n := 3) (Nat.le_of_ble_eq_true rfl)
  rw [lg_entry_eq]
  generalize (lg_sl ([.ref (q 8), .ref (q 11), .int a2]) ++ List.replicate (3 - (lg_sl ([.ref (q 8), .ref (q 11), .int a2])).length) Slot.unset).toArray = ls at hl ⊢
  have hl : lv_has ls 3 [(0, .ref (q 8)), (1, .ref (q 11)), (2, .int a2)] := hl
  rw [f_Y_marked_11] at h
  refine lv_aload_n hx hb d_Y_marked_11_0 rfl (lv_at hl 0 rfl) ?_
  refine gf_Y_28 hx hb hts hown hK hP d_Y_marked_11_1 ?_
  refine lv_iload_n hx hb d_Y_marked_11_4 rfl (lv_at hl 2 rfl) ?_
  obtain ⟨r1, hcl, h⟩ := bd_some h
  refine cx_read (va_runV (As := [.int a2]) (rest := []) ⟨hx, hb, hml, hown, hts⟩ (c_G_isNode l dC dI q cA pt σ a2 _ hcl) (cw_Y_59 hts ⟨Nat.le_of_ble_eq_true rfl, Nat.le_of_ble_eq_true rfl⟩) ⟨pxX_B, va_recv hK hP (ci := 1) (q0 := 1) rfl rfl, pxX_U hP hK hD hN hZ hS⟩ rfl rfl hl.1 rfl (lv_room (Nat.le_of_ble_eq_true rfl)) d_Y_marked_11_5 ⟨Nat.zero_le _, Nat.zero_le _⟩) ?_
  refine lv_if_eq (tgt := 21) hx hb d_Y_marked_11_8 rfl (fun hc => ?_) (fun hc => ?_)
  · have h := if_t hc h
    refine lv_iconst (v := 0) hx hb d_Y_marked_11_21 (by decide) ?_
    obtain rfl := Option.some.inj h
    exact W.zret hx hb hr rfl (fun t ht hW => ⟨rfl, ht⟩) (fun _ h9 => nomatch h9) d_Y_marked_11_22
  · have h := if_f hc h
    refine lv_aload_n hx hb d_Y_marked_11_11 rfl (lv_at hl 1 rfl) ?_
    refine lv_iload_n hx hb d_Y_marked_11_12 rfl (lv_at hl 2 rfl) ?_
    obtain ⟨hgd, h⟩ := gd_some h
    refine al_X_11 hx hb hK hP hgd d_Y_marked_11_13 ?_
    refine lv_if_eq (tgt := 21) hx hb d_Y_marked_11_14 rfl (fun hc => ?_) (fun hc => ?_)
    · have h := if_t hc h
      refine lv_iconst (v := 0) hx hb d_Y_marked_11_21 (by decide) ?_
      obtain rfl := Option.some.inj h
      exact W.zret hx hb hr rfl (fun t ht hW => ⟨rfl, ht⟩) (fun _ h9 => nomatch h9) d_Y_marked_11_22
    · have h := if_f hc h
      refine lv_iconst (v := 1) hx hb d_Y_marked_11_17 (by decide) ?_
      refine lv_goto (tgt := 22) hx hb d_Y_marked_11_18 rfl ?_
      obtain rfl := Option.some.inj h
      exact W.zret hx hb hr rfl (fun t ht hW => ⟨rfl, ht⟩) (fun _ h9 => nomatch h9) d_Y_marked_11_22
def y_Y_unmark : MethodName := ⟨"StagedParsers$Study", "unmark", "([Z)V"⟩
def w_Y_unmark : List Cond := .code y_Y_unmark prog_6_method_8_code 3 none :: AW_
def rm_Y_unmark : Room := { frames := 0, cells := 0, slots := 0, locals := 0 }
theorem d_Y_unmark_9_0 : decode prog_6_method_8_code 0 = .ok (.iconst 0, 1) := by decide +kernel
theorem d_Y_unmark_9_1 : decode prog_6_method_8_code 1 = .ok (.istore_n 2, 1) := by decide +kernel
theorem d_Y_unmark_9_2 : decode prog_6_method_8_code 2 = .ok (.iload_n 2, 1) := by decide +kernel
theorem d_Y_unmark_9_3 : decode prog_6_method_8_code 3 = .ok (.bipush 80, 2) := by decide +kernel
theorem d_Y_unmark_9_5 : decode prog_6_method_8_code 5 = .ok (.if_icmp .ge 13, 3) := by decide +kernel
theorem d_Y_unmark_9_8 : decode prog_6_method_8_code 8 = .ok (.aload_n 1, 1) := by decide +kernel
theorem d_Y_unmark_9_9 : decode prog_6_method_8_code 9 = .ok (.iload_n 2, 1) := by decide +kernel
theorem d_Y_unmark_9_10 : decode prog_6_method_8_code 10 = .ok (.iconst 0, 1) := by decide +kernel
theorem d_Y_unmark_9_11 : decode prog_6_method_8_code 11 = .ok (.bastore, 1) := by decide +kernel
theorem d_Y_unmark_9_12 : decode prog_6_method_8_code 12 = .ok (.iinc 2 1, 3) := by decide +kernel
theorem d_Y_unmark_9_15 : decode prog_6_method_8_code 15 = .ok (.goto (-13), 3) := by decide +kernel
theorem d_Y_unmark_9_18 : decode prog_6_method_8_code 18 = .ok (.return_, 1) := by decide +kernel
def f_Y_unmark_9_L2 : Nat → MZ_ → Int32 → Option (MZ_)
  | 0, _, _ => none
  | N + 1, σ, x2 => if 80 ≤ x2 then some σ
    else gd_ x2 80 (st_ (va_up σ 9 (upd (σ 9) x2.toNatClampNeg (vp_nar .boolean 0))) fun σ1 => f_Y_unmark_9_L2 N σ1 (x2 + 1))
def f_Y_unmark_9 (σ : MZ_) : Option (MZ_) :=
  f_Y_unmark_9_L2 100 σ 0
set_option maxHeartbeats 4000000 in
set_option maxRecDepth 100000 in
theorem c_Y_unmark_9 (l : Launch) (dC : Nat → ClassId) (dI : Nat → Nat → Nat) (q : Nat → Nat) (cA : Nat → ClassId) (pt : Nat) (σ : MZ_) (u : MZ_) (h : f_Y_unmark_9 σ = some u) : Met l y_Y_unmark w_Y_unmark rm_Y_unmark (va_Pc [.ref (q 8), .ref (q 9)] (PX_ dC dI q cA pt σ)) (QW_ none (fun H => va_P (dC, dI) cls_ (wX q cA u) H) (AX q)) 0 0 (AX q) := by
  refine Met.ofW (cc := prog_6_method_8_code) (maxL := 3) (ret := none) (by decide) rfl ?_
  intro p e s m args below meth c s₁ B hml hv
  obtain ⟨rfl, hP, hK, hD, hN, hZ⟩ := hv
  have hx := B.exec
  have hb := B.bytes
  have hr := B.returns
  have hts : ∀ w ∈ AW_, w.before _ s = true := fun w h => atoms_spec (ws := w_Y_unmark) B.pre w (List.mem_cons_of_mem _ h)
  have hown : s.vm.findClass "StagedParsers$Study" = some m.cls := findClass_of_methodNamed B.named
  have hlocks := B.notSynchronized
  have hS : va_S (AX q) s.heap s.heap [] := va_S.rf
  have hl := lv_entry ([.ref (q 8), .ref (q 9)]) (n := 3) (Nat.le_of_ble_eq_true rfl)
  rw [lg_entry_eq]
  generalize (lg_sl ([.ref (q 8), .ref (q 9)]) ++ List.replicate (3 - (lg_sl ([.ref (q 8), .ref (q 9)])).length) Slot.unset).toArray = ls at hl ⊢
  have hl : lv_has ls 3 [(0, .ref (q 8)), (1, .ref (q 9))] := hl
  have L2 : ∀ (N2 : Nat) (σ : MZ_) (x2 : Int32), f_Y_unmark_9_L2 N2 σ x2 = some u → ∀ (H : Heap) (locs : List Loc) (ls : Array Slot), va_P (dC, dI) cls_ (wX q cA σ) H → va_S (AX q) s.heap H locs → lv_has ls 3 [(0, .ref (q 8)), (1, .ref (q 9)), (2, .int x2)] → W p l e (headSpec w_Y_unmark rm_Y_unmark).room s m ([.ref (q 8), .ref (q 9)] : List Value).toArray below meth c H locs 0 0 (MQ below (QW_ none (fun H => va_P (dC, dI) cls_ (wX q cA u) H) (AX q)) ([.ref (q 8), .ref (q 9)] : List Value).toArray s 0 0 (AX q)) (F0 m 2 ls []) := by
    intro N2
    induction N2 with
    | zero => intro σ x2 h; cases h
    | succ N2 ih2 =>
      intro σ x2 h H locs ls hP hS hl
      have hD : va_D (AX q) (wX q cA σ) := dd_re (wX_f _ _ _ _) hD
      rw [f_Y_unmark_9_L2] at h
      refine lv_iload_n hx hb d_Y_unmark_9_2 rfl (lv_at hl 2 rfl) ?_
      refine lv_bipush (v := 80) hx hb d_Y_unmark_9_3 (by decide) ?_
      refine lv_icmp_ge (tgt := 18) hx hb d_Y_unmark_9_5 rfl (fun hc => ?_) (fun hc => ?_)
      · have h := if_t hc h
        obtain rfl := Option.some.inj h
        exact W.vret hx hb hr (fun t ht hW => ⟨rfl, by rw [ht]; exact hP, hS.F ht⟩) hS.2.2 d_Y_unmark_9_18
      · have h := if_f hc h
        refine lv_aload_n hx hb d_Y_unmark_9_8 rfl (lv_at hl 1 rfl) ?_
        refine lv_iload_n hx hb d_Y_unmark_9_9 rfl (lv_at hl 2 rfl) ?_
        refine lv_iconst (v := 0) hx hb d_Y_unmark_9_10 (by decide) ?_
        obtain ⟨hgd, h⟩ := gd_some h
        refine as_X_9 hx hb hK hP hD hS hgd d_Y_unmark_9_11 (fun H locs hP hS => ?_)
        obtain ⟨σ1, eσ1, h⟩ := st_some h
        rw [← eσ1] at hP
        have hD : va_D (AX q) (wX q cA σ1) := dd_re (wX_f _ _ _ _) hD
        refine lv_iinc (v := x2 + 1) hx hb d_Y_unmark_9_12 hl (k := 2) rfl rfl (by decide) rfl (fun ls hl => ?_)
        have hl : lv_has ls 3 [(2, .int (x2 + 1)), (0, .ref (q 8)), (1, .ref (q 9))] := hl
        refine lv_goto (tgt := 2) hx hb d_Y_unmark_9_15 rfl ?_
        exact ih2 _ _ h _ _ _ hP hS (lv_sub hl [1, 2, 0] rfl)
  rw [f_Y_unmark_9] at h
  refine lv_iconst (v := 0) hx hb d_Y_unmark_9_0 (by decide) ?_
  refine lv_istore_n hx hb d_Y_unmark_9_1 rfl hl (by decide) rfl (fun ls hl => ?_)
  have hl : lv_has ls 3 [(2, .int 0), (0, .ref (q 8)), (1, .ref (q 9))] := hl
  exact L2 _ _ _ h _ _ _ hP hS (lv_sub hl [1, 2, 0] rfl)
theorem d_Y_unmark_10_0 : decode prog_6_method_8_code 0 = .ok (.iconst 0, 1) := by decide +kernel
theorem d_Y_unmark_10_1 : decode prog_6_method_8_code 1 = .ok (.istore_n 2, 1) := by decide +kernel
theorem d_Y_unmark_10_2 : decode prog_6_method_8_code 2 = .ok (.iload_n 2, 1) := by decide +kernel
theorem d_Y_unmark_10_3 : decode prog_6_method_8_code 3 = .ok (.bipush 80, 2) := by decide +kernel
theorem d_Y_unmark_10_5 : decode prog_6_method_8_code 5 = .ok (.if_icmp .ge 13, 3) := by decide +kernel
theorem d_Y_unmark_10_8 : decode prog_6_method_8_code 8 = .ok (.aload_n 1, 1) := by decide +kernel
theorem d_Y_unmark_10_9 : decode prog_6_method_8_code 9 = .ok (.iload_n 2, 1) := by decide +kernel
theorem d_Y_unmark_10_10 : decode prog_6_method_8_code 10 = .ok (.iconst 0, 1) := by decide +kernel
theorem d_Y_unmark_10_11 : decode prog_6_method_8_code 11 = .ok (.bastore, 1) := by decide +kernel
theorem d_Y_unmark_10_12 : decode prog_6_method_8_code 12 = .ok (.iinc 2 1, 3) := by decide +kernel
theorem d_Y_unmark_10_15 : decode prog_6_method_8_code 15 = .ok (.goto (-13), 3) := by decide +kernel
theorem d_Y_unmark_10_18 : decode prog_6_method_8_code 18 = .ok (.return_, 1) := by decide +kernel
def f_Y_unmark_10_L2 : Nat → MZ_ → Int32 → Option (MZ_)
  | 0, _, _ => none
  | N + 1, σ, x2 => if 80 ≤ x2 then some σ
    else gd_ x2 80 (st_ (va_up σ 10 (upd (σ 10) x2.toNatClampNeg (vp_nar .boolean 0))) fun σ1 => f_Y_unmark_10_L2 N σ1 (x2 + 1))
def f_Y_unmark_10 (σ : MZ_) : Option (MZ_) :=
  f_Y_unmark_10_L2 100 σ 0
set_option maxHeartbeats 4000000 in
set_option maxRecDepth 100000 in
theorem c_Y_unmark_10 (l : Launch) (dC : Nat → ClassId) (dI : Nat → Nat → Nat) (q : Nat → Nat) (cA : Nat → ClassId) (pt : Nat) (σ : MZ_) (u : MZ_) (h : f_Y_unmark_10 σ = some u) : Met l y_Y_unmark w_Y_unmark rm_Y_unmark (va_Pc [.ref (q 8), .ref (q 10)] (PX_ dC dI q cA pt σ)) (QW_ none (fun H => va_P (dC, dI) cls_ (wX q cA u) H) (AX q)) 0 0 (AX q) := by
  refine Met.ofW (cc := prog_6_method_8_code) (maxL := 3) (ret := none) (by decide) rfl ?_
  intro p e s m args below meth c s₁ B hml hv
  obtain ⟨rfl, hP, hK, hD, hN, hZ⟩ := hv
  have hx := B.exec
  have hb := B.bytes
  have hr := B.returns
  have hts : ∀ w ∈ AW_, w.before _ s = true := fun w h => atoms_spec (ws := w_Y_unmark) B.pre w (List.mem_cons_of_mem _ h)
  have hown : s.vm.findClass "StagedParsers$Study" = some m.cls := findClass_of_methodNamed B.named
  have hlocks := B.notSynchronized
  have hS : va_S (AX q) s.heap s.heap [] := va_S.rf
  have hl := lv_entry ([.ref (q 8), .ref (q 10)]) (n := 3) (Nat.le_of_ble_eq_true rfl)
  rw [lg_entry_eq]
  generalize (lg_sl ([.ref (q 8), .ref (q 10)]) ++ List.replicate (3 - (lg_sl ([.ref (q 8), .ref (q 10)])).length) Slot.unset).toArray = ls at hl ⊢
  have hl : lv_has ls 3 [(0, .ref (q 8)), (1, .ref (q 10))] := hl
  have L2 : ∀ (N2 : Nat) (σ : MZ_) (x2 : Int32), f_Y_unmark_10_L2 N2 σ x2 = some u → ∀ (H : Heap) (locs : List Loc) (ls : Array Slot), va_P (dC, dI) cls_ (wX q cA σ) H → va_S (AX q) s.heap H locs → lv_has ls 3 [(0, .ref (q 8)), (1, .ref (q 10)), (2, .int x2)] → W p l e (headSpec w_Y_unmark rm_Y_unmark).room s m ([.ref (q 8), .ref (q 10)] : List Value).toArray below meth c H locs 0 0 (MQ below (QW_ none (fun H => va_P (dC, dI) cls_ (wX q cA u) H) (AX q)) ([.ref (q 8), .ref (q 10)] : List Value).toArray s 0 0 (AX q)) (F0 m 2 ls []) := by
    intro N2
    induction N2 with
    | zero => intro σ x2 h; cases h
    | succ N2 ih2 =>
      intro σ x2 h H locs ls hP hS hl
      have hD : va_D (AX q) (wX q cA σ) := dd_re (wX_f _ _ _ _) hD
      rw [f_Y_unmark_10_L2] at h
      refine lv_iload_n hx hb d_Y_unmark_10_2 rfl (lv_at hl 2 rfl) ?_
      refine lv_bipush (v := 80) hx hb d_Y_unmark_10_3 (by decide) ?_
      refine lv_icmp_ge (tgt := 18) hx hb d_Y_unmark_10_5 rfl (fun hc => ?_) (fun hc => ?_)
      · have h := if_t hc h
        obtain rfl := Option.some.inj h
        exact W.vret hx hb hr (fun t ht hW => ⟨rfl, by rw [ht]; exact hP, hS.F ht⟩) hS.2.2 d_Y_unmark_10_18
      · have h := if_f hc h
        refine lv_aload_n hx hb d_Y_unmark_10_8 rfl (lv_at hl 1 rfl) ?_
        refine lv_iload_n hx hb d_Y_unmark_10_9 rfl (lv_at hl 2 rfl) ?_
        refine lv_iconst (v := 0) hx hb d_Y_unmark_10_10 (by decide) ?_
        obtain ⟨hgd, h⟩ := gd_some h
        refine as_X_10 hx hb hK hP hD hS hgd d_Y_unmark_10_11 (fun H locs hP hS => ?_)
        obtain ⟨σ1, eσ1, h⟩ := st_some h
        rw [← eσ1] at hP
        have hD : va_D (AX q) (wX q cA σ1) := dd_re (wX_f _ _ _ _) hD
        refine lv_iinc (v := x2 + 1) hx hb d_Y_unmark_10_12 hl (k := 2) rfl rfl (by decide) rfl (fun ls hl => ?_)
        have hl : lv_has ls 3 [(2, .int (x2 + 1)), (0, .ref (q 8)), (1, .ref (q 10))] := hl
        refine lv_goto (tgt := 2) hx hb d_Y_unmark_10_15 rfl ?_
        exact ih2 _ _ h _ _ _ hP hS (lv_sub hl [1, 2, 0] rfl)
  rw [f_Y_unmark_10] at h
  refine lv_iconst (v := 0) hx hb d_Y_unmark_10_0 (by decide) ?_
  refine lv_istore_n hx hb d_Y_unmark_10_1 rfl hl (by decide) rfl (fun ls hl => ?_)
  have hl : lv_has ls 3 [(2, .int 0), (0, .ref (q 8)), (1, .ref (q 10))] := hl
  exact L2 _ _ _ h _ _ _ hP hS (lv_sub hl [1, 2, 0] rfl)
theorem d_Y_unmark_11_0 : decode prog_6_method_8_code 0 = .ok (.iconst 0, 1) := by decide +kernel
theorem d_Y_unmark_11_1 : decode prog_6_method_8_code 1 = .ok (.istore_n 2, 1) := by decide +kernel
theorem d_Y_unmark_11_2 : decode prog_6_method_8_code 2 = .ok (.iload_n 2, 1) := by decide +kernel
theorem d_Y_unmark_11_3 : decode prog_6_method_8_code 3 = .ok (.bipush 80, 2) := by decide +kernel
theorem d_Y_unmark_11_5 : decode prog_6_method_8_code 5 = .ok (.if_icmp .ge 13, 3) := by decide +kernel
theorem d_Y_unmark_11_8 : decode prog_6_method_8_code 8 = .ok (.aload_n 1, 1) := by decide +kernel
theorem d_Y_unmark_11_9 : decode prog_6_method_8_code 9 = .ok (.iload_n 2, 1) := by decide +kernel
theorem d_Y_unmark_11_10 : decode prog_6_method_8_code 10 = .ok (.iconst 0, 1) := by decide +kernel
theorem d_Y_unmark_11_11 : decode prog_6_method_8_code 11 = .ok (.bastore, 1) := by decide +kernel
theorem d_Y_unmark_11_12 : decode prog_6_method_8_code 12 = .ok (.iinc 2 1, 3) := by decide +kernel
theorem d_Y_unmark_11_15 : decode prog_6_method_8_code 15 = .ok (.goto (-13), 3) := by decide +kernel
theorem d_Y_unmark_11_18 : decode prog_6_method_8_code 18 = .ok (.return_, 1) := by decide +kernel
def f_Y_unmark_11_L2 : Nat → MZ_ → Int32 → Option (MZ_)
  | 0, _, _ => none
  | N + 1, σ, x2 => if 80 ≤ x2 then some σ
    else gd_ x2 80 (st_ (va_up σ 11 (upd (σ 11) x2.toNatClampNeg (vp_nar .boolean 0))) fun σ1 => f_Y_unmark_11_L2 N σ1 (x2 + 1))
def f_Y_unmark_11 (σ : MZ_) : Option (MZ_) :=
  f_Y_unmark_11_L2 100 σ 0
set_option maxHeartbeats 4000000 in
set_option maxRecDepth 100000 in
theorem c_Y_unmark_11 (l : Launch) (dC : Nat → ClassId) (dI : Nat → Nat → Nat) (q : Nat → Nat) (cA : Nat → ClassId) (pt : Nat) (σ : MZ_) (u : MZ_) (h : f_Y_unmark_11 σ = some u) : Met l y_Y_unmark w_Y_unmark rm_Y_unmark (va_Pc [.ref (q 8), .ref (q 11)] (PX_ dC dI q cA pt σ)) (QW_ none (fun H => va_P (dC, dI) cls_ (wX q cA u) H) (AX q)) 0 0 (AX q) := by
  refine Met.ofW (cc := prog_6_method_8_code) (maxL := 3) (ret := none) (by decide) rfl ?_
  intro p e s m args below meth c s₁ B hml hv
  obtain ⟨rfl, hP, hK, hD, hN, hZ⟩ := hv
  have hx := B.exec
  have hb := B.bytes
  have hr := B.returns
  have hts : ∀ w ∈ AW_, w.before _ s = true := fun w h => atoms_spec (ws := w_Y_unmark) B.pre w (List.mem_cons_of_mem _ h)
  have hown : s.vm.findClass "StagedParsers$Study" = some m.cls := findClass_of_methodNamed B.named
  have hlocks := B.notSynchronized
  have hS : va_S (AX q) s.heap s.heap [] := va_S.rf
  have hl := lv_entry ([.ref (q 8), .ref (q 11)]) (n := 3) (Nat.le_of_ble_eq_true rfl)
  rw [lg_entry_eq]
  generalize (lg_sl ([.ref (q 8), .ref (q 11)]) ++ List.replicate (3 - (lg_sl ([.ref (q 8), .ref (q 11)])).length) Slot.unset).toArray = ls at hl ⊢
  have hl : lv_has ls 3 [(0, .ref (q 8)), (1, .ref (q 11))] := hl
  have L2 : ∀ (N2 : Nat) (σ : MZ_) (x2 : Int32), f_Y_unmark_11_L2 N2 σ x2 = some u → ∀ (H : Heap) (locs : List Loc) (ls : Array Slot), va_P (dC, dI) cls_ (wX q cA σ) H → va_S (AX q) s.heap H locs → lv_has ls 3 [(0, .ref (q 8)), (1, .ref (q 11)), (2, .int x2)] → W p l e (headSpec w_Y_unmark rm_Y_unmark).room s m ([.ref (q 8), .ref (q 11)] : List Value).toArray below meth c H locs 0 0 (MQ below (QW_ none (fun H => va_P (dC, dI) cls_ (wX q cA u) H) (AX q)) ([.ref (q 8), .ref (q 11)] : List Value).toArray s 0 0 (AX q)) (F0 m 2 ls []) := by
    intro N2
    induction N2 with
    | zero => intro σ x2 h; cases h
    | succ N2 ih2 =>
      intro σ x2 h H locs ls hP hS hl
      have hD : va_D (AX q) (wX q cA σ) := dd_re (wX_f _ _ _ _) hD
      rw [f_Y_unmark_11_L2] at h
      refine lv_iload_n hx hb d_Y_unmark_11_2 rfl (lv_at hl 2 rfl) ?_
      refine lv_bipush (v := 80) hx hb d_Y_unmark_11_3 (by decide) ?_
      refine lv_icmp_ge (tgt := 18) hx hb d_Y_unmark_11_5 rfl (fun hc => ?_) (fun hc => ?_)
      · have h := if_t hc h
        obtain rfl := Option.some.inj h
        exact W.vret hx hb hr (fun t ht hW => ⟨rfl, by rw [ht]; exact hP, hS.F ht⟩) hS.2.2 d_Y_unmark_11_18
      · have h := if_f hc h
        refine lv_aload_n hx hb d_Y_unmark_11_8 rfl (lv_at hl 1 rfl) ?_
        refine lv_iload_n hx hb d_Y_unmark_11_9 rfl (lv_at hl 2 rfl) ?_
        refine lv_iconst (v := 0) hx hb d_Y_unmark_11_10 (by decide) ?_
        obtain ⟨hgd, h⟩ := gd_some h
        refine as_X_11 hx hb hK hP hD hS hgd d_Y_unmark_11_11 (fun H locs hP hS => ?_)
        obtain ⟨σ1, eσ1, h⟩ := st_some h
        rw [← eσ1] at hP
        have hD : va_D (AX q) (wX q cA σ1) := dd_re (wX_f _ _ _ _) hD
        refine lv_iinc (v := x2 + 1) hx hb d_Y_unmark_11_12 hl (k := 2) rfl rfl (by decide) rfl (fun ls hl => ?_)
        have hl : lv_has ls 3 [(2, .int (x2 + 1)), (0, .ref (q 8)), (1, .ref (q 11))] := hl
        refine lv_goto (tgt := 2) hx hb d_Y_unmark_11_15 rfl ?_
        exact ih2 _ _ h _ _ _ hP hS (lv_sub hl [1, 2, 0] rfl)
  rw [f_Y_unmark_11] at h
  refine lv_iconst (v := 0) hx hb d_Y_unmark_11_0 (by decide) ?_
  refine lv_istore_n hx hb d_Y_unmark_11_1 rfl hl (by decide) rfl (fun ls hl => ?_)
  have hl : lv_has ls 3 [(2, .int 0), (0, .ref (q 8)), (1, .ref (q 11))] := hl
  exact L2 _ _ _ h _ _ _ hP hS (lv_sub hl [1, 2, 0] rfl)
def y_Y_emptyByParts : MethodName := ⟨"StagedParsers$Study", "emptyByParts", "(I)Z"⟩
def w_Y_emptyByParts : List Cond := .code y_Y_emptyByParts prog_6_method_10_code 4 (some .boolean) :: AW_
def rm_Y_emptyByParts : Room := { frames := 2, cells := 0, slots := 0, locals := 43 }
theorem d_Y_emptyByParts_0 : decode prog_6_method_10_code 0 = .ok (.aload_n 0, 1) := by decide +kernel
theorem d_Y_emptyByParts_1 : decode prog_6_method_10_code 1 = .ok (.getfield 28, 3) := by decide +kernel
theorem d_Y_emptyByParts_4 : decode prog_6_method_10_code 4 = .ok (.iload_n 1, 1) := by decide +kernel
theorem d_Y_emptyByParts_5 : decode prog_6_method_10_code 5 = .ok (.invokevirtual 76, 3) := by decide +kernel
theorem d_Y_emptyByParts_8 : decode prog_6_method_10_code 8 = .ok (.istore_n 2, 1) := by decide +kernel
theorem d_Y_emptyByParts_9 : decode prog_6_method_10_code 9 = .ok (.aload_n 0, 1) := by decide +kernel
theorem d_Y_emptyByParts_10 : decode prog_6_method_10_code 10 = .ok (.getfield 28, 3) := by decide +kernel
theorem d_Y_emptyByParts_13 : decode prog_6_method_10_code 13 = .ok (.iload_n 1, 1) := by decide +kernel
theorem d_Y_emptyByParts_14 : decode prog_6_method_10_code 14 = .ok (.invokevirtual 80, 3) := by decide +kernel
theorem d_Y_emptyByParts_17 : decode prog_6_method_10_code 17 = .ok (.istore_n 3, 1) := by decide +kernel
theorem d_Y_emptyByParts_18 : decode prog_6_method_10_code 18 = .ok (.aload_n 0, 1) := by decide +kernel
theorem d_Y_emptyByParts_19 : decode prog_6_method_10_code 19 = .ok (.getfield 28, 3) := by decide +kernel
theorem d_Y_emptyByParts_22 : decode prog_6_method_10_code 22 = .ok (.iload_n 1, 1) := by decide +kernel
theorem d_Y_emptyByParts_23 : decode prog_6_method_10_code 23 = .ok (.invokevirtual 83, 3) := by decide +kernel
theorem d_Y_emptyByParts_26 : decode prog_6_method_10_code 26 = .ok (.tableswitch 159 0 13 #[70, 159, 159, 159, 72, 102, 132, 70, 70, 70, 132, 142, 132, 70], 70) := by decide +kernel
theorem d_Y_emptyByParts_96 : decode prog_6_method_10_code 96 = .ok (.iconst 1, 1) := by decide +kernel
theorem d_Y_emptyByParts_97 : decode prog_6_method_10_code 97 = .ok (.ireturn, 1) := by decide +kernel
theorem d_Y_emptyByParts_98 : decode prog_6_method_10_code 98 = .ok (.aload_n 0, 1) := by decide +kernel
theorem d_Y_emptyByParts_99 : decode prog_6_method_10_code 99 = .ok (.aload_n 0, 1) := by decide +kernel
theorem d_Y_emptyByParts_100 : decode prog_6_method_10_code 100 = .ok (.getfield 9, 3) := by decide +kernel
theorem d_Y_emptyByParts_103 : decode prog_6_method_10_code 103 = .ok (.iload_n 2, 1) := by decide +kernel
theorem d_Y_emptyByParts_104 : decode prog_6_method_10_code 104 = .ok (.invokevirtual 35, 3) := by decide +kernel
theorem d_Y_emptyByParts_107 : decode prog_6_method_10_code 107 = .ok (.ifCond .eq 19, 3) := by decide +kernel
theorem d_Y_emptyByParts_110 : decode prog_6_method_10_code 110 = .ok (.aload_n 0, 1) := by decide +kernel
theorem d_Y_emptyByParts_111 : decode prog_6_method_10_code 111 = .ok (.aload_n 0, 1) := by decide +kernel
theorem d_Y_emptyByParts_112 : decode prog_6_method_10_code 112 = .ok (.getfield 9, 3) := by decide +kernel
theorem d_Y_emptyByParts_115 : decode prog_6_method_10_code 115 = .ok (.iload_n 3, 1) := by decide +kernel
theorem d_Y_emptyByParts_116 : decode prog_6_method_10_code 116 = .ok (.invokevirtual 35, 3) := by decide +kernel
theorem d_Y_emptyByParts_119 : decode prog_6_method_10_code 119 = .ok (.ifCond .eq 7, 3) := by decide +kernel
theorem d_Y_emptyByParts_122 : decode prog_6_method_10_code 122 = .ok (.iconst 1, 1) := by decide +kernel
theorem d_Y_emptyByParts_123 : decode prog_6_method_10_code 123 = .ok (.goto 4, 3) := by decide +kernel
theorem d_Y_emptyByParts_126 : decode prog_6_method_10_code 126 = .ok (.iconst 0, 1) := by decide +kernel
theorem d_Y_emptyByParts_127 : decode prog_6_method_10_code 127 = .ok (.ireturn, 1) := by decide +kernel
theorem d_Y_emptyByParts_128 : decode prog_6_method_10_code 128 = .ok (.aload_n 0, 1) := by decide +kernel
theorem d_Y_emptyByParts_129 : decode prog_6_method_10_code 129 = .ok (.aload_n 0, 1) := by decide +kernel
theorem d_Y_emptyByParts_130 : decode prog_6_method_10_code 130 = .ok (.getfield 9, 3) := by decide +kernel
theorem d_Y_emptyByParts_133 : decode prog_6_method_10_code 133 = .ok (.iload_n 2, 1) := by decide +kernel
theorem d_Y_emptyByParts_134 : decode prog_6_method_10_code 134 = .ok (.invokevirtual 35, 3) := by decide +kernel
theorem d_Y_emptyByParts_137 : decode prog_6_method_10_code 137 = .ok (.ifCond .ne 15, 3) := by decide +kernel
theorem d_Y_emptyByParts_140 : decode prog_6_method_10_code 140 = .ok (.aload_n 0, 1) := by decide +kernel
theorem d_Y_emptyByParts_141 : decode prog_6_method_10_code 141 = .ok (.aload_n 0, 1) := by decide +kernel
theorem d_Y_emptyByParts_142 : decode prog_6_method_10_code 142 = .ok (.getfield 9, 3) := by decide +kernel
theorem d_Y_emptyByParts_145 : decode prog_6_method_10_code 145 = .ok (.iload_n 3, 1) := by decide +kernel
theorem d_Y_emptyByParts_146 : decode prog_6_method_10_code 146 = .ok (.invokevirtual 35, 3) := by decide +kernel
theorem d_Y_emptyByParts_149 : decode prog_6_method_10_code 149 = .ok (.ifCond .eq 7, 3) := by decide +kernel
theorem d_Y_emptyByParts_152 : decode prog_6_method_10_code 152 = .ok (.iconst 1, 1) := by decide +kernel
theorem d_Y_emptyByParts_153 : decode prog_6_method_10_code 153 = .ok (.goto 4, 3) := by decide +kernel
theorem d_Y_emptyByParts_156 : decode prog_6_method_10_code 156 = .ok (.iconst 0, 1) := by decide +kernel
theorem d_Y_emptyByParts_157 : decode prog_6_method_10_code 157 = .ok (.ireturn, 1) := by decide +kernel
theorem d_Y_emptyByParts_158 : decode prog_6_method_10_code 158 = .ok (.aload_n 0, 1) := by decide +kernel
theorem d_Y_emptyByParts_159 : decode prog_6_method_10_code 159 = .ok (.aload_n 0, 1) := by decide +kernel
theorem d_Y_emptyByParts_160 : decode prog_6_method_10_code 160 = .ok (.getfield 9, 3) := by decide +kernel
theorem d_Y_emptyByParts_163 : decode prog_6_method_10_code 163 = .ok (.iload_n 2, 1) := by decide +kernel
theorem d_Y_emptyByParts_164 : decode prog_6_method_10_code 164 = .ok (.invokevirtual 35, 3) := by decide +kernel
theorem d_Y_emptyByParts_167 : decode prog_6_method_10_code 167 = .ok (.ireturn, 1) := by decide +kernel
theorem d_Y_emptyByParts_168 : decode prog_6_method_10_code 168 = .ok (.aload_n 0, 1) := by decide +kernel
theorem d_Y_emptyByParts_169 : decode prog_6_method_10_code 169 = .ok (.aload_n 0, 1) := by decide +kernel
theorem d_Y_emptyByParts_170 : decode prog_6_method_10_code 170 = .ok (.getfield 9, 3) := by decide +kernel
theorem d_Y_emptyByParts_173 : decode prog_6_method_10_code 173 = .ok (.aload_n 0, 1) := by decide +kernel
theorem d_Y_emptyByParts_174 : decode prog_6_method_10_code 174 = .ok (.getfield 28, 3) := by decide +kernel
theorem d_Y_emptyByParts_177 : decode prog_6_method_10_code 177 = .ok (.iload_n 2, 1) := by decide +kernel
theorem d_Y_emptyByParts_178 : decode prog_6_method_10_code 178 = .ok (.invokevirtual 86, 3) := by decide +kernel
theorem d_Y_emptyByParts_181 : decode prog_6_method_10_code 181 = .ok (.invokevirtual 35, 3) := by decide +kernel
theorem d_Y_emptyByParts_184 : decode prog_6_method_10_code 184 = .ok (.ireturn, 1) := by decide +kernel
theorem d_Y_emptyByParts_185 : decode prog_6_method_10_code 185 = .ok (.iconst 0, 1) := by decide +kernel
theorem d_Y_emptyByParts_186 : decode prog_6_method_10_code 186 = .ok (.ireturn, 1) := by decide +kernel
section RW
variable {p : Program} {l : Launch} {e : Env} {R : Room} {s : State} {m : MethodId} {args : Array Value} {below : List Frame} {meth : Method} {c : Code} {H : Heap} {locs : List Loc} {cells slots : Nat} {Q : State → Prop}
variable {cc : ByteArray} {pc : Nat} {ls : Array Slot} {rest : List Value} {dC : Nat → ClassId} {dI : Nat → Nat → Nat} {q : Nat → Nat} {cA : Nat → ClassId} {σ : MZ_} {H0 : Heap} {A : Nat → Prop}

theorem cw_Y_76 (hts : ∀ w ∈ AW_, w.before args s = true) (hR : rm_G_a.frames + 1 ≤ R.frames ∧ 8 + (2 + 11) + rm_G_a.locals ≤ R.locals) : CallW R s args "StagedParsers$Study" "StagedParsers$Grammar" 76 y_G_a prog_4_method_11_code 2 (some .int) w_G_a rm_G_a 0 0 1 :=
  ⟨callB_of 1 hts (aw_in kw_259) rfl rfl rfl (hts _ kw_2) (hts _ kw_256) ⟨by decide, by decide, by decide +kernel⟩ hR, hts _ kw_257, hts _ kw_258⟩
theorem cw_Y_80 (hts : ∀ w ∈ AW_, w.before args s = true) (hR : rm_G_b.frames + 1 ≤ R.frames ∧ 8 + (2 + 11) + rm_G_b.locals ≤ R.locals) : CallW R s args "StagedParsers$Study" "StagedParsers$Grammar" 80 y_G_b prog_4_method_12_code 2 (some .int) w_G_b rm_G_b 0 0 1 :=
  ⟨callB_of 1 hts (aw_in kw_263) rfl rfl rfl (hts _ kw_2) (hts _ kw_260) ⟨by decide, by decide, by decide +kernel⟩ hR, hts _ kw_261, hts _ kw_262⟩
theorem cw_Y_83 (hts : ∀ w ∈ AW_, w.before args s = true) (hR : rm_G_kind.frames + 1 ≤ R.frames ∧ 8 + (2 + 11) + rm_G_kind.locals ≤ R.locals) : CallW R s args "StagedParsers$Study" "StagedParsers$Grammar" 83 y_G_kind prog_4_method_10_code 2 (some .int) w_G_kind rm_G_kind 0 0 1 :=
  ⟨callB_of 1 hts (aw_in kw_254) rfl rfl rfl (hts _ kw_2) (hts _ kw_251) ⟨by decide, by decide, by decide +kernel⟩ hR, hts _ kw_252, hts _ kw_253⟩
theorem gf_Y_9 (hx : p.tables.exec = Jvm.exec) (hb : c.code = cc) (hts : ∀ w ∈ AW_, w.before args s = true) (hown : s.vm.findClass "StagedParsers$Study" = some m.cls) (hK : va_K (dC, dI) cls_ (tyX cA) s) (hP : va_P (dC, dI) cls_ (wX q cA σ) H) (hdg : decode cc pc = .ok (.getfield 9, 3)) (kk : W p l e R s m args below meth c H locs cells slots Q (F0 m (pc + 3) ls (.ref (q 9) :: rest))) : W p l e R s m args below meth c H locs cells slots Q (F0 m pc ls (.ref (q 8) :: rest)) :=
  va_get (D := (dC, dI)) (cl := cls_) (ci := 2) (v := .ref (q 9)) (ws := wX q cA σ) (tys := tyX cA) (C := Rz_Y) (T := Tz_Y) (N := 6) hx hb hts uz_Y hown hK hP 8 rfl rfl 1 (by decide) (hts _ kw_65) (fun _ h9 => h9) rfl hdg kk
theorem cw_Y_35 (hts : ∀ w ∈ AW_, w.before args s = true) (hR : rm_Y_marked.frames + 1 ≤ R.frames ∧ 8 + (3 + 11) + rm_Y_marked.locals ≤ R.locals) : CallW R s args "StagedParsers$Study" "StagedParsers$Study" 35 y_Y_marked prog_6_method_7_code 3 (some .boolean) w_Y_marked rm_Y_marked 0 0 2 :=
  ⟨callB_of 2 hts (aw_in kw_279) rfl rfl rfl (hts _ kw_4) (hts _ kw_276) ⟨by decide, by decide, by decide +kernel⟩ hR, hts _ kw_278, hts _ ks_6⟩
theorem cw_Y_86 (hts : ∀ w ∈ AW_, w.before args s = true) (hR : rm_G_body.frames + 1 ≤ R.frames ∧ 8 + (2 + 11) + rm_G_body.locals ≤ R.locals) : CallW R s args "StagedParsers$Study" "StagedParsers$Grammar" 86 y_G_body prog_4_method_7_code 2 (some .int) w_G_body rm_G_body 0 0 1 :=
  ⟨callB_of 1 hts (aw_in kw_232) rfl rfl rfl (hts _ kw_2) (hts _ kw_229) ⟨by decide, by decide, by decide +kernel⟩ hR, hts _ kw_230, hts _ kw_231⟩
end RW
def f_Y_emptyByParts (σ : MZ_) (a1 : Int32) : Option (Int32) :=
  (f_G_a σ a1).bind fun r1 => (f_G_b σ a1).bind fun r2 => (f_G_kind σ a1).bind fun r3 => if r3 = 0 then some 1
  else if r3 = 1 then some 0
  else if r3 = 2 then some 0
  else if r3 = 3 then some 0
  else if r3 = 4 then (f_Y_marked_9 σ r1).bind fun r4 => if r4 = 0 then some 0
    else (f_Y_marked_9 σ r2).bind fun r5 => if r5 = 0 then some 0
    else some 1
  else if r3 = 5 then (f_Y_marked_9 σ r1).bind fun r6 => if r6 = 0 then (f_Y_marked_9 σ r2).bind fun r7 => if r7 = 0 then some 0
      else some 1
    else some 1
  else if r3 = 6 then (f_Y_marked_9 σ r1).bind fun r8 => bo_ r8 (some r8)
  else if r3 = 7 then some 1
  else if r3 = 8 then some 1
  else if r3 = 9 then some 1
  else if r3 = 10 then (f_Y_marked_9 σ r1).bind fun r9 => bo_ r9 (some r9)
  else if r3 = 11 then (f_G_body σ r1).bind fun r10 => (f_Y_marked_9 σ r10).bind fun r11 => bo_ r11 (some r11)
  else if r3 = 12 then (f_Y_marked_9 σ r1).bind fun r12 => bo_ r12 (some r12)
  else if r3 = 13 then some 1
  else some 0
set_option maxHeartbeats 4000000 in
set_option maxRecDepth 100000 in
theorem c_Y_emptyByParts (l : Launch) (dC : Nat → ClassId) (dI : Nat → Nat → Nat) (q : Nat → Nat) (cA : Nat → ClassId) (pt : Nat) (σ : MZ_) (a1 : Int32) (u : Int32) (h : f_Y_emptyByParts σ a1 = some u) : Met l y_Y_emptyByParts w_Y_emptyByParts rm_Y_emptyByParts (va_Pc [.ref (q 8), .int a1] (PX_ dC dI q cA pt σ)) (QcRead u) 0 0 (fun _ => False) := by
  refine Met.ofW (cc := prog_6_method_10_code) (maxL := 4) (ret := (some .boolean)) (by decide) rfl ?_
  intro p e s m args below meth c s₁ B hml hv
  obtain ⟨rfl, hP, hK, hD, hN, hZ⟩ := hv
  have hx := B.exec
  have hb := B.bytes
  have hr := B.returns
  have hts : ∀ w ∈ AW_, w.before _ s = true := fun w h => atoms_spec (ws := w_Y_emptyByParts) B.pre w (List.mem_cons_of_mem _ h)
  have hown : s.vm.findClass "StagedParsers$Study" = some m.cls := findClass_of_methodNamed B.named
  have hlocks := B.notSynchronized
  have hS : va_S (AX q) s.heap s.heap [] := va_S.rf
  have hl := lv_entry ([.ref (q 8), .int a1]) (n := 4) (Nat.le_of_ble_eq_true rfl)
  rw [lg_entry_eq]
  generalize (lg_sl ([.ref (q 8), .int a1]) ++ List.replicate (4 - (lg_sl ([.ref (q 8), .int a1])).length) Slot.unset).toArray = ls at hl ⊢
  have hl : lv_has ls 4 [(0, .ref (q 8)), (1, .int a1)] := hl
  rw [f_Y_emptyByParts] at h
  refine lv_aload_n hx hb d_Y_emptyByParts_0 rfl (lv_at hl 0 rfl) ?_
  refine gf_Y_28 hx hb hts hown hK hP d_Y_emptyByParts_1 ?_
  refine lv_iload_n hx hb d_Y_emptyByParts_4 rfl (lv_at hl 1 rfl) ?_
  obtain ⟨r1, hcl, h⟩ := bd_some h
  refine cx_read (va_runV (As := [.int a1]) (rest := []) ⟨hx, hb, hml, hown, hts⟩ (c_G_a l dC dI q cA pt σ a1 _ hcl) (cw_Y_76 hts ⟨Nat.le_of_ble_eq_true rfl, Nat.le_of_ble_eq_true rfl⟩) ⟨pxX_B, va_recv hK hP (ci := 1) (q0 := 1) rfl rfl, pxX_U hP hK hD hN hZ hS⟩ rfl rfl hl.1 rfl (lv_room (Nat.le_of_ble_eq_true rfl)) d_Y_emptyByParts_5 ⟨Nat.zero_le _, Nat.zero_le _⟩) ?_
  refine lv_istore_n hx hb d_Y_emptyByParts_8 rfl hl (by decide) rfl (fun ls hl => ?_)
  have hl : lv_has ls 4 [(2, .int r1), (0, .ref (q 8)), (1, .int a1)] := hl
  refine lv_aload_n hx hb d_Y_emptyByParts_9 rfl (lv_at hl 1 rfl) ?_
  refine gf_Y_28 hx hb hts hown hK hP d_Y_emptyByParts_10 ?_
  refine lv_iload_n hx hb d_Y_emptyByParts_13 rfl (lv_at hl 2 rfl) ?_
  obtain ⟨r2, hcl, h⟩ := bd_some h
  refine cx_read (va_runV (As := [.int a1]) (rest := []) ⟨hx, hb, hml, hown, hts⟩ (c_G_b l dC dI q cA pt σ a1 _ hcl) (cw_Y_80 hts ⟨Nat.le_of_ble_eq_true rfl, Nat.le_of_ble_eq_true rfl⟩) ⟨pxX_B, va_recv hK hP (ci := 1) (q0 := 1) rfl rfl, pxX_U hP hK hD hN hZ hS⟩ rfl rfl hl.1 rfl (lv_room (Nat.le_of_ble_eq_true rfl)) d_Y_emptyByParts_14 ⟨Nat.zero_le _, Nat.zero_le _⟩) ?_
  refine lv_istore_n hx hb d_Y_emptyByParts_17 rfl hl (by decide) rfl (fun ls hl => ?_)
  have hl : lv_has ls 4 [(3, .int r2), (2, .int r1), (0, .ref (q 8)), (1, .int a1)] := hl
  refine lv_aload_n hx hb d_Y_emptyByParts_18 rfl (lv_at hl 2 rfl) ?_
  refine gf_Y_28 hx hb hts hown hK hP d_Y_emptyByParts_19 ?_
  refine lv_iload_n hx hb d_Y_emptyByParts_22 rfl (lv_at hl 3 rfl) ?_
  obtain ⟨r3, hcl, h⟩ := bd_some h
  refine cx_read (va_runV (As := [.int a1]) (rest := []) ⟨hx, hb, hml, hown, hts⟩ (c_G_kind l dC dI q cA pt σ a1 _ hcl) (cw_Y_83 hts ⟨Nat.le_of_ble_eq_true rfl, Nat.le_of_ble_eq_true rfl⟩) ⟨pxX_B, va_recv hK hP (ci := 1) (q0 := 1) rfl rfl, pxX_U hP hK hD hN hZ hS⟩ rfl rfl hl.1 rfl (lv_room (Nat.le_of_ble_eq_true rfl)) d_Y_emptyByParts_23 ⟨Nat.zero_le _, Nat.zero_le _⟩) ?_
  by_cases hc0 : r3 = 0
  · have h := if_t hc0 h
    refine sw_in (tgt := 96) hx hb d_Y_emptyByParts_26 hc0 (by decide) (by decide) rfl rfl ?_
    refine lv_iconst (v := 1) hx hb d_Y_emptyByParts_96 (by decide) ?_
    obtain rfl := Option.some.inj h
    exact W.zret hx hb hr rfl (fun t ht hW => ⟨rfl, ht⟩) (fun _ h9 => nomatch h9) d_Y_emptyByParts_97
  have h := if_f hc0 h
  by_cases hc1 : r3 = 1
  · have h := if_t hc1 h
    refine sw_in (tgt := 185) hx hb d_Y_emptyByParts_26 hc1 (by decide) (by decide) rfl rfl ?_
    refine lv_iconst (v := 0) hx hb d_Y_emptyByParts_185 (by decide) ?_
    obtain rfl := Option.some.inj h
    exact W.zret hx hb hr rfl (fun t ht hW => ⟨rfl, ht⟩) (fun _ h9 => nomatch h9) d_Y_emptyByParts_186
  have h := if_f hc1 h
  by_cases hc2 : r3 = 2
  · have h := if_t hc2 h
    refine sw_in (tgt := 185) hx hb d_Y_emptyByParts_26 hc2 (by decide) (by decide) rfl rfl ?_
    refine lv_iconst (v := 0) hx hb d_Y_emptyByParts_185 (by decide) ?_
    obtain rfl := Option.some.inj h
    exact W.zret hx hb hr rfl (fun t ht hW => ⟨rfl, ht⟩) (fun _ h9 => nomatch h9) d_Y_emptyByParts_186
  have h := if_f hc2 h
  by_cases hc3 : r3 = 3
  · have h := if_t hc3 h
    refine sw_in (tgt := 185) hx hb d_Y_emptyByParts_26 hc3 (by decide) (by decide) rfl rfl ?_
    refine lv_iconst (v := 0) hx hb d_Y_emptyByParts_185 (by decide) ?_
    obtain rfl := Option.some.inj h
    exact W.zret hx hb hr rfl (fun t ht hW => ⟨rfl, ht⟩) (fun _ h9 => nomatch h9) d_Y_emptyByParts_186
  have h := if_f hc3 h
  by_cases hc4 : r3 = 4
  · have h := if_t hc4 h
    refine sw_in (tgt := 98) hx hb d_Y_emptyByParts_26 hc4 (by decide) (by decide) rfl rfl ?_
    refine lv_aload_n hx hb d_Y_emptyByParts_98 rfl (lv_at hl 2 rfl) ?_
    refine lv_aload_n hx hb d_Y_emptyByParts_99 rfl (lv_at hl 2 rfl) ?_
    refine gf_Y_9 hx hb hts hown hK hP d_Y_emptyByParts_100 ?_
    refine lv_iload_n hx hb d_Y_emptyByParts_103 rfl (lv_at hl 1 rfl) ?_
    obtain ⟨r4, hcl, h⟩ := bd_some h
    refine cx_read (va_runV (As := [.ref (q 9), .int r1]) (rest := []) ⟨hx, hb, hml, hown, hts⟩ (c_Y_marked_9 l dC dI q cA pt σ r1 _ hcl) (cw_Y_35 hts ⟨Nat.le_of_ble_eq_true rfl, Nat.le_of_ble_eq_true rfl⟩) ⟨pxX_B, va_recv hK hP (ci := 2) (q0 := 8) rfl rfl, pxX_U hP hK hD hN hZ hS⟩ rfl rfl hl.1 rfl (lv_room (Nat.le_of_ble_eq_true rfl)) d_Y_emptyByParts_104 ⟨Nat.zero_le _, Nat.zero_le _⟩) ?_
    refine lv_if_eq (tgt := 126) hx hb d_Y_emptyByParts_107 rfl (fun hc => ?_) (fun hc => ?_)
    · have h := if_t hc h
      refine lv_iconst (v := 0) hx hb d_Y_emptyByParts_126 (by decide) ?_
      obtain rfl := Option.some.inj h
      exact W.zret hx hb hr rfl (fun t ht hW => ⟨rfl, ht⟩) (fun _ h9 => nomatch h9) d_Y_emptyByParts_127
    · have h := if_f hc h
      refine lv_aload_n hx hb d_Y_emptyByParts_110 rfl (lv_at hl 2 rfl) ?_
      refine lv_aload_n hx hb d_Y_emptyByParts_111 rfl (lv_at hl 2 rfl) ?_
      refine gf_Y_9 hx hb hts hown hK hP d_Y_emptyByParts_112 ?_
      refine lv_iload_n hx hb d_Y_emptyByParts_115 rfl (lv_at hl 0 rfl) ?_
      obtain ⟨r5, hcl, h⟩ := bd_some h
      refine cx_read (va_runV (As := [.ref (q 9), .int r2]) (rest := []) ⟨hx, hb, hml, hown, hts⟩ (c_Y_marked_9 l dC dI q cA pt σ r2 _ hcl) (cw_Y_35 hts ⟨Nat.le_of_ble_eq_true rfl, Nat.le_of_ble_eq_true rfl⟩) ⟨pxX_B, va_recv hK hP (ci := 2) (q0 := 8) rfl rfl, pxX_U hP hK hD hN hZ hS⟩ rfl rfl hl.1 rfl (lv_room (Nat.le_of_ble_eq_true rfl)) d_Y_emptyByParts_116 ⟨Nat.zero_le _, Nat.zero_le _⟩) ?_
      refine lv_if_eq (tgt := 126) hx hb d_Y_emptyByParts_119 rfl (fun hc => ?_) (fun hc => ?_)
      · have h := if_t hc h
        refine lv_iconst (v := 0) hx hb d_Y_emptyByParts_126 (by decide) ?_
        obtain rfl := Option.some.inj h
        exact W.zret hx hb hr rfl (fun t ht hW => ⟨rfl, ht⟩) (fun _ h9 => nomatch h9) d_Y_emptyByParts_127
      · have h := if_f hc h
        refine lv_iconst (v := 1) hx hb d_Y_emptyByParts_122 (by decide) ?_
        refine lv_goto (tgt := 127) hx hb d_Y_emptyByParts_123 rfl ?_
        obtain rfl := Option.some.inj h
        exact W.zret hx hb hr rfl (fun t ht hW => ⟨rfl, ht⟩) (fun _ h9 => nomatch h9) d_Y_emptyByParts_127
  have h := if_f hc4 h
  by_cases hc5 : r3 = 5
  · have h := if_t hc5 h
    refine sw_in (tgt := 128) hx hb d_Y_emptyByParts_26 hc5 (by decide) (by decide) rfl rfl ?_
    refine lv_aload_n hx hb d_Y_emptyByParts_128 rfl (lv_at hl 2 rfl) ?_
    refine lv_aload_n hx hb d_Y_emptyByParts_129 rfl (lv_at hl 2 rfl) ?_
    refine gf_Y_9 hx hb hts hown hK hP d_Y_emptyByParts_130 ?_
    refine lv_iload_n hx hb d_Y_emptyByParts_133 rfl (lv_at hl 1 rfl) ?_
    obtain ⟨r6, hcl, h⟩ := bd_some h
    refine cx_read (va_runV (As := [.ref (q 9), .int r1]) (rest := []) ⟨hx, hb, hml, hown, hts⟩ (c_Y_marked_9 l dC dI q cA pt σ r1 _ hcl) (cw_Y_35 hts ⟨Nat.le_of_ble_eq_true rfl, Nat.le_of_ble_eq_true rfl⟩) ⟨pxX_B, va_recv hK hP (ci := 2) (q0 := 8) rfl rfl, pxX_U hP hK hD hN hZ hS⟩ rfl rfl hl.1 rfl (lv_room (Nat.le_of_ble_eq_true rfl)) d_Y_emptyByParts_134 ⟨Nat.zero_le _, Nat.zero_le _⟩) ?_
    refine lv_if_ne (tgt := 152) hx hb d_Y_emptyByParts_137 rfl (fun hc => ?_) (fun hc => ?_)
    · have h := if_f hc h
      refine lv_iconst (v := 1) hx hb d_Y_emptyByParts_152 (by decide) ?_
      refine lv_goto (tgt := 157) hx hb d_Y_emptyByParts_153 rfl ?_
      obtain rfl := Option.some.inj h
      exact W.zret hx hb hr rfl (fun t ht hW => ⟨rfl, ht⟩) (fun _ h9 => nomatch h9) d_Y_emptyByParts_157
    · have h := if_t hc h
      refine lv_aload_n hx hb d_Y_emptyByParts_140 rfl (lv_at hl 2 rfl) ?_
      refine lv_aload_n hx hb d_Y_emptyByParts_141 rfl (lv_at hl 2 rfl) ?_
      refine gf_Y_9 hx hb hts hown hK hP d_Y_emptyByParts_142 ?_
      refine lv_iload_n hx hb d_Y_emptyByParts_145 rfl (lv_at hl 0 rfl) ?_
      obtain ⟨r7, hcl, h⟩ := bd_some h
      refine cx_read (va_runV (As := [.ref (q 9), .int r2]) (rest := []) ⟨hx, hb, hml, hown, hts⟩ (c_Y_marked_9 l dC dI q cA pt σ r2 _ hcl) (cw_Y_35 hts ⟨Nat.le_of_ble_eq_true rfl, Nat.le_of_ble_eq_true rfl⟩) ⟨pxX_B, va_recv hK hP (ci := 2) (q0 := 8) rfl rfl, pxX_U hP hK hD hN hZ hS⟩ rfl rfl hl.1 rfl (lv_room (Nat.le_of_ble_eq_true rfl)) d_Y_emptyByParts_146 ⟨Nat.zero_le _, Nat.zero_le _⟩) ?_
      refine lv_if_eq (tgt := 156) hx hb d_Y_emptyByParts_149 rfl (fun hc => ?_) (fun hc => ?_)
      · have h := if_t hc h
        refine lv_iconst (v := 0) hx hb d_Y_emptyByParts_156 (by decide) ?_
        obtain rfl := Option.some.inj h
        exact W.zret hx hb hr rfl (fun t ht hW => ⟨rfl, ht⟩) (fun _ h9 => nomatch h9) d_Y_emptyByParts_157
      · have h := if_f hc h
        refine lv_iconst (v := 1) hx hb d_Y_emptyByParts_152 (by decide) ?_
        refine lv_goto (tgt := 157) hx hb d_Y_emptyByParts_153 rfl ?_
        obtain rfl := Option.some.inj h
        exact W.zret hx hb hr rfl (fun t ht hW => ⟨rfl, ht⟩) (fun _ h9 => nomatch h9) d_Y_emptyByParts_157
  have h := if_f hc5 h
  by_cases hc6 : r3 = 6
  · have h := if_t hc6 h
    refine sw_in (tgt := 158) hx hb d_Y_emptyByParts_26 hc6 (by decide) (by decide) rfl rfl ?_
    refine lv_aload_n hx hb d_Y_emptyByParts_158 rfl (lv_at hl 2 rfl) ?_
    refine lv_aload_n hx hb d_Y_emptyByParts_159 rfl (lv_at hl 2 rfl) ?_
    refine gf_Y_9 hx hb hts hown hK hP d_Y_emptyByParts_160 ?_
    refine lv_iload_n hx hb d_Y_emptyByParts_163 rfl (lv_at hl 1 rfl) ?_
    obtain ⟨r8, hcl, h⟩ := bd_some h
    refine cx_read (va_runV (As := [.ref (q 9), .int r1]) (rest := []) ⟨hx, hb, hml, hown, hts⟩ (c_Y_marked_9 l dC dI q cA pt σ r1 _ hcl) (cw_Y_35 hts ⟨Nat.le_of_ble_eq_true rfl, Nat.le_of_ble_eq_true rfl⟩) ⟨pxX_B, va_recv hK hP (ci := 2) (q0 := 8) rfl rfl, pxX_U hP hK hD hN hZ hS⟩ rfl rfl hl.1 rfl (lv_room (Nat.le_of_ble_eq_true rfl)) d_Y_emptyByParts_164 ⟨Nat.zero_le _, Nat.zero_le _⟩) ?_
    obtain ⟨hbo, h⟩ := bo_some h
    obtain rfl := Option.some.inj h
    exact W.zret hx hb hr (bo_nar hbo) (fun t ht hW => ⟨rfl, ht⟩) (fun _ h9 => nomatch h9) d_Y_emptyByParts_167
  have h := if_f hc6 h
  by_cases hc7 : r3 = 7
  · have h := if_t hc7 h
    refine sw_in (tgt := 96) hx hb d_Y_emptyByParts_26 hc7 (by decide) (by decide) rfl rfl ?_
    refine lv_iconst (v := 1) hx hb d_Y_emptyByParts_96 (by decide) ?_
    obtain rfl := Option.some.inj h
    exact W.zret hx hb hr rfl (fun t ht hW => ⟨rfl, ht⟩) (fun _ h9 => nomatch h9) d_Y_emptyByParts_97
  have h := if_f hc7 h
  by_cases hc8 : r3 = 8
  · have h := if_t hc8 h
    refine sw_in (tgt := 96) hx hb d_Y_emptyByParts_26 hc8 (by decide) (by decide) rfl rfl ?_
    refine lv_iconst (v := 1) hx hb d_Y_emptyByParts_96 (by decide) ?_
    obtain rfl := Option.some.inj h
    exact W.zret hx hb hr rfl (fun t ht hW => ⟨rfl, ht⟩) (fun _ h9 => nomatch h9) d_Y_emptyByParts_97
  have h := if_f hc8 h
  by_cases hc9 : r3 = 9
  · have h := if_t hc9 h
    refine sw_in (tgt := 96) hx hb d_Y_emptyByParts_26 hc9 (by decide) (by decide) rfl rfl ?_
    refine lv_iconst (v := 1) hx hb d_Y_emptyByParts_96 (by decide) ?_
    obtain rfl := Option.some.inj h
    exact W.zret hx hb hr rfl (fun t ht hW => ⟨rfl, ht⟩) (fun _ h9 => nomatch h9) d_Y_emptyByParts_97
  have h := if_f hc9 h
  by_cases hc10 : r3 = 10
  · have h := if_t hc10 h
    refine sw_in (tgt := 158) hx hb d_Y_emptyByParts_26 hc10 (by decide) (by decide) rfl rfl ?_
    refine lv_aload_n hx hb d_Y_emptyByParts_158 rfl (lv_at hl 2 rfl) ?_
    refine lv_aload_n hx hb d_Y_emptyByParts_159 rfl (lv_at hl 2 rfl) ?_
    refine gf_Y_9 hx hb hts hown hK hP d_Y_emptyByParts_160 ?_
    refine lv_iload_n hx hb d_Y_emptyByParts_163 rfl (lv_at hl 1 rfl) ?_
    obtain ⟨r9, hcl, h⟩ := bd_some h
    refine cx_read (va_runV (As := [.ref (q 9), .int r1]) (rest := []) ⟨hx, hb, hml, hown, hts⟩ (c_Y_marked_9 l dC dI q cA pt σ r1 _ hcl) (cw_Y_35 hts ⟨Nat.le_of_ble_eq_true rfl, Nat.le_of_ble_eq_true rfl⟩) ⟨pxX_B, va_recv hK hP (ci := 2) (q0 := 8) rfl rfl, pxX_U hP hK hD hN hZ hS⟩ rfl rfl hl.1 rfl (lv_room (Nat.le_of_ble_eq_true rfl)) d_Y_emptyByParts_164 ⟨Nat.zero_le _, Nat.zero_le _⟩) ?_
    obtain ⟨hbo, h⟩ := bo_some h
    obtain rfl := Option.some.inj h
    exact W.zret hx hb hr (bo_nar hbo) (fun t ht hW => ⟨rfl, ht⟩) (fun _ h9 => nomatch h9) d_Y_emptyByParts_167
  have h := if_f hc10 h
  by_cases hc11 : r3 = 11
  · have h := if_t hc11 h
    refine sw_in (tgt := 168) hx hb d_Y_emptyByParts_26 hc11 (by decide) (by decide) rfl rfl ?_
    refine lv_aload_n hx hb d_Y_emptyByParts_168 rfl (lv_at hl 2 rfl) ?_
    refine lv_aload_n hx hb d_Y_emptyByParts_169 rfl (lv_at hl 2 rfl) ?_
    refine gf_Y_9 hx hb hts hown hK hP d_Y_emptyByParts_170 ?_
    refine lv_aload_n hx hb d_Y_emptyByParts_173 rfl (lv_at hl 2 rfl) ?_
    refine gf_Y_28 hx hb hts hown hK hP d_Y_emptyByParts_174 ?_
    refine lv_iload_n hx hb d_Y_emptyByParts_177 rfl (lv_at hl 1 rfl) ?_
    obtain ⟨r10, hcl, h⟩ := bd_some h
    refine cx_read (va_runV (As := [.int r1]) (rest := [.ref (q 9), .ref (q 8)]) ⟨hx, hb, hml, hown, hts⟩ (c_G_body l dC dI q cA pt σ r1 _ hcl) (cw_Y_86 hts ⟨Nat.le_of_ble_eq_true rfl, Nat.le_of_ble_eq_true rfl⟩) ⟨pxX_B, va_recv hK hP (ci := 1) (q0 := 1) rfl rfl, pxX_U hP hK hD hN hZ hS⟩ rfl rfl hl.1 rfl (lv_room (Nat.le_of_ble_eq_true rfl)) d_Y_emptyByParts_178 ⟨Nat.zero_le _, Nat.zero_le _⟩) ?_
    obtain ⟨r11, hcl, h⟩ := bd_some h
    refine cx_read (va_runV (As := [.ref (q 9), .int r10]) (rest := []) ⟨hx, hb, hml, hown, hts⟩ (c_Y_marked_9 l dC dI q cA pt σ r10 _ hcl) (cw_Y_35 hts ⟨Nat.le_of_ble_eq_true rfl, Nat.le_of_ble_eq_true rfl⟩) ⟨pxX_B, va_recv hK hP (ci := 2) (q0 := 8) rfl rfl, pxX_U hP hK hD hN hZ hS⟩ rfl rfl hl.1 rfl (lv_room (Nat.le_of_ble_eq_true rfl)) d_Y_emptyByParts_181 ⟨Nat.zero_le _, Nat.zero_le _⟩) ?_
    obtain ⟨hbo, h⟩ := bo_some h
    obtain rfl := Option.some.inj h
    exact W.zret hx hb hr (bo_nar hbo) (fun t ht hW => ⟨rfl, ht⟩) (fun _ h9 => nomatch h9) d_Y_emptyByParts_184
  have h := if_f hc11 h
  by_cases hc12 : r3 = 12
  · have h := if_t hc12 h
    refine sw_in (tgt := 158) hx hb d_Y_emptyByParts_26 hc12 (by decide) (by decide) rfl rfl ?_
    refine lv_aload_n hx hb d_Y_emptyByParts_158 rfl (lv_at hl 2 rfl) ?_
    refine lv_aload_n hx hb d_Y_emptyByParts_159 rfl (lv_at hl 2 rfl) ?_
    refine gf_Y_9 hx hb hts hown hK hP d_Y_emptyByParts_160 ?_
    refine lv_iload_n hx hb d_Y_emptyByParts_163 rfl (lv_at hl 1 rfl) ?_
    obtain ⟨r12, hcl, h⟩ := bd_some h
    refine cx_read (va_runV (As := [.ref (q 9), .int r1]) (rest := []) ⟨hx, hb, hml, hown, hts⟩ (c_Y_marked_9 l dC dI q cA pt σ r1 _ hcl) (cw_Y_35 hts ⟨Nat.le_of_ble_eq_true rfl, Nat.le_of_ble_eq_true rfl⟩) ⟨pxX_B, va_recv hK hP (ci := 2) (q0 := 8) rfl rfl, pxX_U hP hK hD hN hZ hS⟩ rfl rfl hl.1 rfl (lv_room (Nat.le_of_ble_eq_true rfl)) d_Y_emptyByParts_164 ⟨Nat.zero_le _, Nat.zero_le _⟩) ?_
    obtain ⟨hbo, h⟩ := bo_some h
    obtain rfl := Option.some.inj h
    exact W.zret hx hb hr (bo_nar hbo) (fun t ht hW => ⟨rfl, ht⟩) (fun _ h9 => nomatch h9) d_Y_emptyByParts_167
  have h := if_f hc12 h
  by_cases hc13 : r3 = 13
  · have h := if_t hc13 h
    refine sw_in (tgt := 96) hx hb d_Y_emptyByParts_26 hc13 (by decide) (by decide) rfl rfl ?_
    refine lv_iconst (v := 1) hx hb d_Y_emptyByParts_96 (by decide) ?_
    obtain rfl := Option.some.inj h
    exact W.zret hx hb hr rfl (fun t ht hW => ⟨rfl, ht⟩) (fun _ h9 => nomatch h9) d_Y_emptyByParts_97
  have h := if_f hc13 h
  refine lv_tableOut (tgt := 185) hx hb d_Y_emptyByParts_26 (by have q0 := lv_neT hc0 (a := 0) (by decide); have q1 := lv_neT hc1 (a := 1) (by decide); have q2 := lv_neT hc2 (a := 2) (by decide); have q3 := lv_neT hc3 (a := 3) (by decide); have q4 := lv_neT hc4 (a := 4) (by decide); have q5 := lv_neT hc5 (a := 5) (by decide); have q6 := lv_neT hc6 (a := 6) (by decide); have q7 := lv_neT hc7 (a := 7) (by decide); have q8 := lv_neT hc8 (a := 8) (by decide); have q9 := lv_neT hc9 (a := 9) (by decide); have q10 := lv_neT hc10 (a := 10) (by decide); have q11 := lv_neT hc11 (a := 11) (by decide); have q12 := lv_neT hc12 (a := 12) (by decide); have q13 := lv_neT hc13 (a := 13) (by decide); omega) rfl ?_
  refine lv_iconst (v := 0) hx hb d_Y_emptyByParts_185 (by decide) ?_
  obtain rfl := Option.some.inj h
  exact W.zret hx hb hr rfl (fun t ht hW => ⟨rfl, ht⟩) (fun _ h9 => nomatch h9) d_Y_emptyByParts_186
def y_Y_findEmptyNodes : MethodName := ⟨"StagedParsers$Study", "findEmptyNodes", "()V"⟩
def w_Y_findEmptyNodes : List Cond := .code y_Y_findEmptyNodes prog_6_method_9_code 3 none :: AW_
def rm_Y_findEmptyNodes : Room := { frames := 3, cells := 0, slots := 0, locals := 66 }
theorem d_Y_findEmptyNodes_0 : decode prog_6_method_9_code 0 = .ok (.aload_n 0, 1) := by decide +kernel
theorem d_Y_findEmptyNodes_1 : decode prog_6_method_9_code 1 = .ok (.aload_n 0, 1) := by decide +kernel
theorem d_Y_findEmptyNodes_2 : decode prog_6_method_9_code 2 = .ok (.getfield 9, 3) := by decide +kernel
theorem d_Y_findEmptyNodes_5 : decode prog_6_method_9_code 5 = .ok (.invokevirtual 65, 3) := by decide +kernel
theorem d_Y_findEmptyNodes_8 : decode prog_6_method_9_code 8 = .ok (.iconst 0, 1) := by decide +kernel
theorem d_Y_findEmptyNodes_9 : decode prog_6_method_9_code 9 = .ok (.istore_n 1, 1) := by decide +kernel
theorem d_Y_findEmptyNodes_10 : decode prog_6_method_9_code 10 = .ok (.iload_n 1, 1) := by decide +kernel
theorem d_Y_findEmptyNodes_11 : decode prog_6_method_9_code 11 = .ok (.bipush 6, 2) := by decide +kernel
theorem d_Y_findEmptyNodes_13 : decode prog_6_method_9_code 13 = .ok (.if_icmp .gt 39, 3) := by decide +kernel
theorem d_Y_findEmptyNodes_16 : decode prog_6_method_9_code 16 = .ok (.iconst 0, 1) := by decide +kernel
theorem d_Y_findEmptyNodes_17 : decode prog_6_method_9_code 17 = .ok (.istore_n 2, 1) := by decide +kernel
theorem d_Y_findEmptyNodes_18 : decode prog_6_method_9_code 18 = .ok (.iload_n 2, 1) := by decide +kernel
theorem d_Y_findEmptyNodes_19 : decode prog_6_method_9_code 19 = .ok (.aload_n 0, 1) := by decide +kernel
theorem d_Y_findEmptyNodes_20 : decode prog_6_method_9_code 20 = .ok (.getfield 28, 3) := by decide +kernel
theorem d_Y_findEmptyNodes_23 : decode prog_6_method_9_code 23 = .ok (.invokevirtual 69, 3) := by decide +kernel
theorem d_Y_findEmptyNodes_26 : decode prog_6_method_9_code 26 = .ok (.if_icmp .ge 20, 3) := by decide +kernel
theorem d_Y_findEmptyNodes_29 : decode prog_6_method_9_code 29 = .ok (.aload_n 0, 1) := by decide +kernel
theorem d_Y_findEmptyNodes_30 : decode prog_6_method_9_code 30 = .ok (.getfield 9, 3) := by decide +kernel
theorem d_Y_findEmptyNodes_33 : decode prog_6_method_9_code 33 = .ok (.iload_n 2, 1) := by decide +kernel
theorem d_Y_findEmptyNodes_34 : decode prog_6_method_9_code 34 = .ok (.aload_n 0, 1) := by decide +kernel
theorem d_Y_findEmptyNodes_35 : decode prog_6_method_9_code 35 = .ok (.iload_n 2, 1) := by decide +kernel
theorem d_Y_findEmptyNodes_36 : decode prog_6_method_9_code 36 = .ok (.invokevirtual 73, 3) := by decide +kernel
theorem d_Y_findEmptyNodes_39 : decode prog_6_method_9_code 39 = .ok (.bastore, 1) := by decide +kernel
theorem d_Y_findEmptyNodes_40 : decode prog_6_method_9_code 40 = .ok (.iinc 2 1, 3) := by decide +kernel
theorem d_Y_findEmptyNodes_43 : decode prog_6_method_9_code 43 = .ok (.goto (-25), 3) := by decide +kernel
theorem d_Y_findEmptyNodes_46 : decode prog_6_method_9_code 46 = .ok (.iinc 1 1, 3) := by decide +kernel
theorem d_Y_findEmptyNodes_49 : decode prog_6_method_9_code 49 = .ok (.goto (-39), 3) := by decide +kernel
theorem d_Y_findEmptyNodes_52 : decode prog_6_method_9_code 52 = .ok (.return_, 1) := by decide +kernel
section RW
variable {p : Program} {l : Launch} {e : Env} {R : Room} {s : State} {m : MethodId} {args : Array Value} {below : List Frame} {meth : Method} {c : Code} {H : Heap} {locs : List Loc} {cells slots : Nat} {Q : State → Prop}
variable {cc : ByteArray} {pc : Nat} {ls : Array Slot} {rest : List Value} {dC : Nat → ClassId} {dI : Nat → Nat → Nat} {q : Nat → Nat} {cA : Nat → ClassId} {σ : MZ_} {H0 : Heap} {A : Nat → Prop}

theorem cw_Y_65 (hts : ∀ w ∈ AW_, w.before args s = true) (hR : rm_Y_unmark.frames + 1 ≤ R.frames ∧ 8 + (3 + 11) + rm_Y_unmark.locals ≤ R.locals) : CallW R s args "StagedParsers$Study" "StagedParsers$Study" 65 y_Y_unmark prog_6_method_8_code 3 none w_Y_unmark rm_Y_unmark 0 0 1 :=
  ⟨callB_of 1 hts (aw_in kw_228) rfl rfl rfl (hts _ kw_4) (hts _ kw_225) ⟨by decide, by decide, by decide +kernel⟩ hR, hts _ kw_227, hts _ ks_1⟩
theorem cw_Y_69 (hts : ∀ w ∈ AW_, w.before args s = true) (hR : rm_G_size.frames + 1 ≤ R.frames ∧ 8 + (1 + 11) + rm_G_size.locals ≤ R.locals) : CallW R s args "StagedParsers$Study" "StagedParsers$Grammar" 69 y_G_size prog_4_method_2_code 1 (some .int) w_G_size rm_G_size 0 0 0 :=
  ⟨callB_of 0 hts (aw_in kw_248) rfl rfl rfl (hts _ kw_2) (hts _ kw_245) ⟨by decide, by decide, by decide +kernel⟩ hR, hts _ kw_246, hts _ kw_247⟩
theorem cw_Y_73 (hts : ∀ w ∈ AW_, w.before args s = true) (hR : rm_Y_emptyByParts.frames + 1 ≤ R.frames ∧ 8 + (4 + 11) + rm_Y_emptyByParts.locals ≤ R.locals) : CallW R s args "StagedParsers$Study" "StagedParsers$Study" 73 y_Y_emptyByParts prog_6_method_10_code 4 (some .boolean) w_Y_emptyByParts rm_Y_emptyByParts 0 0 1 :=
  ⟨callB_of 1 hts (aw_in kw_275) rfl rfl rfl (hts _ kw_4) (hts _ kw_272) ⟨by decide, by decide, by decide +kernel⟩ hR, hts _ kw_274, hts _ ks_5⟩
end RW
def f_Y_findEmptyNodes_L18 (k : MZ_ → Int32 → Option (MZ_)) : Nat → MZ_ → Int32 → Int32 → Option (MZ_)
  | 0, _, _, _ => none
  | N + 1, σ, x1, x2 => (f_G_size σ).bind fun r2 => if r2 ≤ x2 then k σ (x1 + 1)
    else (f_Y_emptyByParts σ x2).bind fun r3 => gd_ x2 80 (st_ (va_up σ 9 (upd (σ 9) x2.toNatClampNeg (vp_nar .boolean r3))) fun σ1 => f_Y_findEmptyNodes_L18 k N σ1 x1 (x2 + 1))
def f_Y_findEmptyNodes_L10 : Nat → MZ_ → Int32 → Option (MZ_)
  | 0, _, _ => none
  | N + 1, σ, x1 => if 6 < x1 then some σ
    else f_Y_findEmptyNodes_L18 (fun σ x1 => f_Y_findEmptyNodes_L10 N σ x1) 100 σ x1 0
def f_Y_findEmptyNodes (σ : MZ_) : Option (MZ_) :=
  (f_Y_unmark_9 σ).bind fun u1 => f_Y_findEmptyNodes_L10 100 u1 0
set_option maxHeartbeats 4000000 in
set_option maxRecDepth 100000 in
theorem c_Y_findEmptyNodes (l : Launch) (dC : Nat → ClassId) (dI : Nat → Nat → Nat) (q : Nat → Nat) (cA : Nat → ClassId) (pt : Nat) (σ : MZ_) (u : MZ_) (h : f_Y_findEmptyNodes σ = some u) : Met l y_Y_findEmptyNodes w_Y_findEmptyNodes rm_Y_findEmptyNodes (va_Pc [.ref (q 8)] (PX_ dC dI q cA pt σ)) (QW_ none (fun H => va_P (dC, dI) cls_ (wX q cA u) H) (AX q)) 0 0 (AX q) := by
  refine Met.ofW (cc := prog_6_method_9_code) (maxL := 3) (ret := none) (by decide) rfl ?_
  intro p e s m args below meth c s₁ B hml hv
  obtain ⟨rfl, hP, hK, hD, hN, hZ⟩ := hv
  have hx := B.exec
  have hb := B.bytes
  have hr := B.returns
  have hts : ∀ w ∈ AW_, w.before _ s = true := fun w h => atoms_spec (ws := w_Y_findEmptyNodes) B.pre w (List.mem_cons_of_mem _ h)
  have hown : s.vm.findClass "StagedParsers$Study" = some m.cls := findClass_of_methodNamed B.named
  have hlocks := B.notSynchronized
  have hS : va_S (AX q) s.heap s.heap [] := va_S.rf
  have hl := lv_entry ([.ref (q 8)]) (n := 3) (Nat.le_of_ble_eq_true rfl)
  rw [lg_entry_eq]
  generalize (lg_sl ([.ref (q 8)]) ++ List.replicate (3 - (lg_sl ([.ref (q 8)])).length) Slot.unset).toArray = ls at hl ⊢
  have hl : lv_has ls 3 [(0, .ref (q 8))] := hl
  have L10 : ∀ (N10 : Nat) (σ : MZ_) (x1 : Int32), f_Y_findEmptyNodes_L10 N10 σ x1 = some u → ∀ (H : Heap) (locs : List Loc) (ls : Array Slot), va_P (dC, dI) cls_ (wX q cA σ) H → va_S (AX q) s.heap H locs → lv_has ls 3 [(0, .ref (q 8)), (1, .int x1)] → W p l e (headSpec w_Y_findEmptyNodes rm_Y_findEmptyNodes).room s m ([.ref (q 8)] : List Value).toArray below meth c H locs 0 0 (MQ below (QW_ none (fun H => va_P (dC, dI) cls_ (wX q cA u) H) (AX q)) ([.ref (q 8)] : List Value).toArray s 0 0 (AX q)) (F0 m 10 ls []) := by
    intro N10
    induction N10 with
    | zero => intro σ x1 h; cases h
    | succ N10 ih10 =>
      intro σ x1 h H locs ls hP hS hl
      have hD : va_D (AX q) (wX q cA σ) := dd_re (wX_f _ _ _ _) hD
      rw [f_Y_findEmptyNodes_L10] at h
      refine lv_iload_n hx hb d_Y_findEmptyNodes_10 rfl (lv_at hl 1 rfl) ?_
      refine lv_bipush (v := 6) hx hb d_Y_findEmptyNodes_11 (by decide) ?_
      refine lv_icmp_gt (tgt := 52) hx hb d_Y_findEmptyNodes_13 rfl (fun hc => ?_) (fun hc => ?_)
      · have h := if_t hc h
        obtain rfl := Option.some.inj h
        exact W.vret hx hb hr (fun t ht hW => ⟨rfl, by rw [ht]; exact hP, hS.F ht⟩) hS.2.2 d_Y_findEmptyNodes_52
      · have h := if_f hc h
        refine lv_iconst (v := 0) hx hb d_Y_findEmptyNodes_16 (by decide) ?_
        refine lv_istore_n hx hb d_Y_findEmptyNodes_17 rfl hl (by decide) rfl (fun ls hl => ?_)
        have hl : lv_has ls 3 [(2, .int 0), (0, .ref (q 8)), (1, .int x1)] := hl
        have L18 : ∀ (N18 : Nat) (σ : MZ_) (x1 : Int32) (x2 : Int32), f_Y_findEmptyNodes_L18 (fun σ x1 => f_Y_findEmptyNodes_L10 N10 σ x1) N18 σ x1 x2 = some u → ∀ (H : Heap) (locs : List Loc) (ls : Array Slot), va_P (dC, dI) cls_ (wX q cA σ) H → va_S (AX q) s.heap H locs → lv_has ls 3 [(0, .ref (q 8)), (1, .int x1), (2, .int x2)] → W p l e (headSpec w_Y_findEmptyNodes rm_Y_findEmptyNodes).room s m ([.ref (q 8)] : List Value).toArray below meth c H locs 0 0 (MQ below (QW_ none (fun H => va_P (dC, dI) cls_ (wX q cA u) H) (AX q)) ([.ref (q 8)] : List Value).toArray s 0 0 (AX q)) (F0 m 18 ls []) := by
          intro N18
          induction N18 with
          | zero => intro σ x1 x2 h; cases h
          | succ N18 ih18 =>
            intro σ x1 x2 h H locs ls hP hS hl
            have hD : va_D (AX q) (wX q cA σ) := dd_re (wX_f _ _ _ _) hD
            rw [f_Y_findEmptyNodes_L18] at h
            refine lv_iload_n hx hb d_Y_findEmptyNodes_18 rfl (lv_at hl 2 rfl) ?_
            refine lv_aload_n hx hb d_Y_findEmptyNodes_19 rfl (lv_at hl 0 rfl) ?_
            refine gf_Y_28 hx hb hts hown hK hP d_Y_findEmptyNodes_20 ?_
            obtain ⟨r2, hcl, h⟩ := bd_some h
            refine cx_read (va_runV (As := []) (rest := [.int x2]) ⟨hx, hb, hml, hown, hts⟩ (c_G_size l dC dI q cA pt σ _ hcl) (cw_Y_69 hts ⟨Nat.le_of_ble_eq_true rfl, Nat.le_of_ble_eq_true rfl⟩) ⟨pxX_B, va_recv hK hP (ci := 1) (q0 := 1) rfl rfl, pxX_U hP hK hD hN hZ hS⟩ rfl rfl hl.1 rfl (lv_room (Nat.le_of_ble_eq_true rfl)) d_Y_findEmptyNodes_23 ⟨Nat.zero_le _, Nat.zero_le _⟩) ?_
            refine lv_icmp_ge (tgt := 46) hx hb d_Y_findEmptyNodes_26 rfl (fun hc => ?_) (fun hc => ?_)
            · have h := if_t hc h
              refine lv_iinc (v := x1 + 1) hx hb d_Y_findEmptyNodes_46 hl (k := 1) rfl rfl (by decide) rfl (fun ls hl => ?_)
              have hl : lv_has ls 3 [(1, .int (x1 + 1)), (0, .ref (q 8)), (2, .int x2)] := hl
              refine lv_goto (tgt := 10) hx hb d_Y_findEmptyNodes_49 rfl ?_
              exact ih10 _ _ h _ _ _ hP hS (lv_sub hl [1, 0] rfl)
            · have h := if_f hc h
              refine lv_aload_n hx hb d_Y_findEmptyNodes_29 rfl (lv_at hl 0 rfl) ?_
              refine gf_Y_9 hx hb hts hown hK hP d_Y_findEmptyNodes_30 ?_
              refine lv_iload_n hx hb d_Y_findEmptyNodes_33 rfl (lv_at hl 2 rfl) ?_
              refine lv_aload_n hx hb d_Y_findEmptyNodes_34 rfl (lv_at hl 0 rfl) ?_
              refine lv_iload_n hx hb d_Y_findEmptyNodes_35 rfl (lv_at hl 2 rfl) ?_
              obtain ⟨r3, hcl, h⟩ := bd_some h
              refine cx_read (va_runV (As := [.int x2]) (rest := [.int x2, .ref (q 9)]) ⟨hx, hb, hml, hown, hts⟩ (c_Y_emptyByParts l dC dI q cA pt σ x2 _ hcl) (cw_Y_73 hts ⟨Nat.le_of_ble_eq_true rfl, Nat.le_of_ble_eq_true rfl⟩) ⟨pxX_B, va_recv hK hP (ci := 2) (q0 := 8) rfl rfl, pxX_U hP hK hD hN hZ hS⟩ rfl rfl hl.1 rfl (lv_room (Nat.le_of_ble_eq_true rfl)) d_Y_findEmptyNodes_36 ⟨Nat.zero_le _, Nat.zero_le _⟩) ?_
              obtain ⟨hgd, h⟩ := gd_some h
              refine as_X_9 hx hb hK hP hD hS hgd d_Y_findEmptyNodes_39 (fun H locs hP hS => ?_)
              obtain ⟨σ1, eσ1, h⟩ := st_some h
              rw [← eσ1] at hP
              have hD : va_D (AX q) (wX q cA σ1) := dd_re (wX_f _ _ _ _) hD
              refine lv_iinc (v := x2 + 1) hx hb d_Y_findEmptyNodes_40 hl (k := 2) rfl rfl (by decide) rfl (fun ls hl => ?_)
              have hl : lv_has ls 3 [(2, .int (x2 + 1)), (0, .ref (q 8)), (1, .int x1)] := hl
              refine lv_goto (tgt := 18) hx hb d_Y_findEmptyNodes_43 rfl ?_
              exact ih18 _ _ _ h _ _ _ hP hS (lv_sub hl [1, 2, 0] rfl)
        exact L18 _ _ _ _ h _ _ _ hP hS (lv_sub hl [1, 2, 0] rfl)
  rw [f_Y_findEmptyNodes] at h
  refine lv_aload_n hx hb d_Y_findEmptyNodes_0 rfl (lv_at hl 0 rfl) ?_
  refine lv_aload_n hx hb d_Y_findEmptyNodes_1 rfl (lv_at hl 0 rfl) ?_
  refine gf_Y_9 hx hb hts hown hK hP d_Y_findEmptyNodes_2 ?_
  obtain ⟨u1, hcl, h⟩ := bd_some h
  refine cx_wrv (va_runV (As := [.ref (q 9)]) (rest := []) ⟨hx, hb, hml, hown, hts⟩ (c_Y_unmark_9 l dC dI q cA pt σ _ hcl) (cw_Y_65 hts ⟨Nat.le_of_ble_eq_true rfl, Nat.le_of_ble_eq_true rfl⟩) ⟨pxX_B, va_recv hK hP (ci := 2) (q0 := 8) rfl rfl, pxX_U hP hK hD hN hZ hS⟩ rfl rfl hl.1 rfl (lv_room (Nat.le_of_ble_eq_true rfl)) d_Y_findEmptyNodes_5 ⟨Nat.zero_le _, Nat.zero_le _⟩) hS (fun _ h => h) (fun H locs hP hS => ?_)
  have hD : va_D (AX q) (wX q cA u1) := dd_re (wX_f _ _ _ _) hD
  refine lv_iconst (v := 0) hx hb d_Y_findEmptyNodes_8 (by decide) ?_
  refine lv_istore_n hx hb d_Y_findEmptyNodes_9 rfl hl (by decide) rfl (fun ls hl => ?_)
  have hl : lv_has ls 3 [(1, .int 0), (0, .ref (q 8))] := hl
  exact L10 _ _ _ h _ _ _ hP hS (lv_sub hl [1, 0] rfl)
def y_Y_beginsByParts : MethodName := ⟨"StagedParsers$Study", "beginsByParts", "(II)Z"⟩
def w_Y_beginsByParts : List Cond := .code y_Y_beginsByParts prog_6_method_12_code 5 (some .boolean) :: AW_
def rm_Y_beginsByParts : Room := { frames := 2, cells := 0, slots := 0, locals := 43 }
theorem d_Y_beginsByParts_0 : decode prog_6_method_12_code 0 = .ok (.aload_n 0, 1) := by decide +kernel
theorem d_Y_beginsByParts_1 : decode prog_6_method_12_code 1 = .ok (.getfield 28, 3) := by decide +kernel
theorem d_Y_beginsByParts_4 : decode prog_6_method_12_code 4 = .ok (.iload_n 1, 1) := by decide +kernel
theorem d_Y_beginsByParts_5 : decode prog_6_method_12_code 5 = .ok (.invokevirtual 76, 3) := by decide +kernel
theorem d_Y_beginsByParts_8 : decode prog_6_method_12_code 8 = .ok (.istore_n 3, 1) := by decide +kernel
theorem d_Y_beginsByParts_9 : decode prog_6_method_12_code 9 = .ok (.aload_n 0, 1) := by decide +kernel
theorem d_Y_beginsByParts_10 : decode prog_6_method_12_code 10 = .ok (.getfield 28, 3) := by decide +kernel
theorem d_Y_beginsByParts_13 : decode prog_6_method_12_code 13 = .ok (.iload_n 1, 1) := by decide +kernel
theorem d_Y_beginsByParts_14 : decode prog_6_method_12_code 14 = .ok (.invokevirtual 80, 3) := by decide +kernel
theorem d_Y_beginsByParts_17 : decode prog_6_method_12_code 17 = .ok (.istore 4, 2) := by decide +kernel
theorem d_Y_beginsByParts_19 : decode prog_6_method_12_code 19 = .ok (.aload_n 0, 1) := by decide +kernel
theorem d_Y_beginsByParts_20 : decode prog_6_method_12_code 20 = .ok (.getfield 28, 3) := by decide +kernel
theorem d_Y_beginsByParts_23 : decode prog_6_method_12_code 23 = .ok (.iload_n 1, 1) := by decide +kernel
theorem d_Y_beginsByParts_24 : decode prog_6_method_12_code 24 = .ok (.invokevirtual 83, 3) := by decide +kernel
theorem d_Y_beginsByParts_27 : decode prog_6_method_12_code 27 = .ok (.tableswitch 190 1 12 #[61, 72, 190, 89, 132, 163, 190, 190, 163, 89, 173, 163], 61) := by decide +kernel
theorem d_Y_beginsByParts_88 : decode prog_6_method_12_code 88 = .ok (.iload_n 2, 1) := by decide +kernel
theorem d_Y_beginsByParts_89 : decode prog_6_method_12_code 89 = .ok (.iload_n 3, 1) := by decide +kernel
theorem d_Y_beginsByParts_90 : decode prog_6_method_12_code 90 = .ok (.if_icmp .ne 7, 3) := by decide +kernel
theorem d_Y_beginsByParts_93 : decode prog_6_method_12_code 93 = .ok (.iconst 1, 1) := by decide +kernel
theorem d_Y_beginsByParts_94 : decode prog_6_method_12_code 94 = .ok (.goto 4, 3) := by decide +kernel
theorem d_Y_beginsByParts_97 : decode prog_6_method_12_code 97 = .ok (.iconst 0, 1) := by decide +kernel
theorem d_Y_beginsByParts_98 : decode prog_6_method_12_code 98 = .ok (.ireturn, 1) := by decide +kernel
theorem d_Y_beginsByParts_99 : decode prog_6_method_12_code 99 = .ok (.iload_n 2, 1) := by decide +kernel
theorem d_Y_beginsByParts_100 : decode prog_6_method_12_code 100 = .ok (.iload_n 3, 1) := by decide +kernel
theorem d_Y_beginsByParts_101 : decode prog_6_method_12_code 101 = .ok (.if_icmp .lt 13, 3) := by decide +kernel
theorem d_Y_beginsByParts_104 : decode prog_6_method_12_code 104 = .ok (.iload_n 2, 1) := by decide +kernel
theorem d_Y_beginsByParts_105 : decode prog_6_method_12_code 105 = .ok (.iload 4, 2) := by decide +kernel
theorem d_Y_beginsByParts_107 : decode prog_6_method_12_code 107 = .ok (.if_icmp .gt 7, 3) := by decide +kernel
theorem d_Y_beginsByParts_110 : decode prog_6_method_12_code 110 = .ok (.iconst 1, 1) := by decide +kernel
theorem d_Y_beginsByParts_111 : decode prog_6_method_12_code 111 = .ok (.goto 4, 3) := by decide +kernel
theorem d_Y_beginsByParts_114 : decode prog_6_method_12_code 114 = .ok (.iconst 0, 1) := by decide +kernel
theorem d_Y_beginsByParts_115 : decode prog_6_method_12_code 115 = .ok (.ireturn, 1) := by decide +kernel
theorem d_Y_beginsByParts_116 : decode prog_6_method_12_code 116 = .ok (.aload_n 0, 1) := by decide +kernel
theorem d_Y_beginsByParts_117 : decode prog_6_method_12_code 117 = .ok (.aload_n 0, 1) := by decide +kernel
theorem d_Y_beginsByParts_118 : decode prog_6_method_12_code 118 = .ok (.getfield 15, 3) := by decide +kernel
theorem d_Y_beginsByParts_121 : decode prog_6_method_12_code 121 = .ok (.iload_n 3, 1) := by decide +kernel
theorem d_Y_beginsByParts_122 : decode prog_6_method_12_code 122 = .ok (.invokevirtual 35, 3) := by decide +kernel
theorem d_Y_beginsByParts_125 : decode prog_6_method_12_code 125 = .ok (.ifCond .ne 28, 3) := by decide +kernel
theorem d_Y_beginsByParts_128 : decode prog_6_method_12_code 128 = .ok (.aload_n 0, 1) := by decide +kernel
theorem d_Y_beginsByParts_129 : decode prog_6_method_12_code 129 = .ok (.aload_n 0, 1) := by decide +kernel
theorem d_Y_beginsByParts_130 : decode prog_6_method_12_code 130 = .ok (.getfield 9, 3) := by decide +kernel
theorem d_Y_beginsByParts_133 : decode prog_6_method_12_code 133 = .ok (.iload_n 3, 1) := by decide +kernel
theorem d_Y_beginsByParts_134 : decode prog_6_method_12_code 134 = .ok (.invokevirtual 35, 3) := by decide +kernel
theorem d_Y_beginsByParts_137 : decode prog_6_method_12_code 137 = .ok (.ifCond .eq 20, 3) := by decide +kernel
theorem d_Y_beginsByParts_140 : decode prog_6_method_12_code 140 = .ok (.aload_n 0, 1) := by decide +kernel
theorem d_Y_beginsByParts_141 : decode prog_6_method_12_code 141 = .ok (.aload_n 0, 1) := by decide +kernel
theorem d_Y_beginsByParts_142 : decode prog_6_method_12_code 142 = .ok (.getfield 15, 3) := by decide +kernel
theorem d_Y_beginsByParts_145 : decode prog_6_method_12_code 145 = .ok (.iload 4, 2) := by decide +kernel
theorem d_Y_beginsByParts_147 : decode prog_6_method_12_code 147 = .ok (.invokevirtual 35, 3) := by decide +kernel
theorem d_Y_beginsByParts_150 : decode prog_6_method_12_code 150 = .ok (.ifCond .eq 7, 3) := by decide +kernel
theorem d_Y_beginsByParts_153 : decode prog_6_method_12_code 153 = .ok (.iconst 1, 1) := by decide +kernel
theorem d_Y_beginsByParts_154 : decode prog_6_method_12_code 154 = .ok (.goto 4, 3) := by decide +kernel
theorem d_Y_beginsByParts_157 : decode prog_6_method_12_code 157 = .ok (.iconst 0, 1) := by decide +kernel
theorem d_Y_beginsByParts_158 : decode prog_6_method_12_code 158 = .ok (.ireturn, 1) := by decide +kernel
theorem d_Y_beginsByParts_159 : decode prog_6_method_12_code 159 = .ok (.aload_n 0, 1) := by decide +kernel
theorem d_Y_beginsByParts_160 : decode prog_6_method_12_code 160 = .ok (.aload_n 0, 1) := by decide +kernel
theorem d_Y_beginsByParts_161 : decode prog_6_method_12_code 161 = .ok (.getfield 15, 3) := by decide +kernel
theorem d_Y_beginsByParts_164 : decode prog_6_method_12_code 164 = .ok (.iload_n 3, 1) := by decide +kernel
theorem d_Y_beginsByParts_165 : decode prog_6_method_12_code 165 = .ok (.invokevirtual 35, 3) := by decide +kernel
theorem d_Y_beginsByParts_168 : decode prog_6_method_12_code 168 = .ok (.ifCond .ne 16, 3) := by decide +kernel
theorem d_Y_beginsByParts_171 : decode prog_6_method_12_code 171 = .ok (.aload_n 0, 1) := by decide +kernel
theorem d_Y_beginsByParts_172 : decode prog_6_method_12_code 172 = .ok (.aload_n 0, 1) := by decide +kernel
theorem d_Y_beginsByParts_173 : decode prog_6_method_12_code 173 = .ok (.getfield 15, 3) := by decide +kernel
theorem d_Y_beginsByParts_176 : decode prog_6_method_12_code 176 = .ok (.iload 4, 2) := by decide +kernel
theorem d_Y_beginsByParts_178 : decode prog_6_method_12_code 178 = .ok (.invokevirtual 35, 3) := by decide +kernel
theorem d_Y_beginsByParts_181 : decode prog_6_method_12_code 181 = .ok (.ifCond .eq 7, 3) := by decide +kernel
theorem d_Y_beginsByParts_184 : decode prog_6_method_12_code 184 = .ok (.iconst 1, 1) := by decide +kernel
theorem d_Y_beginsByParts_185 : decode prog_6_method_12_code 185 = .ok (.goto 4, 3) := by decide +kernel
theorem d_Y_beginsByParts_188 : decode prog_6_method_12_code 188 = .ok (.iconst 0, 1) := by decide +kernel
theorem d_Y_beginsByParts_189 : decode prog_6_method_12_code 189 = .ok (.ireturn, 1) := by decide +kernel
theorem d_Y_beginsByParts_190 : decode prog_6_method_12_code 190 = .ok (.aload_n 0, 1) := by decide +kernel
theorem d_Y_beginsByParts_191 : decode prog_6_method_12_code 191 = .ok (.aload_n 0, 1) := by decide +kernel
theorem d_Y_beginsByParts_192 : decode prog_6_method_12_code 192 = .ok (.getfield 15, 3) := by decide +kernel
theorem d_Y_beginsByParts_195 : decode prog_6_method_12_code 195 = .ok (.iload_n 3, 1) := by decide +kernel
theorem d_Y_beginsByParts_196 : decode prog_6_method_12_code 196 = .ok (.invokevirtual 35, 3) := by decide +kernel
theorem d_Y_beginsByParts_199 : decode prog_6_method_12_code 199 = .ok (.ireturn, 1) := by decide +kernel
theorem d_Y_beginsByParts_200 : decode prog_6_method_12_code 200 = .ok (.aload_n 0, 1) := by decide +kernel
theorem d_Y_beginsByParts_201 : decode prog_6_method_12_code 201 = .ok (.aload_n 0, 1) := by decide +kernel
theorem d_Y_beginsByParts_202 : decode prog_6_method_12_code 202 = .ok (.getfield 15, 3) := by decide +kernel
theorem d_Y_beginsByParts_205 : decode prog_6_method_12_code 205 = .ok (.aload_n 0, 1) := by decide +kernel
theorem d_Y_beginsByParts_206 : decode prog_6_method_12_code 206 = .ok (.getfield 28, 3) := by decide +kernel
theorem d_Y_beginsByParts_209 : decode prog_6_method_12_code 209 = .ok (.iload_n 3, 1) := by decide +kernel
theorem d_Y_beginsByParts_210 : decode prog_6_method_12_code 210 = .ok (.invokevirtual 86, 3) := by decide +kernel
theorem d_Y_beginsByParts_213 : decode prog_6_method_12_code 213 = .ok (.invokevirtual 35, 3) := by decide +kernel
theorem d_Y_beginsByParts_216 : decode prog_6_method_12_code 216 = .ok (.ireturn, 1) := by decide +kernel
theorem d_Y_beginsByParts_217 : decode prog_6_method_12_code 217 = .ok (.iconst 0, 1) := by decide +kernel
theorem d_Y_beginsByParts_218 : decode prog_6_method_12_code 218 = .ok (.ireturn, 1) := by decide +kernel
section RW
variable {p : Program} {l : Launch} {e : Env} {R : Room} {s : State} {m : MethodId} {args : Array Value} {below : List Frame} {meth : Method} {c : Code} {H : Heap} {locs : List Loc} {cells slots : Nat} {Q : State → Prop}
variable {cc : ByteArray} {pc : Nat} {ls : Array Slot} {rest : List Value} {dC : Nat → ClassId} {dI : Nat → Nat → Nat} {q : Nat → Nat} {cA : Nat → ClassId} {σ : MZ_} {H0 : Heap} {A : Nat → Prop}

theorem gf_Y_15 (hx : p.tables.exec = Jvm.exec) (hb : c.code = cc) (hts : ∀ w ∈ AW_, w.before args s = true) (hown : s.vm.findClass "StagedParsers$Study" = some m.cls) (hK : va_K (dC, dI) cls_ (tyX cA) s) (hP : va_P (dC, dI) cls_ (wX q cA σ) H) (hdg : decode cc pc = .ok (.getfield 15, 3)) (kk : W p l e R s m args below meth c H locs cells slots Q (F0 m (pc + 3) ls (.ref (q 10) :: rest))) : W p l e R s m args below meth c H locs cells slots Q (F0 m pc ls (.ref (q 8) :: rest)) :=
  va_get (D := (dC, dI)) (cl := cls_) (ci := 2) (v := .ref (q 10)) (ws := wX q cA σ) (tys := tyX cA) (C := Rz_Y) (T := Tz_Y) (N := 6) hx hb hts uz_Y hown hK hP 8 rfl rfl 2 (by decide) (hts _ kw_66) (fun _ h9 => h9) rfl hdg kk
end RW
def f_Y_beginsByParts (σ : MZ_) (a1 : Int32) (a2 : Int32) : Option (Int32) :=
  (f_G_a σ a1).bind fun r1 => (f_G_b σ a1).bind fun r2 => (f_G_kind σ a1).bind fun r3 => if r3 = 1 then if a2 = r1 then some 1
    else some 0
  else if r3 = 2 then if a2 < r1 then some 0
    else if r2 < a2 then some 0
    else some 1
  else if r3 = 3 then some 0
  else if r3 = 4 then (f_Y_marked_10 σ r1).bind fun r4 => if r4 = 0 then (f_Y_marked_9 σ r1).bind fun r5 => if r5 = 0 then some 0
      else (f_Y_marked_10 σ r2).bind fun r6 => if r6 = 0 then some 0
      else some 1
    else some 1
  else if r3 = 5 then (f_Y_marked_10 σ r1).bind fun r7 => if r7 = 0 then (f_Y_marked_10 σ r2).bind fun r8 => if r8 = 0 then some 0
      else some 1
    else some 1
  else if r3 = 6 then (f_Y_marked_10 σ r1).bind fun r9 => bo_ r9 (some r9)
  else if r3 = 7 then some 0
  else if r3 = 8 then some 0
  else if r3 = 9 then (f_Y_marked_10 σ r1).bind fun r10 => bo_ r10 (some r10)
  else if r3 = 10 then (f_Y_marked_10 σ r1).bind fun r11 => if r11 = 0 then (f_Y_marked_9 σ r1).bind fun r12 => if r12 = 0 then some 0
      else (f_Y_marked_10 σ r2).bind fun r13 => if r13 = 0 then some 0
      else some 1
    else some 1
  else if r3 = 11 then (f_G_body σ r1).bind fun r14 => (f_Y_marked_10 σ r14).bind fun r15 => bo_ r15 (some r15)
  else if r3 = 12 then (f_Y_marked_10 σ r1).bind fun r16 => bo_ r16 (some r16)
  else some 0
set_option maxHeartbeats 4000000 in
set_option maxRecDepth 100000 in
theorem c_Y_beginsByParts (l : Launch) (dC : Nat → ClassId) (dI : Nat → Nat → Nat) (q : Nat → Nat) (cA : Nat → ClassId) (pt : Nat) (σ : MZ_) (a1 : Int32) (a2 : Int32) (u : Int32) (h : f_Y_beginsByParts σ a1 a2 = some u) : Met l y_Y_beginsByParts w_Y_beginsByParts rm_Y_beginsByParts (va_Pc [.ref (q 8), .int a1, .int a2] (PX_ dC dI q cA pt σ)) (QcRead u) 0 0 (fun _ => False) := by
  refine Met.ofW (cc := prog_6_method_12_code) (maxL := 5) (ret := (some .boolean)) (by decide) rfl ?_
  intro p e s m args below meth c s₁ B hml hv
  obtain ⟨rfl, hP, hK, hD, hN, hZ⟩ := hv
  have hx := B.exec
  have hb := B.bytes
  have hr := B.returns
  have hts : ∀ w ∈ AW_, w.before _ s = true := fun w h => atoms_spec (ws := w_Y_beginsByParts) B.pre w (List.mem_cons_of_mem _ h)
  have hown : s.vm.findClass "StagedParsers$Study" = some m.cls := findClass_of_methodNamed B.named
  have hlocks := B.notSynchronized
  have hS : va_S (AX q) s.heap s.heap [] := va_S.rf
  have hl := lv_entry ([.ref (q 8), .int a1, .int a2]) (n := 5) (Nat.le_of_ble_eq_true rfl)
  rw [lg_entry_eq]
  generalize (lg_sl ([.ref (q 8), .int a1, .int a2]) ++ List.replicate (5 - (lg_sl ([.ref (q 8), .int a1, .int a2])).length) Slot.unset).toArray = ls at hl ⊢
  have hl : lv_has ls 5 [(0, .ref (q 8)), (1, .int a1), (2, .int a2)] := hl
  rw [f_Y_beginsByParts] at h
  refine lv_aload_n hx hb d_Y_beginsByParts_0 rfl (lv_at hl 0 rfl) ?_
  refine gf_Y_28 hx hb hts hown hK hP d_Y_beginsByParts_1 ?_
  refine lv_iload_n hx hb d_Y_beginsByParts_4 rfl (lv_at hl 1 rfl) ?_
  obtain ⟨r1, hcl, h⟩ := bd_some h
  refine cx_read (va_runV (As := [.int a1]) (rest := []) ⟨hx, hb, hml, hown, hts⟩ (c_G_a l dC dI q cA pt σ a1 _ hcl) (cw_Y_76 hts ⟨Nat.le_of_ble_eq_true rfl, Nat.le_of_ble_eq_true rfl⟩) ⟨pxX_B, va_recv hK hP (ci := 1) (q0 := 1) rfl rfl, pxX_U hP hK hD hN hZ hS⟩ rfl rfl hl.1 rfl (lv_room (Nat.le_of_ble_eq_true rfl)) d_Y_beginsByParts_5 ⟨Nat.zero_le _, Nat.zero_le _⟩) ?_
  refine lv_istore_n hx hb d_Y_beginsByParts_8 rfl hl (by decide) rfl (fun ls hl => ?_)
  have hl : lv_has ls 5 [(3, .int r1), (0, .ref (q 8)), (1, .int a1), (2, .int a2)] := hl
  refine lv_aload_n hx hb d_Y_beginsByParts_9 rfl (lv_at hl 1 rfl) ?_
  refine gf_Y_28 hx hb hts hown hK hP d_Y_beginsByParts_10 ?_
  refine lv_iload_n hx hb d_Y_beginsByParts_13 rfl (lv_at hl 2 rfl) ?_
  obtain ⟨r2, hcl, h⟩ := bd_some h
  refine cx_read (va_runV (As := [.int a1]) (rest := []) ⟨hx, hb, hml, hown, hts⟩ (c_G_b l dC dI q cA pt σ a1 _ hcl) (cw_Y_80 hts ⟨Nat.le_of_ble_eq_true rfl, Nat.le_of_ble_eq_true rfl⟩) ⟨pxX_B, va_recv hK hP (ci := 1) (q0 := 1) rfl rfl, pxX_U hP hK hD hN hZ hS⟩ rfl rfl hl.1 rfl (lv_room (Nat.le_of_ble_eq_true rfl)) d_Y_beginsByParts_14 ⟨Nat.zero_le _, Nat.zero_le _⟩) ?_
  refine lv_istore hx hb d_Y_beginsByParts_17 hl (by decide) rfl (fun ls hl => ?_)
  have hl : lv_has ls 5 [(4, .int r2), (3, .int r1), (0, .ref (q 8)), (1, .int a1), (2, .int a2)] := hl
  refine lv_aload_n hx hb d_Y_beginsByParts_19 rfl (lv_at hl 2 rfl) ?_
  refine gf_Y_28 hx hb hts hown hK hP d_Y_beginsByParts_20 ?_
  refine lv_iload_n hx hb d_Y_beginsByParts_23 rfl (lv_at hl 3 rfl) ?_
  obtain ⟨r3, hcl, h⟩ := bd_some h
  refine cx_read (va_runV (As := [.int a1]) (rest := []) ⟨hx, hb, hml, hown, hts⟩ (c_G_kind l dC dI q cA pt σ a1 _ hcl) (cw_Y_83 hts ⟨Nat.le_of_ble_eq_true rfl, Nat.le_of_ble_eq_true rfl⟩) ⟨pxX_B, va_recv hK hP (ci := 1) (q0 := 1) rfl rfl, pxX_U hP hK hD hN hZ hS⟩ rfl rfl hl.1 rfl (lv_room (Nat.le_of_ble_eq_true rfl)) d_Y_beginsByParts_24 ⟨Nat.zero_le _, Nat.zero_le _⟩) ?_
  by_cases hc0 : r3 = 1
  · have h := if_t hc0 h
    refine sw_in (tgt := 88) hx hb d_Y_beginsByParts_27 hc0 (by decide) (by decide) rfl rfl ?_
    refine lv_iload_n hx hb d_Y_beginsByParts_88 rfl (lv_at hl 4 rfl) ?_
    refine lv_iload_n hx hb d_Y_beginsByParts_89 rfl (lv_at hl 1 rfl) ?_
    refine lv_icmp_ne (tgt := 97) hx hb d_Y_beginsByParts_90 rfl (fun hc => ?_) (fun hc => ?_)
    · have h := if_f hc h
      refine lv_iconst (v := 0) hx hb d_Y_beginsByParts_97 (by decide) ?_
      obtain rfl := Option.some.inj h
      exact W.zret hx hb hr rfl (fun t ht hW => ⟨rfl, ht⟩) (fun _ h9 => nomatch h9) d_Y_beginsByParts_98
    · have h := if_t hc h
      refine lv_iconst (v := 1) hx hb d_Y_beginsByParts_93 (by decide) ?_
      refine lv_goto (tgt := 98) hx hb d_Y_beginsByParts_94 rfl ?_
      obtain rfl := Option.some.inj h
      exact W.zret hx hb hr rfl (fun t ht hW => ⟨rfl, ht⟩) (fun _ h9 => nomatch h9) d_Y_beginsByParts_98
  have h := if_f hc0 h
  by_cases hc1 : r3 = 2
  · have h := if_t hc1 h
    refine sw_in (tgt := 99) hx hb d_Y_beginsByParts_27 hc1 (by decide) (by decide) rfl rfl ?_
    refine lv_iload_n hx hb d_Y_beginsByParts_99 rfl (lv_at hl 4 rfl) ?_
    refine lv_iload_n hx hb d_Y_beginsByParts_100 rfl (lv_at hl 1 rfl) ?_
    refine lv_icmp_lt (tgt := 114) hx hb d_Y_beginsByParts_101 rfl (fun hc => ?_) (fun hc => ?_)
    · have h := if_t hc h
      refine lv_iconst (v := 0) hx hb d_Y_beginsByParts_114 (by decide) ?_
      obtain rfl := Option.some.inj h
      exact W.zret hx hb hr rfl (fun t ht hW => ⟨rfl, ht⟩) (fun _ h9 => nomatch h9) d_Y_beginsByParts_115
    · have h := if_f hc h
      refine lv_iload_n hx hb d_Y_beginsByParts_104 rfl (lv_at hl 4 rfl) ?_
      refine lv_iload hx hb d_Y_beginsByParts_105 (lv_at hl 0 rfl) ?_
      refine lv_icmp_gt (tgt := 114) hx hb d_Y_beginsByParts_107 rfl (fun hc => ?_) (fun hc => ?_)
      · have h := if_t hc h
        refine lv_iconst (v := 0) hx hb d_Y_beginsByParts_114 (by decide) ?_
        obtain rfl := Option.some.inj h
        exact W.zret hx hb hr rfl (fun t ht hW => ⟨rfl, ht⟩) (fun _ h9 => nomatch h9) d_Y_beginsByParts_115
      · have h := if_f hc h
        refine lv_iconst (v := 1) hx hb d_Y_beginsByParts_110 (by decide) ?_
        refine lv_goto (tgt := 115) hx hb d_Y_beginsByParts_111 rfl ?_
        obtain rfl := Option.some.inj h
        exact W.zret hx hb hr rfl (fun t ht hW => ⟨rfl, ht⟩) (fun _ h9 => nomatch h9) d_Y_beginsByParts_115
  have h := if_f hc1 h
  by_cases hc2 : r3 = 3
  · have h := if_t hc2 h
    refine sw_in (tgt := 217) hx hb d_Y_beginsByParts_27 hc2 (by decide) (by decide) rfl rfl ?_
    refine lv_iconst (v := 0) hx hb d_Y_beginsByParts_217 (by decide) ?_
    obtain rfl := Option.some.inj h
    exact W.zret hx hb hr rfl (fun t ht hW => ⟨rfl, ht⟩) (fun _ h9 => nomatch h9) d_Y_beginsByParts_218
  have h := if_f hc2 h
  by_cases hc3 : r3 = 4
  · have h := if_t hc3 h
    refine sw_in (tgt := 116) hx hb d_Y_beginsByParts_27 hc3 (by decide) (by decide) rfl rfl ?_
    refine lv_aload_n hx hb d_Y_beginsByParts_116 rfl (lv_at hl 2 rfl) ?_
    refine lv_aload_n hx hb d_Y_beginsByParts_117 rfl (lv_at hl 2 rfl) ?_
    refine gf_Y_15 hx hb hts hown hK hP d_Y_beginsByParts_118 ?_
    refine lv_iload_n hx hb d_Y_beginsByParts_121 rfl (lv_at hl 1 rfl) ?_
    obtain ⟨r4, hcl, h⟩ := bd_some h
    refine cx_read (va_runV (As := [.ref (q 10), .int r1]) (rest := []) ⟨hx, hb, hml, hown, hts⟩ (c_Y_marked_10 l dC dI q cA pt σ r1 _ hcl) (cw_Y_35 hts ⟨Nat.le_of_ble_eq_true rfl, Nat.le_of_ble_eq_true rfl⟩) ⟨pxX_B, va_recv hK hP (ci := 2) (q0 := 8) rfl rfl, pxX_U hP hK hD hN hZ hS⟩ rfl rfl hl.1 rfl (lv_room (Nat.le_of_ble_eq_true rfl)) d_Y_beginsByParts_122 ⟨Nat.zero_le _, Nat.zero_le _⟩) ?_
    refine lv_if_ne (tgt := 153) hx hb d_Y_beginsByParts_125 rfl (fun hc => ?_) (fun hc => ?_)
    · have h := if_f hc h
      refine lv_iconst (v := 1) hx hb d_Y_beginsByParts_153 (by decide) ?_
      refine lv_goto (tgt := 158) hx hb d_Y_beginsByParts_154 rfl ?_
      obtain rfl := Option.some.inj h
      exact W.zret hx hb hr rfl (fun t ht hW => ⟨rfl, ht⟩) (fun _ h9 => nomatch h9) d_Y_beginsByParts_158
    · have h := if_t hc h
      refine lv_aload_n hx hb d_Y_beginsByParts_128 rfl (lv_at hl 2 rfl) ?_
      refine lv_aload_n hx hb d_Y_beginsByParts_129 rfl (lv_at hl 2 rfl) ?_
      refine gf_Y_9 hx hb hts hown hK hP d_Y_beginsByParts_130 ?_
      refine lv_iload_n hx hb d_Y_beginsByParts_133 rfl (lv_at hl 1 rfl) ?_
      obtain ⟨r5, hcl, h⟩ := bd_some h
      refine cx_read (va_runV (As := [.ref (q 9), .int r1]) (rest := []) ⟨hx, hb, hml, hown, hts⟩ (c_Y_marked_9 l dC dI q cA pt σ r1 _ hcl) (cw_Y_35 hts ⟨Nat.le_of_ble_eq_true rfl, Nat.le_of_ble_eq_true rfl⟩) ⟨pxX_B, va_recv hK hP (ci := 2) (q0 := 8) rfl rfl, pxX_U hP hK hD hN hZ hS⟩ rfl rfl hl.1 rfl (lv_room (Nat.le_of_ble_eq_true rfl)) d_Y_beginsByParts_134 ⟨Nat.zero_le _, Nat.zero_le _⟩) ?_
      refine lv_if_eq (tgt := 157) hx hb d_Y_beginsByParts_137 rfl (fun hc => ?_) (fun hc => ?_)
      · have h := if_t hc h
        refine lv_iconst (v := 0) hx hb d_Y_beginsByParts_157 (by decide) ?_
        obtain rfl := Option.some.inj h
        exact W.zret hx hb hr rfl (fun t ht hW => ⟨rfl, ht⟩) (fun _ h9 => nomatch h9) d_Y_beginsByParts_158
      · have h := if_f hc h
        refine lv_aload_n hx hb d_Y_beginsByParts_140 rfl (lv_at hl 2 rfl) ?_
        refine lv_aload_n hx hb d_Y_beginsByParts_141 rfl (lv_at hl 2 rfl) ?_
        refine gf_Y_15 hx hb hts hown hK hP d_Y_beginsByParts_142 ?_
        refine lv_iload hx hb d_Y_beginsByParts_145 (lv_at hl 0 rfl) ?_
        obtain ⟨r6, hcl, h⟩ := bd_some h
        refine cx_read (va_runV (As := [.ref (q 10), .int r2]) (rest := []) ⟨hx, hb, hml, hown, hts⟩ (c_Y_marked_10 l dC dI q cA pt σ r2 _ hcl) (cw_Y_35 hts ⟨Nat.le_of_ble_eq_true rfl, Nat.le_of_ble_eq_true rfl⟩) ⟨pxX_B, va_recv hK hP (ci := 2) (q0 := 8) rfl rfl, pxX_U hP hK hD hN hZ hS⟩ rfl rfl hl.1 rfl (lv_room (Nat.le_of_ble_eq_true rfl)) d_Y_beginsByParts_147 ⟨Nat.zero_le _, Nat.zero_le _⟩) ?_
        refine lv_if_eq (tgt := 157) hx hb d_Y_beginsByParts_150 rfl (fun hc => ?_) (fun hc => ?_)
        · have h := if_t hc h
          refine lv_iconst (v := 0) hx hb d_Y_beginsByParts_157 (by decide) ?_
          obtain rfl := Option.some.inj h
          exact W.zret hx hb hr rfl (fun t ht hW => ⟨rfl, ht⟩) (fun _ h9 => nomatch h9) d_Y_beginsByParts_158
        · have h := if_f hc h
          refine lv_iconst (v := 1) hx hb d_Y_beginsByParts_153 (by decide) ?_
          refine lv_goto (tgt := 158) hx hb d_Y_beginsByParts_154 rfl ?_
          obtain rfl := Option.some.inj h
          exact W.zret hx hb hr rfl (fun t ht hW => ⟨rfl, ht⟩) (fun _ h9 => nomatch h9) d_Y_beginsByParts_158
  have h := if_f hc3 h
  by_cases hc4 : r3 = 5
  · have h := if_t hc4 h
    refine sw_in (tgt := 159) hx hb d_Y_beginsByParts_27 hc4 (by decide) (by decide) rfl rfl ?_
    refine lv_aload_n hx hb d_Y_beginsByParts_159 rfl (lv_at hl 2 rfl) ?_
    refine lv_aload_n hx hb d_Y_beginsByParts_160 rfl (lv_at hl 2 rfl) ?_
    refine gf_Y_15 hx hb hts hown hK hP d_Y_beginsByParts_161 ?_
    refine lv_iload_n hx hb d_Y_beginsByParts_164 rfl (lv_at hl 1 rfl) ?_
    obtain ⟨r7, hcl, h⟩ := bd_some h
    refine cx_read (va_runV (As := [.ref (q 10), .int r1]) (rest := []) ⟨hx, hb, hml, hown, hts⟩ (c_Y_marked_10 l dC dI q cA pt σ r1 _ hcl) (cw_Y_35 hts ⟨Nat.le_of_ble_eq_true rfl, Nat.le_of_ble_eq_true rfl⟩) ⟨pxX_B, va_recv hK hP (ci := 2) (q0 := 8) rfl rfl, pxX_U hP hK hD hN hZ hS⟩ rfl rfl hl.1 rfl (lv_room (Nat.le_of_ble_eq_true rfl)) d_Y_beginsByParts_165 ⟨Nat.zero_le _, Nat.zero_le _⟩) ?_
    refine lv_if_ne (tgt := 184) hx hb d_Y_beginsByParts_168 rfl (fun hc => ?_) (fun hc => ?_)
    · have h := if_f hc h
      refine lv_iconst (v := 1) hx hb d_Y_beginsByParts_184 (by decide) ?_
      refine lv_goto (tgt := 189) hx hb d_Y_beginsByParts_185 rfl ?_
      obtain rfl := Option.some.inj h
      exact W.zret hx hb hr rfl (fun t ht hW => ⟨rfl, ht⟩) (fun _ h9 => nomatch h9) d_Y_beginsByParts_189
    · have h := if_t hc h
      refine lv_aload_n hx hb d_Y_beginsByParts_171 rfl (lv_at hl 2 rfl) ?_
      refine lv_aload_n hx hb d_Y_beginsByParts_172 rfl (lv_at hl 2 rfl) ?_
      refine gf_Y_15 hx hb hts hown hK hP d_Y_beginsByParts_173 ?_
      refine lv_iload hx hb d_Y_beginsByParts_176 (lv_at hl 0 rfl) ?_
      obtain ⟨r8, hcl, h⟩ := bd_some h
      refine cx_read (va_runV (As := [.ref (q 10), .int r2]) (rest := []) ⟨hx, hb, hml, hown, hts⟩ (c_Y_marked_10 l dC dI q cA pt σ r2 _ hcl) (cw_Y_35 hts ⟨Nat.le_of_ble_eq_true rfl, Nat.le_of_ble_eq_true rfl⟩) ⟨pxX_B, va_recv hK hP (ci := 2) (q0 := 8) rfl rfl, pxX_U hP hK hD hN hZ hS⟩ rfl rfl hl.1 rfl (lv_room (Nat.le_of_ble_eq_true rfl)) d_Y_beginsByParts_178 ⟨Nat.zero_le _, Nat.zero_le _⟩) ?_
      refine lv_if_eq (tgt := 188) hx hb d_Y_beginsByParts_181 rfl (fun hc => ?_) (fun hc => ?_)
      · have h := if_t hc h
        refine lv_iconst (v := 0) hx hb d_Y_beginsByParts_188 (by decide) ?_
        obtain rfl := Option.some.inj h
        exact W.zret hx hb hr rfl (fun t ht hW => ⟨rfl, ht⟩) (fun _ h9 => nomatch h9) d_Y_beginsByParts_189
      · have h := if_f hc h
        refine lv_iconst (v := 1) hx hb d_Y_beginsByParts_184 (by decide) ?_
        refine lv_goto (tgt := 189) hx hb d_Y_beginsByParts_185 rfl ?_
        obtain rfl := Option.some.inj h
        exact W.zret hx hb hr rfl (fun t ht hW => ⟨rfl, ht⟩) (fun _ h9 => nomatch h9) d_Y_beginsByParts_189
  have h := if_f hc4 h
  by_cases hc5 : r3 = 6
  · have h := if_t hc5 h
    refine sw_in (tgt := 190) hx hb d_Y_beginsByParts_27 hc5 (by decide) (by decide) rfl rfl ?_
    refine lv_aload_n hx hb d_Y_beginsByParts_190 rfl (lv_at hl 2 rfl) ?_
    refine lv_aload_n hx hb d_Y_beginsByParts_191 rfl (lv_at hl 2 rfl) ?_
    refine gf_Y_15 hx hb hts hown hK hP d_Y_beginsByParts_192 ?_
    refine lv_iload_n hx hb d_Y_beginsByParts_195 rfl (lv_at hl 1 rfl) ?_
    obtain ⟨r9, hcl, h⟩ := bd_some h
    refine cx_read (va_runV (As := [.ref (q 10), .int r1]) (rest := []) ⟨hx, hb, hml, hown, hts⟩ (c_Y_marked_10 l dC dI q cA pt σ r1 _ hcl) (cw_Y_35 hts ⟨Nat.le_of_ble_eq_true rfl, Nat.le_of_ble_eq_true rfl⟩) ⟨pxX_B, va_recv hK hP (ci := 2) (q0 := 8) rfl rfl, pxX_U hP hK hD hN hZ hS⟩ rfl rfl hl.1 rfl (lv_room (Nat.le_of_ble_eq_true rfl)) d_Y_beginsByParts_196 ⟨Nat.zero_le _, Nat.zero_le _⟩) ?_
    obtain ⟨hbo, h⟩ := bo_some h
    obtain rfl := Option.some.inj h
    exact W.zret hx hb hr (bo_nar hbo) (fun t ht hW => ⟨rfl, ht⟩) (fun _ h9 => nomatch h9) d_Y_beginsByParts_199
  have h := if_f hc5 h
  by_cases hc6 : r3 = 7
  · have h := if_t hc6 h
    refine sw_in (tgt := 217) hx hb d_Y_beginsByParts_27 hc6 (by decide) (by decide) rfl rfl ?_
    refine lv_iconst (v := 0) hx hb d_Y_beginsByParts_217 (by decide) ?_
    obtain rfl := Option.some.inj h
    exact W.zret hx hb hr rfl (fun t ht hW => ⟨rfl, ht⟩) (fun _ h9 => nomatch h9) d_Y_beginsByParts_218
  have h := if_f hc6 h
  by_cases hc7 : r3 = 8
  · have h := if_t hc7 h
    refine sw_in (tgt := 217) hx hb d_Y_beginsByParts_27 hc7 (by decide) (by decide) rfl rfl ?_
    refine lv_iconst (v := 0) hx hb d_Y_beginsByParts_217 (by decide) ?_
    obtain rfl := Option.some.inj h
    exact W.zret hx hb hr rfl (fun t ht hW => ⟨rfl, ht⟩) (fun _ h9 => nomatch h9) d_Y_beginsByParts_218
  have h := if_f hc7 h
  by_cases hc8 : r3 = 9
  · have h := if_t hc8 h
    refine sw_in (tgt := 190) hx hb d_Y_beginsByParts_27 hc8 (by decide) (by decide) rfl rfl ?_
    refine lv_aload_n hx hb d_Y_beginsByParts_190 rfl (lv_at hl 2 rfl) ?_
    refine lv_aload_n hx hb d_Y_beginsByParts_191 rfl (lv_at hl 2 rfl) ?_
    refine gf_Y_15 hx hb hts hown hK hP d_Y_beginsByParts_192 ?_
    refine lv_iload_n hx hb d_Y_beginsByParts_195 rfl (lv_at hl 1 rfl) ?_
    obtain ⟨r10, hcl, h⟩ := bd_some h
    refine cx_read (va_runV (As := [.ref (q 10), .int r1]) (rest := []) ⟨hx, hb, hml, hown, hts⟩ (c_Y_marked_10 l dC dI q cA pt σ r1 _ hcl) (cw_Y_35 hts ⟨Nat.le_of_ble_eq_true rfl, Nat.le_of_ble_eq_true rfl⟩) ⟨pxX_B, va_recv hK hP (ci := 2) (q0 := 8) rfl rfl, pxX_U hP hK hD hN hZ hS⟩ rfl rfl hl.1 rfl (lv_room (Nat.le_of_ble_eq_true rfl)) d_Y_beginsByParts_196 ⟨Nat.zero_le _, Nat.zero_le _⟩) ?_
    obtain ⟨hbo, h⟩ := bo_some h
    obtain rfl := Option.some.inj h
    exact W.zret hx hb hr (bo_nar hbo) (fun t ht hW => ⟨rfl, ht⟩) (fun _ h9 => nomatch h9) d_Y_beginsByParts_199
  have h := if_f hc8 h
  by_cases hc9 : r3 = 10
  · have h := if_t hc9 h
    refine sw_in (tgt := 116) hx hb d_Y_beginsByParts_27 hc9 (by decide) (by decide) rfl rfl ?_
    refine lv_aload_n hx hb d_Y_beginsByParts_116 rfl (lv_at hl 2 rfl) ?_
    refine lv_aload_n hx hb d_Y_beginsByParts_117 rfl (lv_at hl 2 rfl) ?_
    refine gf_Y_15 hx hb hts hown hK hP d_Y_beginsByParts_118 ?_
    refine lv_iload_n hx hb d_Y_beginsByParts_121 rfl (lv_at hl 1 rfl) ?_
    obtain ⟨r11, hcl, h⟩ := bd_some h
    refine cx_read (va_runV (As := [.ref (q 10), .int r1]) (rest := []) ⟨hx, hb, hml, hown, hts⟩ (c_Y_marked_10 l dC dI q cA pt σ r1 _ hcl) (cw_Y_35 hts ⟨Nat.le_of_ble_eq_true rfl, Nat.le_of_ble_eq_true rfl⟩) ⟨pxX_B, va_recv hK hP (ci := 2) (q0 := 8) rfl rfl, pxX_U hP hK hD hN hZ hS⟩ rfl rfl hl.1 rfl (lv_room (Nat.le_of_ble_eq_true rfl)) d_Y_beginsByParts_122 ⟨Nat.zero_le _, Nat.zero_le _⟩) ?_
    refine lv_if_ne (tgt := 153) hx hb d_Y_beginsByParts_125 rfl (fun hc => ?_) (fun hc => ?_)
    · have h := if_f hc h
      refine lv_iconst (v := 1) hx hb d_Y_beginsByParts_153 (by decide) ?_
      refine lv_goto (tgt := 158) hx hb d_Y_beginsByParts_154 rfl ?_
      obtain rfl := Option.some.inj h
      exact W.zret hx hb hr rfl (fun t ht hW => ⟨rfl, ht⟩) (fun _ h9 => nomatch h9) d_Y_beginsByParts_158
    · have h := if_t hc h
      refine lv_aload_n hx hb d_Y_beginsByParts_128 rfl (lv_at hl 2 rfl) ?_
      refine lv_aload_n hx hb d_Y_beginsByParts_129 rfl (lv_at hl 2 rfl) ?_
      refine gf_Y_9 hx hb hts hown hK hP d_Y_beginsByParts_130 ?_
      refine lv_iload_n hx hb d_Y_beginsByParts_133 rfl (lv_at hl 1 rfl) ?_
      obtain ⟨r12, hcl, h⟩ := bd_some h
      refine cx_read (va_runV (As := [.ref (q 9), .int r1]) (rest := []) ⟨hx, hb, hml, hown, hts⟩ (c_Y_marked_9 l dC dI q cA pt σ r1 _ hcl) (cw_Y_35 hts ⟨Nat.le_of_ble_eq_true rfl, Nat.le_of_ble_eq_true rfl⟩) ⟨pxX_B, va_recv hK hP (ci := 2) (q0 := 8) rfl rfl, pxX_U hP hK hD hN hZ hS⟩ rfl rfl hl.1 rfl (lv_room (Nat.le_of_ble_eq_true rfl)) d_Y_beginsByParts_134 ⟨Nat.zero_le _, Nat.zero_le _⟩) ?_
      refine lv_if_eq (tgt := 157) hx hb d_Y_beginsByParts_137 rfl (fun hc => ?_) (fun hc => ?_)
      · have h := if_t hc h
        refine lv_iconst (v := 0) hx hb d_Y_beginsByParts_157 (by decide) ?_
        obtain rfl := Option.some.inj h
        exact W.zret hx hb hr rfl (fun t ht hW => ⟨rfl, ht⟩) (fun _ h9 => nomatch h9) d_Y_beginsByParts_158
      · have h := if_f hc h
        refine lv_aload_n hx hb d_Y_beginsByParts_140 rfl (lv_at hl 2 rfl) ?_
        refine lv_aload_n hx hb d_Y_beginsByParts_141 rfl (lv_at hl 2 rfl) ?_
        refine gf_Y_15 hx hb hts hown hK hP d_Y_beginsByParts_142 ?_
        refine lv_iload hx hb d_Y_beginsByParts_145 (lv_at hl 0 rfl) ?_
        obtain ⟨r13, hcl, h⟩ := bd_some h
        refine cx_read (va_runV (As := [.ref (q 10), .int r2]) (rest := []) ⟨hx, hb, hml, hown, hts⟩ (c_Y_marked_10 l dC dI q cA pt σ r2 _ hcl) (cw_Y_35 hts ⟨Nat.le_of_ble_eq_true rfl, Nat.le_of_ble_eq_true rfl⟩) ⟨pxX_B, va_recv hK hP (ci := 2) (q0 := 8) rfl rfl, pxX_U hP hK hD hN hZ hS⟩ rfl rfl hl.1 rfl (lv_room (Nat.le_of_ble_eq_true rfl)) d_Y_beginsByParts_147 ⟨Nat.zero_le _, Nat.zero_le _⟩) ?_
        refine lv_if_eq (tgt := 157) hx hb d_Y_beginsByParts_150 rfl (fun hc => ?_) (fun hc => ?_)
        · have h := if_t hc h
          refine lv_iconst (v := 0) hx hb d_Y_beginsByParts_157 (by decide) ?_
          obtain rfl := Option.some.inj h
          exact W.zret hx hb hr rfl (fun t ht hW => ⟨rfl, ht⟩) (fun _ h9 => nomatch h9) d_Y_beginsByParts_158
        · have h := if_f hc h
          refine lv_iconst (v := 1) hx hb d_Y_beginsByParts_153 (by decide) ?_
          refine lv_goto (tgt := 158) hx hb d_Y_beginsByParts_154 rfl ?_
          obtain rfl := Option.some.inj h
          exact W.zret hx hb hr rfl (fun t ht hW => ⟨rfl, ht⟩) (fun _ h9 => nomatch h9) d_Y_beginsByParts_158
  have h := if_f hc9 h
  by_cases hc10 : r3 = 11
  · have h := if_t hc10 h
    refine sw_in (tgt := 200) hx hb d_Y_beginsByParts_27 hc10 (by decide) (by decide) rfl rfl ?_
    refine lv_aload_n hx hb d_Y_beginsByParts_200 rfl (lv_at hl 2 rfl) ?_
    refine lv_aload_n hx hb d_Y_beginsByParts_201 rfl (lv_at hl 2 rfl) ?_
    refine gf_Y_15 hx hb hts hown hK hP d_Y_beginsByParts_202 ?_
    refine lv_aload_n hx hb d_Y_beginsByParts_205 rfl (lv_at hl 2 rfl) ?_
    refine gf_Y_28 hx hb hts hown hK hP d_Y_beginsByParts_206 ?_
    refine lv_iload_n hx hb d_Y_beginsByParts_209 rfl (lv_at hl 1 rfl) ?_
    obtain ⟨r14, hcl, h⟩ := bd_some h
    refine cx_read (va_runV (As := [.int r1]) (rest := [.ref (q 10), .ref (q 8)]) ⟨hx, hb, hml, hown, hts⟩ (c_G_body l dC dI q cA pt σ r1 _ hcl) (cw_Y_86 hts ⟨Nat.le_of_ble_eq_true rfl, Nat.le_of_ble_eq_true rfl⟩) ⟨pxX_B, va_recv hK hP (ci := 1) (q0 := 1) rfl rfl, pxX_U hP hK hD hN hZ hS⟩ rfl rfl hl.1 rfl (lv_room (Nat.le_of_ble_eq_true rfl)) d_Y_beginsByParts_210 ⟨Nat.zero_le _, Nat.zero_le _⟩) ?_
    obtain ⟨r15, hcl, h⟩ := bd_some h
    refine cx_read (va_runV (As := [.ref (q 10), .int r14]) (rest := []) ⟨hx, hb, hml, hown, hts⟩ (c_Y_marked_10 l dC dI q cA pt σ r14 _ hcl) (cw_Y_35 hts ⟨Nat.le_of_ble_eq_true rfl, Nat.le_of_ble_eq_true rfl⟩) ⟨pxX_B, va_recv hK hP (ci := 2) (q0 := 8) rfl rfl, pxX_U hP hK hD hN hZ hS⟩ rfl rfl hl.1 rfl (lv_room (Nat.le_of_ble_eq_true rfl)) d_Y_beginsByParts_213 ⟨Nat.zero_le _, Nat.zero_le _⟩) ?_
    obtain ⟨hbo, h⟩ := bo_some h
    obtain rfl := Option.some.inj h
    exact W.zret hx hb hr (bo_nar hbo) (fun t ht hW => ⟨rfl, ht⟩) (fun _ h9 => nomatch h9) d_Y_beginsByParts_216
  have h := if_f hc10 h
  by_cases hc11 : r3 = 12
  · have h := if_t hc11 h
    refine sw_in (tgt := 190) hx hb d_Y_beginsByParts_27 hc11 (by decide) (by decide) rfl rfl ?_
    refine lv_aload_n hx hb d_Y_beginsByParts_190 rfl (lv_at hl 2 rfl) ?_
    refine lv_aload_n hx hb d_Y_beginsByParts_191 rfl (lv_at hl 2 rfl) ?_
    refine gf_Y_15 hx hb hts hown hK hP d_Y_beginsByParts_192 ?_
    refine lv_iload_n hx hb d_Y_beginsByParts_195 rfl (lv_at hl 1 rfl) ?_
    obtain ⟨r16, hcl, h⟩ := bd_some h
    refine cx_read (va_runV (As := [.ref (q 10), .int r1]) (rest := []) ⟨hx, hb, hml, hown, hts⟩ (c_Y_marked_10 l dC dI q cA pt σ r1 _ hcl) (cw_Y_35 hts ⟨Nat.le_of_ble_eq_true rfl, Nat.le_of_ble_eq_true rfl⟩) ⟨pxX_B, va_recv hK hP (ci := 2) (q0 := 8) rfl rfl, pxX_U hP hK hD hN hZ hS⟩ rfl rfl hl.1 rfl (lv_room (Nat.le_of_ble_eq_true rfl)) d_Y_beginsByParts_196 ⟨Nat.zero_le _, Nat.zero_le _⟩) ?_
    obtain ⟨hbo, h⟩ := bo_some h
    obtain rfl := Option.some.inj h
    exact W.zret hx hb hr (bo_nar hbo) (fun t ht hW => ⟨rfl, ht⟩) (fun _ h9 => nomatch h9) d_Y_beginsByParts_199
  have h := if_f hc11 h
  refine lv_tableOut (tgt := 217) hx hb d_Y_beginsByParts_27 (by have q0 := lv_neT hc0 (a := 1) (by decide); have q1 := lv_neT hc1 (a := 2) (by decide); have q2 := lv_neT hc2 (a := 3) (by decide); have q3 := lv_neT hc3 (a := 4) (by decide); have q4 := lv_neT hc4 (a := 5) (by decide); have q5 := lv_neT hc5 (a := 6) (by decide); have q6 := lv_neT hc6 (a := 7) (by decide); have q7 := lv_neT hc7 (a := 8) (by decide); have q8 := lv_neT hc8 (a := 9) (by decide); have q9 := lv_neT hc9 (a := 10) (by decide); have q10 := lv_neT hc10 (a := 11) (by decide); have q11 := lv_neT hc11 (a := 12) (by decide); omega) rfl ?_
  refine lv_iconst (v := 0) hx hb d_Y_beginsByParts_217 (by decide) ?_
  obtain rfl := Option.some.inj h
  exact W.zret hx hb hr rfl (fun t ht hW => ⟨rfl, ht⟩) (fun _ h9 => nomatch h9) d_Y_beginsByParts_218
def y_Y_findBeginners : MethodName := ⟨"StagedParsers$Study", "findBeginners", "(I)V"⟩
def w_Y_findBeginners : List Cond := .code y_Y_findBeginners prog_6_method_11_code 4 none :: AW_
def rm_Y_findBeginners : Room := { frames := 3, cells := 0, slots := 0, locals := 67 }
theorem d_Y_findBeginners_0 : decode prog_6_method_11_code 0 = .ok (.aload_n 0, 1) := by decide +kernel
theorem d_Y_findBeginners_1 : decode prog_6_method_11_code 1 = .ok (.aload_n 0, 1) := by decide +kernel
theorem d_Y_findBeginners_2 : decode prog_6_method_11_code 2 = .ok (.getfield 15, 3) := by decide +kernel
theorem d_Y_findBeginners_5 : decode prog_6_method_11_code 5 = .ok (.invokevirtual 65, 3) := by decide +kernel
theorem d_Y_findBeginners_8 : decode prog_6_method_11_code 8 = .ok (.iconst 0, 1) := by decide +kernel
theorem d_Y_findBeginners_9 : decode prog_6_method_11_code 9 = .ok (.istore_n 2, 1) := by decide +kernel
theorem d_Y_findBeginners_10 : decode prog_6_method_11_code 10 = .ok (.iload_n 2, 1) := by decide +kernel
theorem d_Y_findBeginners_11 : decode prog_6_method_11_code 11 = .ok (.bipush 6, 2) := by decide +kernel
theorem d_Y_findBeginners_13 : decode prog_6_method_11_code 13 = .ok (.if_icmp .gt 40, 3) := by decide +kernel
theorem d_Y_findBeginners_16 : decode prog_6_method_11_code 16 = .ok (.iconst 0, 1) := by decide +kernel
theorem d_Y_findBeginners_17 : decode prog_6_method_11_code 17 = .ok (.istore_n 3, 1) := by decide +kernel
theorem d_Y_findBeginners_18 : decode prog_6_method_11_code 18 = .ok (.iload_n 3, 1) := by decide +kernel
theorem d_Y_findBeginners_19 : decode prog_6_method_11_code 19 = .ok (.aload_n 0, 1) := by decide +kernel
theorem d_Y_findBeginners_20 : decode prog_6_method_11_code 20 = .ok (.getfield 28, 3) := by decide +kernel
theorem d_Y_findBeginners_23 : decode prog_6_method_11_code 23 = .ok (.invokevirtual 69, 3) := by decide +kernel
theorem d_Y_findBeginners_26 : decode prog_6_method_11_code 26 = .ok (.if_icmp .ge 21, 3) := by decide +kernel
theorem d_Y_findBeginners_29 : decode prog_6_method_11_code 29 = .ok (.aload_n 0, 1) := by decide +kernel
theorem d_Y_findBeginners_30 : decode prog_6_method_11_code 30 = .ok (.getfield 15, 3) := by decide +kernel
theorem d_Y_findBeginners_33 : decode prog_6_method_11_code 33 = .ok (.iload_n 3, 1) := by decide +kernel
theorem d_Y_findBeginners_34 : decode prog_6_method_11_code 34 = .ok (.aload_n 0, 1) := by decide +kernel
theorem d_Y_findBeginners_35 : decode prog_6_method_11_code 35 = .ok (.iload_n 3, 1) := by decide +kernel
theorem d_Y_findBeginners_36 : decode prog_6_method_11_code 36 = .ok (.iload_n 1, 1) := by decide +kernel
theorem d_Y_findBeginners_37 : decode prog_6_method_11_code 37 = .ok (.invokevirtual 89, 3) := by decide +kernel
theorem d_Y_findBeginners_40 : decode prog_6_method_11_code 40 = .ok (.bastore, 1) := by decide +kernel
theorem d_Y_findBeginners_41 : decode prog_6_method_11_code 41 = .ok (.iinc 3 1, 3) := by decide +kernel
theorem d_Y_findBeginners_44 : decode prog_6_method_11_code 44 = .ok (.goto (-26), 3) := by decide +kernel
theorem d_Y_findBeginners_47 : decode prog_6_method_11_code 47 = .ok (.iinc 2 1, 3) := by decide +kernel
theorem d_Y_findBeginners_50 : decode prog_6_method_11_code 50 = .ok (.goto (-40), 3) := by decide +kernel
theorem d_Y_findBeginners_53 : decode prog_6_method_11_code 53 = .ok (.return_, 1) := by decide +kernel
section RW
variable {p : Program} {l : Launch} {e : Env} {R : Room} {s : State} {m : MethodId} {args : Array Value} {below : List Frame} {meth : Method} {c : Code} {H : Heap} {locs : List Loc} {cells slots : Nat} {Q : State → Prop}
variable {cc : ByteArray} {pc : Nat} {ls : Array Slot} {rest : List Value} {dC : Nat → ClassId} {dI : Nat → Nat → Nat} {q : Nat → Nat} {cA : Nat → ClassId} {σ : MZ_} {H0 : Heap} {A : Nat → Prop}

theorem cw_Y_89 (hts : ∀ w ∈ AW_, w.before args s = true) (hR : rm_Y_beginsByParts.frames + 1 ≤ R.frames ∧ 8 + (5 + 11) + rm_Y_beginsByParts.locals ≤ R.locals) : CallW R s args "StagedParsers$Study" "StagedParsers$Study" 89 y_Y_beginsByParts prog_6_method_12_code 5 (some .boolean) w_Y_beginsByParts rm_Y_beginsByParts 0 0 2 :=
  ⟨callB_of 2 hts (aw_in kw_588) rfl rfl rfl (hts _ kw_4) (hts _ kw_585) ⟨by decide, by decide, by decide +kernel⟩ hR, hts _ kw_587, hts _ ks_24⟩
end RW
def f_Y_findBeginners_L18 (k : MZ_ → Int32 → Int32 → Option (MZ_)) : Nat → MZ_ → Int32 → Int32 → Int32 → Option (MZ_)
  | 0, _, _, _, _ => none
  | N + 1, σ, x1, x2, x3 => (f_G_size σ).bind fun r2 => if r2 ≤ x3 then k σ x1 (x2 + 1)
    else (f_Y_beginsByParts σ x3 x1).bind fun r3 => gd_ x3 80 (st_ (va_up σ 10 (upd (σ 10) x3.toNatClampNeg (vp_nar .boolean r3))) fun σ1 => f_Y_findBeginners_L18 k N σ1 x1 x2 (x3 + 1))
def f_Y_findBeginners_L10 : Nat → MZ_ → Int32 → Int32 → Option (MZ_)
  | 0, _, _, _ => none
  | N + 1, σ, x1, x2 => if 6 < x2 then some σ
    else f_Y_findBeginners_L18 (fun σ x1 x2 => f_Y_findBeginners_L10 N σ x1 x2) 100 σ x1 x2 0
def f_Y_findBeginners (σ : MZ_) (a1 : Int32) : Option (MZ_) :=
  (f_Y_unmark_10 σ).bind fun u1 => f_Y_findBeginners_L10 100 u1 a1 0
set_option maxHeartbeats 4000000 in
set_option maxRecDepth 100000 in
theorem c_Y_findBeginners (l : Launch) (dC : Nat → ClassId) (dI : Nat → Nat → Nat) (q : Nat → Nat) (cA : Nat → ClassId) (pt : Nat) (σ : MZ_) (a1 : Int32) (u : MZ_) (h : f_Y_findBeginners σ a1 = some u) : Met l y_Y_findBeginners w_Y_findBeginners rm_Y_findBeginners (va_Pc [.ref (q 8), .int a1] (PX_ dC dI q cA pt σ)) (QW_ none (fun H => va_P (dC, dI) cls_ (wX q cA u) H) (AX q)) 0 0 (AX q) := by
  refine Met.ofW (cc := prog_6_method_11_code) (maxL := 4) (ret := none) (by decide) rfl ?_
  intro p e s m args below meth c s₁ B hml hv
  obtain ⟨rfl, hP, hK, hD, hN, hZ⟩ := hv
  have hx := B.exec
  have hb := B.bytes
  have hr := B.returns
  have hts : ∀ w ∈ AW_, w.before _ s = true := fun w h => atoms_spec (ws := w_Y_findBeginners) B.pre w (List.mem_cons_of_mem _ h)
  have hown : s.vm.findClass "StagedParsers$Study" = some m.cls := findClass_of_methodNamed B.named
  have hlocks := B.notSynchronized
  have hS : va_S (AX q) s.heap s.heap [] := va_S.rf
  have hl := lv_entry ([.ref (q 8), .int a1]) (n := 4) (Nat.le_of_ble_eq_true rfl)
  rw [lg_entry_eq]
  generalize (lg_sl ([.ref (q 8), .int a1]) ++ List.replicate (4 - (lg_sl ([.ref (q 8), .int a1])).length) Slot.unset).toArray = ls at hl ⊢
  have hl : lv_has ls 4 [(0, .ref (q 8)), (1, .int a1)] := hl
  have L10 : ∀ (N10 : Nat) (σ : MZ_) (x1 : Int32) (x2 : Int32), f_Y_findBeginners_L10 N10 σ x1 x2 = some u → ∀ (H : Heap) (locs : List Loc) (ls : Array Slot), va_P (dC, dI) cls_ (wX q cA σ) H → va_S (AX q) s.heap H locs → lv_has ls 4 [(0, .ref (q 8)), (1, .int x1), (2, .int x2)] → W p l e (headSpec w_Y_findBeginners rm_Y_findBeginners).room s m ([.ref (q 8), .int a1] : List Value).toArray below meth c H locs 0 0 (MQ below (QW_ none (fun H => va_P (dC, dI) cls_ (wX q cA u) H) (AX q)) ([.ref (q 8), .int a1] : List Value).toArray s 0 0 (AX q)) (F0 m 10 ls []) := by
    intro N10
    induction N10 with
    | zero => intro σ x1 x2 h; cases h
    | succ N10 ih10 =>
      intro σ x1 x2 h H locs ls hP hS hl
      have hD : va_D (AX q) (wX q cA σ) := dd_re (wX_f _ _ _ _) hD
      rw [f_Y_findBeginners_L10] at h
      refine lv_iload_n hx hb d_Y_findBeginners_10 rfl (lv_at hl 2 rfl) ?_
      refine lv_bipush (v := 6) hx hb d_Y_findBeginners_11 (by decide) ?_
      refine lv_icmp_gt (tgt := 53) hx hb d_Y_findBeginners_13 rfl (fun hc => ?_) (fun hc => ?_)
      · have h := if_t hc h
        obtain rfl := Option.some.inj h
        exact W.vret hx hb hr (fun t ht hW => ⟨rfl, by rw [ht]; exact hP, hS.F ht⟩) hS.2.2 d_Y_findBeginners_53
      · have h := if_f hc h
        refine lv_iconst (v := 0) hx hb d_Y_findBeginners_16 (by decide) ?_
        refine lv_istore_n hx hb d_Y_findBeginners_17 rfl hl (by decide) rfl (fun ls hl => ?_)
        have hl : lv_has ls 4 [(3, .int 0), (0, .ref (q 8)), (1, .int x1), (2, .int x2)] := hl
        have L18 : ∀ (N18 : Nat) (σ : MZ_) (x1 : Int32) (x2 : Int32) (x3 : Int32), f_Y_findBeginners_L18 (fun σ x1 x2 => f_Y_findBeginners_L10 N10 σ x1 x2) N18 σ x1 x2 x3 = some u → ∀ (H : Heap) (locs : List Loc) (ls : Array Slot), va_P (dC, dI) cls_ (wX q cA σ) H → va_S (AX q) s.heap H locs → lv_has ls 4 [(0, .ref (q 8)), (1, .int x1), (2, .int x2), (3, .int x3)] → W p l e (headSpec w_Y_findBeginners rm_Y_findBeginners).room s m ([.ref (q 8), .int a1] : List Value).toArray below meth c H locs 0 0 (MQ below (QW_ none (fun H => va_P (dC, dI) cls_ (wX q cA u) H) (AX q)) ([.ref (q 8), .int a1] : List Value).toArray s 0 0 (AX q)) (F0 m 18 ls []) := by
          intro N18
          induction N18 with
          | zero => intro σ x1 x2 x3 h; cases h
          | succ N18 ih18 =>
            intro σ x1 x2 x3 h H locs ls hP hS hl
            have hD : va_D (AX q) (wX q cA σ) := dd_re (wX_f _ _ _ _) hD
            rw [f_Y_findBeginners_L18] at h
            refine lv_iload_n hx hb d_Y_findBeginners_18 rfl (lv_at hl 3 rfl) ?_
            refine lv_aload_n hx hb d_Y_findBeginners_19 rfl (lv_at hl 0 rfl) ?_
            refine gf_Y_28 hx hb hts hown hK hP d_Y_findBeginners_20 ?_
            obtain ⟨r2, hcl, h⟩ := bd_some h
            refine cx_read (va_runV (As := []) (rest := [.int x3]) ⟨hx, hb, hml, hown, hts⟩ (c_G_size l dC dI q cA pt σ _ hcl) (cw_Y_69 hts ⟨Nat.le_of_ble_eq_true rfl, Nat.le_of_ble_eq_true rfl⟩) ⟨pxX_B, va_recv hK hP (ci := 1) (q0 := 1) rfl rfl, pxX_U hP hK hD hN hZ hS⟩ rfl rfl hl.1 rfl (lv_room (Nat.le_of_ble_eq_true rfl)) d_Y_findBeginners_23 ⟨Nat.zero_le _, Nat.zero_le _⟩) ?_
            refine lv_icmp_ge (tgt := 47) hx hb d_Y_findBeginners_26 rfl (fun hc => ?_) (fun hc => ?_)
            · have h := if_t hc h
              refine lv_iinc (v := x2 + 1) hx hb d_Y_findBeginners_47 hl (k := 2) rfl rfl (by decide) rfl (fun ls hl => ?_)
              have hl : lv_has ls 4 [(2, .int (x2 + 1)), (0, .ref (q 8)), (1, .int x1), (3, .int x3)] := hl
              refine lv_goto (tgt := 10) hx hb d_Y_findBeginners_50 rfl ?_
              exact ih10 _ _ _ h _ _ _ hP hS (lv_sub hl [1, 2, 0] rfl)
            · have h := if_f hc h
              refine lv_aload_n hx hb d_Y_findBeginners_29 rfl (lv_at hl 0 rfl) ?_
              refine gf_Y_15 hx hb hts hown hK hP d_Y_findBeginners_30 ?_
              refine lv_iload_n hx hb d_Y_findBeginners_33 rfl (lv_at hl 3 rfl) ?_
              refine lv_aload_n hx hb d_Y_findBeginners_34 rfl (lv_at hl 0 rfl) ?_
              refine lv_iload_n hx hb d_Y_findBeginners_35 rfl (lv_at hl 3 rfl) ?_
              refine lv_iload_n hx hb d_Y_findBeginners_36 rfl (lv_at hl 1 rfl) ?_
              obtain ⟨r3, hcl, h⟩ := bd_some h
              refine cx_read (va_runV (As := [.int x3, .int x1]) (rest := [.int x3, .ref (q 10)]) ⟨hx, hb, hml, hown, hts⟩ (c_Y_beginsByParts l dC dI q cA pt σ x3 x1 _ hcl) (cw_Y_89 hts ⟨Nat.le_of_ble_eq_true rfl, Nat.le_of_ble_eq_true rfl⟩) ⟨pxX_B, va_recv hK hP (ci := 2) (q0 := 8) rfl rfl, pxX_U hP hK hD hN hZ hS⟩ rfl rfl hl.1 rfl (lv_room (Nat.le_of_ble_eq_true rfl)) d_Y_findBeginners_37 ⟨Nat.zero_le _, Nat.zero_le _⟩) ?_
              obtain ⟨hgd, h⟩ := gd_some h
              refine as_X_10 hx hb hK hP hD hS hgd d_Y_findBeginners_40 (fun H locs hP hS => ?_)
              obtain ⟨σ1, eσ1, h⟩ := st_some h
              rw [← eσ1] at hP
              have hD : va_D (AX q) (wX q cA σ1) := dd_re (wX_f _ _ _ _) hD
              refine lv_iinc (v := x3 + 1) hx hb d_Y_findBeginners_41 hl (k := 3) rfl rfl (by decide) rfl (fun ls hl => ?_)
              have hl : lv_has ls 4 [(3, .int (x3 + 1)), (0, .ref (q 8)), (1, .int x1), (2, .int x2)] := hl
              refine lv_goto (tgt := 18) hx hb d_Y_findBeginners_44 rfl ?_
              exact ih18 _ _ _ _ h _ _ _ hP hS (lv_sub hl [1, 2, 3, 0] rfl)
        exact L18 _ _ _ _ _ h _ _ _ hP hS (lv_sub hl [1, 2, 3, 0] rfl)
  rw [f_Y_findBeginners] at h
  refine lv_aload_n hx hb d_Y_findBeginners_0 rfl (lv_at hl 0 rfl) ?_
  refine lv_aload_n hx hb d_Y_findBeginners_1 rfl (lv_at hl 0 rfl) ?_
  refine gf_Y_15 hx hb hts hown hK hP d_Y_findBeginners_2 ?_
  obtain ⟨u1, hcl, h⟩ := bd_some h
  refine cx_wrv (va_runV (As := [.ref (q 10)]) (rest := []) ⟨hx, hb, hml, hown, hts⟩ (c_Y_unmark_10 l dC dI q cA pt σ _ hcl) (cw_Y_65 hts ⟨Nat.le_of_ble_eq_true rfl, Nat.le_of_ble_eq_true rfl⟩) ⟨pxX_B, va_recv hK hP (ci := 2) (q0 := 8) rfl rfl, pxX_U hP hK hD hN hZ hS⟩ rfl rfl hl.1 rfl (lv_room (Nat.le_of_ble_eq_true rfl)) d_Y_findBeginners_5 ⟨Nat.zero_le _, Nat.zero_le _⟩) hS (fun _ h => h) (fun H locs hP hS => ?_)
  have hD : va_D (AX q) (wX q cA u1) := dd_re (wX_f _ _ _ _) hD
  refine lv_iconst (v := 0) hx hb d_Y_findBeginners_8 (by decide) ?_
  refine lv_istore_n hx hb d_Y_findBeginners_9 rfl hl (by decide) rfl (fun ls hl => ?_)
  have hl : lv_has ls 4 [(2, .int 0), (0, .ref (q 8)), (1, .int a1)] := hl
  exact L10 _ _ _ _ h _ _ _ hP hS (lv_sub hl [1, 2, 0] rfl)
def y_Y_leadsOf : MethodName := ⟨"StagedParsers$Study", "leadsOf", "(I)I"⟩
def w_Y_leadsOf : List Cond := .code y_Y_leadsOf prog_6_method_15_code 2 (some .int) :: AW_
def rm_Y_leadsOf : Room := { frames := 1, cells := 0, slots := 0, locals := 21 }
theorem d_Y_leadsOf_0 : decode prog_6_method_15_code 0 = .ok (.aload_n 0, 1) := by decide +kernel
theorem d_Y_leadsOf_1 : decode prog_6_method_15_code 1 = .ok (.getfield 28, 3) := by decide +kernel
theorem d_Y_leadsOf_4 : decode prog_6_method_15_code 4 = .ok (.iload_n 1, 1) := by decide +kernel
theorem d_Y_leadsOf_5 : decode prog_6_method_15_code 5 = .ok (.invokevirtual 59, 3) := by decide +kernel
theorem d_Y_leadsOf_8 : decode prog_6_method_15_code 8 = .ok (.ifCond .eq 12, 3) := by decide +kernel
theorem d_Y_leadsOf_11 : decode prog_6_method_15_code 11 = .ok (.aload_n 0, 1) := by decide +kernel
theorem d_Y_leadsOf_12 : decode prog_6_method_15_code 12 = .ok (.getfield 21, 3) := by decide +kernel
theorem d_Y_leadsOf_15 : decode prog_6_method_15_code 15 = .ok (.iload_n 1, 1) := by decide +kernel
theorem d_Y_leadsOf_16 : decode prog_6_method_15_code 16 = .ok (.iaload, 1) := by decide +kernel
theorem d_Y_leadsOf_17 : decode prog_6_method_15_code 17 = .ok (.goto 4, 3) := by decide +kernel
theorem d_Y_leadsOf_20 : decode prog_6_method_15_code 20 = .ok (.iconst 0, 1) := by decide +kernel
theorem d_Y_leadsOf_21 : decode prog_6_method_15_code 21 = .ok (.ireturn, 1) := by decide +kernel
section RW
variable {p : Program} {l : Launch} {e : Env} {R : Room} {s : State} {m : MethodId} {args : Array Value} {below : List Frame} {meth : Method} {c : Code} {H : Heap} {locs : List Loc} {cells slots : Nat} {Q : State → Prop}
variable {cc : ByteArray} {pc : Nat} {ls : Array Slot} {rest : List Value} {dC : Nat → ClassId} {dI : Nat → Nat → Nat} {q : Nat → Nat} {cA : Nat → ClassId} {σ : MZ_} {H0 : Heap} {A : Nat → Prop}

theorem gf_Y_21 (hx : p.tables.exec = Jvm.exec) (hb : c.code = cc) (hts : ∀ w ∈ AW_, w.before args s = true) (hown : s.vm.findClass "StagedParsers$Study" = some m.cls) (hK : va_K (dC, dI) cls_ (tyX cA) s) (hP : va_P (dC, dI) cls_ (wX q cA σ) H) (hdg : decode cc pc = .ok (.getfield 21, 3)) (kk : W p l e R s m args below meth c H locs cells slots Q (F0 m (pc + 3) ls (.ref (q 12) :: rest))) : W p l e R s m args below meth c H locs cells slots Q (F0 m pc ls (.ref (q 8) :: rest)) :=
  va_get (D := (dC, dI)) (cl := cls_) (ci := 2) (v := .ref (q 12)) (ws := wX q cA σ) (tys := tyX cA) (C := Rz_Y) (T := Tz_Y) (N := 6) hx hb hts uz_Y hown hK hP 8 rfl rfl 4 (by decide) (hts _ kw_68) (fun _ h9 => h9) rfl hdg kk
end RW
def f_Y_leadsOf (σ : MZ_) (a1 : Int32) : Option (Int32) :=
  (f_G_isNode σ a1).bind fun r1 => if r1 = 0 then some 0
  else gd_ a1 80 (some (σ 12 a1.toNatClampNeg))
set_option maxHeartbeats 4000000 in
set_option maxRecDepth 100000 in
theorem c_Y_leadsOf (l : Launch) (dC : Nat → ClassId) (dI : Nat → Nat → Nat) (q : Nat → Nat) (cA : Nat → ClassId) (pt : Nat) (σ : MZ_) (a1 : Int32) (u : Int32) (h : f_Y_leadsOf σ a1 = some u) : Met l y_Y_leadsOf w_Y_leadsOf rm_Y_leadsOf (va_Pc [.ref (q 8), .int a1] (PX_ dC dI q cA pt σ)) (QcRead u) 0 0 (fun _ => False) := by
  refine Met.ofW (cc := prog_6_method_15_code) (maxL := 2) (ret := (some .int)) (by decide) rfl ?_
  intro p e s m args below meth c s₁ B hml hv
  obtain ⟨rfl, hP, hK, hD, hN, hZ⟩ := hv
  have hx := B.exec
  have hb := B.bytes
  have hr := B.returns
  have hts : ∀ w ∈ AW_, w.before _ s = true := fun w h => atoms_spec (ws := w_Y_leadsOf) B.pre w (List.mem_cons_of_mem _ h)
  have hown : s.vm.findClass "StagedParsers$Study" = some m.cls := findClass_of_methodNamed B.named
  have hlocks := B.notSynchronized
  have hS : va_S (AX q) s.heap s.heap [] := va_S.rf
  have hl := lv_entry ([.ref (q 8), .int a1]) (n := 2) (Nat.le_of_ble_eq_true rfl)
  rw [lg_entry_eq]
  generalize (lg_sl ([.ref (q 8), .int a1]) ++ List.replicate (2 - (lg_sl ([.ref (q 8), .int a1])).length) Slot.unset).toArray = ls at hl ⊢
  have hl : lv_has ls 2 [(0, .ref (q 8)), (1, .int a1)] := hl
  rw [f_Y_leadsOf] at h
  refine lv_aload_n hx hb d_Y_leadsOf_0 rfl (lv_at hl 0 rfl) ?_
  refine gf_Y_28 hx hb hts hown hK hP d_Y_leadsOf_1 ?_
  refine lv_iload_n hx hb d_Y_leadsOf_4 rfl (lv_at hl 1 rfl) ?_
  obtain ⟨r1, hcl, h⟩ := bd_some h
  refine cx_read (va_runV (As := [.int a1]) (rest := []) ⟨hx, hb, hml, hown, hts⟩ (c_G_isNode l dC dI q cA pt σ a1 _ hcl) (cw_Y_59 hts ⟨Nat.le_of_ble_eq_true rfl, Nat.le_of_ble_eq_true rfl⟩) ⟨pxX_B, va_recv hK hP (ci := 1) (q0 := 1) rfl rfl, pxX_U hP hK hD hN hZ hS⟩ rfl rfl hl.1 rfl (lv_room (Nat.le_of_ble_eq_true rfl)) d_Y_leadsOf_5 ⟨Nat.zero_le _, Nat.zero_le _⟩) ?_
  refine lv_if_eq (tgt := 20) hx hb d_Y_leadsOf_8 rfl (fun hc => ?_) (fun hc => ?_)
  · have h := if_t hc h
    refine lv_iconst (v := 0) hx hb d_Y_leadsOf_20 (by decide) ?_
    obtain rfl := Option.some.inj h
    exact W.iret hx hb hr (fun t ht hW => ⟨rfl, ht⟩) (fun _ h9 => nomatch h9) d_Y_leadsOf_21
  · have h := if_f hc h
    refine lv_aload_n hx hb d_Y_leadsOf_11 rfl (lv_at hl 0 rfl) ?_
    refine gf_Y_21 hx hb hts hown hK hP d_Y_leadsOf_12 ?_
    refine lv_iload_n hx hb d_Y_leadsOf_15 rfl (lv_at hl 1 rfl) ?_
    obtain ⟨hgd, h⟩ := gd_some h
    refine al_X_12 hx hb hK hP hgd d_Y_leadsOf_16 ?_
    refine lv_goto (tgt := 21) hx hb d_Y_leadsOf_17 rfl ?_
    obtain rfl := Option.some.inj h
    exact W.iret hx hb hr (fun t ht hW => ⟨rfl, ht⟩) (fun _ h9 => nomatch h9) d_Y_leadsOf_21
def y_Y_leadsByParts : MethodName := ⟨"StagedParsers$Study", "leadsByParts", "(I)I"⟩
def w_Y_leadsByParts : List Cond := .code y_Y_leadsByParts prog_6_method_14_code 4 (some .int) :: AW_
def rm_Y_leadsByParts : Room := { frames := 2, cells := 0, slots := 0, locals := 43 }
theorem d_Y_leadsByParts_0 : decode prog_6_method_14_code 0 = .ok (.aload_n 0, 1) := by decide +kernel
theorem d_Y_leadsByParts_1 : decode prog_6_method_14_code 1 = .ok (.getfield 28, 3) := by decide +kernel
theorem d_Y_leadsByParts_4 : decode prog_6_method_14_code 4 = .ok (.iload_n 1, 1) := by decide +kernel
theorem d_Y_leadsByParts_5 : decode prog_6_method_14_code 5 = .ok (.invokevirtual 76, 3) := by decide +kernel
theorem d_Y_leadsByParts_8 : decode prog_6_method_14_code 8 = .ok (.istore_n 2, 1) := by decide +kernel
theorem d_Y_leadsByParts_9 : decode prog_6_method_14_code 9 = .ok (.aload_n 0, 1) := by decide +kernel
theorem d_Y_leadsByParts_10 : decode prog_6_method_14_code 10 = .ok (.getfield 28, 3) := by decide +kernel
theorem d_Y_leadsByParts_13 : decode prog_6_method_14_code 13 = .ok (.iload_n 1, 1) := by decide +kernel
theorem d_Y_leadsByParts_14 : decode prog_6_method_14_code 14 = .ok (.invokevirtual 80, 3) := by decide +kernel
theorem d_Y_leadsByParts_17 : decode prog_6_method_14_code 17 = .ok (.istore_n 3, 1) := by decide +kernel
theorem d_Y_leadsByParts_18 : decode prog_6_method_14_code 18 = .ok (.aload_n 0, 1) := by decide +kernel
theorem d_Y_leadsByParts_19 : decode prog_6_method_14_code 19 = .ok (.getfield 28, 3) := by decide +kernel
theorem d_Y_leadsByParts_22 : decode prog_6_method_14_code 22 = .ok (.iload_n 1, 1) := by decide +kernel
theorem d_Y_leadsByParts_23 : decode prog_6_method_14_code 23 = .ok (.invokevirtual 83, 3) := by decide +kernel
theorem d_Y_leadsByParts_26 : decode prog_6_method_14_code 26 = .ok (.tableswitch 104 4 12 #[54, 86, 98, 98, 98, 98, 54, 50, 98], 50) := by decide +kernel
theorem d_Y_leadsByParts_76 : decode prog_6_method_14_code 76 = .ok (.iconst 1, 1) := by decide +kernel
theorem d_Y_leadsByParts_77 : decode prog_6_method_14_code 77 = .ok (.iload_n 2, 1) := by decide +kernel
theorem d_Y_leadsByParts_78 : decode prog_6_method_14_code 78 = .ok (.ishl, 1) := by decide +kernel
theorem d_Y_leadsByParts_79 : decode prog_6_method_14_code 79 = .ok (.ireturn, 1) := by decide +kernel
theorem d_Y_leadsByParts_80 : decode prog_6_method_14_code 80 = .ok (.aload_n 0, 1) := by decide +kernel
theorem d_Y_leadsByParts_81 : decode prog_6_method_14_code 81 = .ok (.aload_n 0, 1) := by decide +kernel
theorem d_Y_leadsByParts_82 : decode prog_6_method_14_code 82 = .ok (.getfield 9, 3) := by decide +kernel
theorem d_Y_leadsByParts_85 : decode prog_6_method_14_code 85 = .ok (.iload_n 2, 1) := by decide +kernel
theorem d_Y_leadsByParts_86 : decode prog_6_method_14_code 86 = .ok (.invokevirtual 35, 3) := by decide +kernel
theorem d_Y_leadsByParts_89 : decode prog_6_method_14_code 89 = .ok (.ifCond .eq 17, 3) := by decide +kernel
theorem d_Y_leadsByParts_92 : decode prog_6_method_14_code 92 = .ok (.aload_n 0, 1) := by decide +kernel
theorem d_Y_leadsByParts_93 : decode prog_6_method_14_code 93 = .ok (.iload_n 2, 1) := by decide +kernel
theorem d_Y_leadsByParts_94 : decode prog_6_method_14_code 94 = .ok (.invokevirtual 96, 3) := by decide +kernel
theorem d_Y_leadsByParts_97 : decode prog_6_method_14_code 97 = .ok (.aload_n 0, 1) := by decide +kernel
theorem d_Y_leadsByParts_98 : decode prog_6_method_14_code 98 = .ok (.iload_n 3, 1) := by decide +kernel
theorem d_Y_leadsByParts_99 : decode prog_6_method_14_code 99 = .ok (.invokevirtual 96, 3) := by decide +kernel
theorem d_Y_leadsByParts_102 : decode prog_6_method_14_code 102 = .ok (.ior, 1) := by decide +kernel
theorem d_Y_leadsByParts_103 : decode prog_6_method_14_code 103 = .ok (.goto 8, 3) := by decide +kernel
theorem d_Y_leadsByParts_106 : decode prog_6_method_14_code 106 = .ok (.aload_n 0, 1) := by decide +kernel
theorem d_Y_leadsByParts_107 : decode prog_6_method_14_code 107 = .ok (.iload_n 2, 1) := by decide +kernel
theorem d_Y_leadsByParts_108 : decode prog_6_method_14_code 108 = .ok (.invokevirtual 96, 3) := by decide +kernel
theorem d_Y_leadsByParts_111 : decode prog_6_method_14_code 111 = .ok (.ireturn, 1) := by decide +kernel
theorem d_Y_leadsByParts_112 : decode prog_6_method_14_code 112 = .ok (.aload_n 0, 1) := by decide +kernel
theorem d_Y_leadsByParts_113 : decode prog_6_method_14_code 113 = .ok (.iload_n 2, 1) := by decide +kernel
theorem d_Y_leadsByParts_114 : decode prog_6_method_14_code 114 = .ok (.invokevirtual 96, 3) := by decide +kernel
theorem d_Y_leadsByParts_117 : decode prog_6_method_14_code 117 = .ok (.aload_n 0, 1) := by decide +kernel
theorem d_Y_leadsByParts_118 : decode prog_6_method_14_code 118 = .ok (.iload_n 3, 1) := by decide +kernel
theorem d_Y_leadsByParts_119 : decode prog_6_method_14_code 119 = .ok (.invokevirtual 96, 3) := by decide +kernel
theorem d_Y_leadsByParts_122 : decode prog_6_method_14_code 122 = .ok (.ior, 1) := by decide +kernel
theorem d_Y_leadsByParts_123 : decode prog_6_method_14_code 123 = .ok (.ireturn, 1) := by decide +kernel
theorem d_Y_leadsByParts_124 : decode prog_6_method_14_code 124 = .ok (.aload_n 0, 1) := by decide +kernel
theorem d_Y_leadsByParts_125 : decode prog_6_method_14_code 125 = .ok (.iload_n 2, 1) := by decide +kernel
theorem d_Y_leadsByParts_126 : decode prog_6_method_14_code 126 = .ok (.invokevirtual 96, 3) := by decide +kernel
theorem d_Y_leadsByParts_129 : decode prog_6_method_14_code 129 = .ok (.ireturn, 1) := by decide +kernel
theorem d_Y_leadsByParts_130 : decode prog_6_method_14_code 130 = .ok (.iconst 0, 1) := by decide +kernel
theorem d_Y_leadsByParts_131 : decode prog_6_method_14_code 131 = .ok (.ireturn, 1) := by decide +kernel
section RW
variable {p : Program} {l : Launch} {e : Env} {R : Room} {s : State} {m : MethodId} {args : Array Value} {below : List Frame} {meth : Method} {c : Code} {H : Heap} {locs : List Loc} {cells slots : Nat} {Q : State → Prop}
variable {cc : ByteArray} {pc : Nat} {ls : Array Slot} {rest : List Value} {dC : Nat → ClassId} {dI : Nat → Nat → Nat} {q : Nat → Nat} {cA : Nat → ClassId} {σ : MZ_} {H0 : Heap} {A : Nat → Prop}

theorem cw_Y_96 (hts : ∀ w ∈ AW_, w.before args s = true) (hR : rm_Y_leadsOf.frames + 1 ≤ R.frames ∧ 8 + (2 + 11) + rm_Y_leadsOf.locals ≤ R.locals) : CallW R s args "StagedParsers$Study" "StagedParsers$Study" 96 y_Y_leadsOf prog_6_method_15_code 2 (some .int) w_Y_leadsOf rm_Y_leadsOf 0 0 1 :=
  ⟨callB_of 1 hts (aw_in kw_287) rfl rfl rfl (hts _ kw_4) (hts _ kw_284) ⟨by decide, by decide, by decide +kernel⟩ hR, hts _ kw_286, hts _ ks_8⟩
end RW
def f_Y_leadsByParts (σ : MZ_) (a1 : Int32) : Option (Int32) :=
  (f_G_a σ a1).bind fun r1 => (f_G_b σ a1).bind fun r2 => (f_G_kind σ a1).bind fun r3 => if r3 = 4 then (f_Y_marked_9 σ r1).bind fun r4 => if r4 = 0 then (f_Y_leadsOf σ r1).bind fun r5 => some r5
    else (f_Y_leadsOf σ r1).bind fun r6 => (f_Y_leadsOf σ r2).bind fun r7 => some (r6 ||| r7)
  else if r3 = 5 then (f_Y_leadsOf σ r1).bind fun r8 => (f_Y_leadsOf σ r2).bind fun r9 => some (r8 ||| r9)
  else if r3 = 6 then (f_Y_leadsOf σ r1).bind fun r10 => some r10
  else if r3 = 7 then (f_Y_leadsOf σ r1).bind fun r11 => some r11
  else if r3 = 8 then (f_Y_leadsOf σ r1).bind fun r12 => some r12
  else if r3 = 9 then (f_Y_leadsOf σ r1).bind fun r13 => some r13
  else if r3 = 10 then (f_Y_marked_9 σ r1).bind fun r14 => if r14 = 0 then (f_Y_leadsOf σ r1).bind fun r15 => some r15
    else (f_Y_leadsOf σ r1).bind fun r16 => (f_Y_leadsOf σ r2).bind fun r17 => some (r16 ||| r17)
  else if r3 = 11 then some (1 <<< (r1 &&& 31))
  else if r3 = 12 then (f_Y_leadsOf σ r1).bind fun r18 => some r18
  else some 0
set_option maxHeartbeats 4000000 in
set_option maxRecDepth 100000 in
theorem c_Y_leadsByParts (l : Launch) (dC : Nat → ClassId) (dI : Nat → Nat → Nat) (q : Nat → Nat) (cA : Nat → ClassId) (pt : Nat) (σ : MZ_) (a1 : Int32) (u : Int32) (h : f_Y_leadsByParts σ a1 = some u) : Met l y_Y_leadsByParts w_Y_leadsByParts rm_Y_leadsByParts (va_Pc [.ref (q 8), .int a1] (PX_ dC dI q cA pt σ)) (QcRead u) 0 0 (fun _ => False) := by
  refine Met.ofW (cc := prog_6_method_14_code) (maxL := 4) (ret := (some .int)) (by decide) rfl ?_
  intro p e s m args below meth c s₁ B hml hv
  obtain ⟨rfl, hP, hK, hD, hN, hZ⟩ := hv
  have hx := B.exec
  have hb := B.bytes
  have hr := B.returns
  have hts : ∀ w ∈ AW_, w.before _ s = true := fun w h => atoms_spec (ws := w_Y_leadsByParts) B.pre w (List.mem_cons_of_mem _ h)
  have hown : s.vm.findClass "StagedParsers$Study" = some m.cls := findClass_of_methodNamed B.named
  have hlocks := B.notSynchronized
  have hS : va_S (AX q) s.heap s.heap [] := va_S.rf
  have hl := lv_entry ([.ref (q 8), .int a1]) (n := 4) (Nat.le_of_ble_eq_true rfl)
  rw [lg_entry_eq]
  generalize (lg_sl ([.ref (q 8), .int a1]) ++ List.replicate (4 - (lg_sl ([.ref (q 8), .int a1])).length) Slot.unset).toArray = ls at hl ⊢
  have hl : lv_has ls 4 [(0, .ref (q 8)), (1, .int a1)] := hl
  rw [f_Y_leadsByParts] at h
  refine lv_aload_n hx hb d_Y_leadsByParts_0 rfl (lv_at hl 0 rfl) ?_
  refine gf_Y_28 hx hb hts hown hK hP d_Y_leadsByParts_1 ?_
  refine lv_iload_n hx hb d_Y_leadsByParts_4 rfl (lv_at hl 1 rfl) ?_
  obtain ⟨r1, hcl, h⟩ := bd_some h
  refine cx_read (va_runV (As := [.int a1]) (rest := []) ⟨hx, hb, hml, hown, hts⟩ (c_G_a l dC dI q cA pt σ a1 _ hcl) (cw_Y_76 hts ⟨Nat.le_of_ble_eq_true rfl, Nat.le_of_ble_eq_true rfl⟩) ⟨pxX_B, va_recv hK hP (ci := 1) (q0 := 1) rfl rfl, pxX_U hP hK hD hN hZ hS⟩ rfl rfl hl.1 rfl (lv_room (Nat.le_of_ble_eq_true rfl)) d_Y_leadsByParts_5 ⟨Nat.zero_le _, Nat.zero_le _⟩) ?_
  refine lv_istore_n hx hb d_Y_leadsByParts_8 rfl hl (by decide) rfl (fun ls hl => ?_)
  have hl : lv_has ls 4 [(2, .int r1), (0, .ref (q 8)), (1, .int a1)] := hl
  refine lv_aload_n hx hb d_Y_leadsByParts_9 rfl (lv_at hl 1 rfl) ?_
  refine gf_Y_28 hx hb hts hown hK hP d_Y_leadsByParts_10 ?_
  refine lv_iload_n hx hb d_Y_leadsByParts_13 rfl (lv_at hl 2 rfl) ?_
  obtain ⟨r2, hcl, h⟩ := bd_some h
  refine cx_read (va_runV (As := [.int a1]) (rest := []) ⟨hx, hb, hml, hown, hts⟩ (c_G_b l dC dI q cA pt σ a1 _ hcl) (cw_Y_80 hts ⟨Nat.le_of_ble_eq_true rfl, Nat.le_of_ble_eq_true rfl⟩) ⟨pxX_B, va_recv hK hP (ci := 1) (q0 := 1) rfl rfl, pxX_U hP hK hD hN hZ hS⟩ rfl rfl hl.1 rfl (lv_room (Nat.le_of_ble_eq_true rfl)) d_Y_leadsByParts_14 ⟨Nat.zero_le _, Nat.zero_le _⟩) ?_
  refine lv_istore_n hx hb d_Y_leadsByParts_17 rfl hl (by decide) rfl (fun ls hl => ?_)
  have hl : lv_has ls 4 [(3, .int r2), (2, .int r1), (0, .ref (q 8)), (1, .int a1)] := hl
  refine lv_aload_n hx hb d_Y_leadsByParts_18 rfl (lv_at hl 2 rfl) ?_
  refine gf_Y_28 hx hb hts hown hK hP d_Y_leadsByParts_19 ?_
  refine lv_iload_n hx hb d_Y_leadsByParts_22 rfl (lv_at hl 3 rfl) ?_
  obtain ⟨r3, hcl, h⟩ := bd_some h
  refine cx_read (va_runV (As := [.int a1]) (rest := []) ⟨hx, hb, hml, hown, hts⟩ (c_G_kind l dC dI q cA pt σ a1 _ hcl) (cw_Y_83 hts ⟨Nat.le_of_ble_eq_true rfl, Nat.le_of_ble_eq_true rfl⟩) ⟨pxX_B, va_recv hK hP (ci := 1) (q0 := 1) rfl rfl, pxX_U hP hK hD hN hZ hS⟩ rfl rfl hl.1 rfl (lv_room (Nat.le_of_ble_eq_true rfl)) d_Y_leadsByParts_23 ⟨Nat.zero_le _, Nat.zero_le _⟩) ?_
  by_cases hc0 : r3 = 4
  · have h := if_t hc0 h
    refine sw_in (tgt := 80) hx hb d_Y_leadsByParts_26 hc0 (by decide) (by decide) rfl rfl ?_
    refine lv_aload_n hx hb d_Y_leadsByParts_80 rfl (lv_at hl 2 rfl) ?_
    refine lv_aload_n hx hb d_Y_leadsByParts_81 rfl (lv_at hl 2 rfl) ?_
    refine gf_Y_9 hx hb hts hown hK hP d_Y_leadsByParts_82 ?_
    refine lv_iload_n hx hb d_Y_leadsByParts_85 rfl (lv_at hl 1 rfl) ?_
    obtain ⟨r4, hcl, h⟩ := bd_some h
    refine cx_read (va_runV (As := [.ref (q 9), .int r1]) (rest := []) ⟨hx, hb, hml, hown, hts⟩ (c_Y_marked_9 l dC dI q cA pt σ r1 _ hcl) (cw_Y_35 hts ⟨Nat.le_of_ble_eq_true rfl, Nat.le_of_ble_eq_true rfl⟩) ⟨pxX_B, va_recv hK hP (ci := 2) (q0 := 8) rfl rfl, pxX_U hP hK hD hN hZ hS⟩ rfl rfl hl.1 rfl (lv_room (Nat.le_of_ble_eq_true rfl)) d_Y_leadsByParts_86 ⟨Nat.zero_le _, Nat.zero_le _⟩) ?_
    refine lv_if_eq (tgt := 106) hx hb d_Y_leadsByParts_89 rfl (fun hc => ?_) (fun hc => ?_)
    · have h := if_t hc h
      refine lv_aload_n hx hb d_Y_leadsByParts_106 rfl (lv_at hl 2 rfl) ?_
      refine lv_iload_n hx hb d_Y_leadsByParts_107 rfl (lv_at hl 1 rfl) ?_
      obtain ⟨r5, hcl, h⟩ := bd_some h
      refine cx_read (va_runV (As := [.int r1]) (rest := []) ⟨hx, hb, hml, hown, hts⟩ (c_Y_leadsOf l dC dI q cA pt σ r1 _ hcl) (cw_Y_96 hts ⟨Nat.le_of_ble_eq_true rfl, Nat.le_of_ble_eq_true rfl⟩) ⟨pxX_B, va_recv hK hP (ci := 2) (q0 := 8) rfl rfl, pxX_U hP hK hD hN hZ hS⟩ rfl rfl hl.1 rfl (lv_room (Nat.le_of_ble_eq_true rfl)) d_Y_leadsByParts_108 ⟨Nat.zero_le _, Nat.zero_le _⟩) ?_
      obtain rfl := Option.some.inj h
      exact W.iret hx hb hr (fun t ht hW => ⟨rfl, ht⟩) (fun _ h9 => nomatch h9) d_Y_leadsByParts_111
    · have h := if_f hc h
      refine lv_aload_n hx hb d_Y_leadsByParts_92 rfl (lv_at hl 2 rfl) ?_
      refine lv_iload_n hx hb d_Y_leadsByParts_93 rfl (lv_at hl 1 rfl) ?_
      obtain ⟨r6, hcl, h⟩ := bd_some h
      refine cx_read (va_runV (As := [.int r1]) (rest := []) ⟨hx, hb, hml, hown, hts⟩ (c_Y_leadsOf l dC dI q cA pt σ r1 _ hcl) (cw_Y_96 hts ⟨Nat.le_of_ble_eq_true rfl, Nat.le_of_ble_eq_true rfl⟩) ⟨pxX_B, va_recv hK hP (ci := 2) (q0 := 8) rfl rfl, pxX_U hP hK hD hN hZ hS⟩ rfl rfl hl.1 rfl (lv_room (Nat.le_of_ble_eq_true rfl)) d_Y_leadsByParts_94 ⟨Nat.zero_le _, Nat.zero_le _⟩) ?_
      refine lv_aload_n hx hb d_Y_leadsByParts_97 rfl (lv_at hl 2 rfl) ?_
      refine lv_iload_n hx hb d_Y_leadsByParts_98 rfl (lv_at hl 0 rfl) ?_
      obtain ⟨r7, hcl, h⟩ := bd_some h
      refine cx_read (va_runV (As := [.int r2]) (rest := [.int r6]) ⟨hx, hb, hml, hown, hts⟩ (c_Y_leadsOf l dC dI q cA pt σ r2 _ hcl) (cw_Y_96 hts ⟨Nat.le_of_ble_eq_true rfl, Nat.le_of_ble_eq_true rfl⟩) ⟨pxX_B, va_recv hK hP (ci := 2) (q0 := 8) rfl rfl, pxX_U hP hK hD hN hZ hS⟩ rfl rfl hl.1 rfl (lv_room (Nat.le_of_ble_eq_true rfl)) d_Y_leadsByParts_99 ⟨Nat.zero_le _, Nat.zero_le _⟩) ?_
      refine lv_ior hx hb d_Y_leadsByParts_102 ?_
      refine lv_goto (tgt := 111) hx hb d_Y_leadsByParts_103 rfl ?_
      obtain rfl := Option.some.inj h
      exact W.iret hx hb hr (fun t ht hW => ⟨rfl, ht⟩) (fun _ h9 => nomatch h9) d_Y_leadsByParts_111
  have h := if_f hc0 h
  by_cases hc1 : r3 = 5
  · have h := if_t hc1 h
    refine sw_in (tgt := 112) hx hb d_Y_leadsByParts_26 hc1 (by decide) (by decide) rfl rfl ?_
    refine lv_aload_n hx hb d_Y_leadsByParts_112 rfl (lv_at hl 2 rfl) ?_
    refine lv_iload_n hx hb d_Y_leadsByParts_113 rfl (lv_at hl 1 rfl) ?_
    obtain ⟨r8, hcl, h⟩ := bd_some h
    refine cx_read (va_runV (As := [.int r1]) (rest := []) ⟨hx, hb, hml, hown, hts⟩ (c_Y_leadsOf l dC dI q cA pt σ r1 _ hcl) (cw_Y_96 hts ⟨Nat.le_of_ble_eq_true rfl, Nat.le_of_ble_eq_true rfl⟩) ⟨pxX_B, va_recv hK hP (ci := 2) (q0 := 8) rfl rfl, pxX_U hP hK hD hN hZ hS⟩ rfl rfl hl.1 rfl (lv_room (Nat.le_of_ble_eq_true rfl)) d_Y_leadsByParts_114 ⟨Nat.zero_le _, Nat.zero_le _⟩) ?_
    refine lv_aload_n hx hb d_Y_leadsByParts_117 rfl (lv_at hl 2 rfl) ?_
    refine lv_iload_n hx hb d_Y_leadsByParts_118 rfl (lv_at hl 0 rfl) ?_
    obtain ⟨r9, hcl, h⟩ := bd_some h
    refine cx_read (va_runV (As := [.int r2]) (rest := [.int r8]) ⟨hx, hb, hml, hown, hts⟩ (c_Y_leadsOf l dC dI q cA pt σ r2 _ hcl) (cw_Y_96 hts ⟨Nat.le_of_ble_eq_true rfl, Nat.le_of_ble_eq_true rfl⟩) ⟨pxX_B, va_recv hK hP (ci := 2) (q0 := 8) rfl rfl, pxX_U hP hK hD hN hZ hS⟩ rfl rfl hl.1 rfl (lv_room (Nat.le_of_ble_eq_true rfl)) d_Y_leadsByParts_119 ⟨Nat.zero_le _, Nat.zero_le _⟩) ?_
    refine lv_ior hx hb d_Y_leadsByParts_122 ?_
    obtain rfl := Option.some.inj h
    exact W.iret hx hb hr (fun t ht hW => ⟨rfl, ht⟩) (fun _ h9 => nomatch h9) d_Y_leadsByParts_123
  have h := if_f hc1 h
  by_cases hc2 : r3 = 6
  · have h := if_t hc2 h
    refine sw_in (tgt := 124) hx hb d_Y_leadsByParts_26 hc2 (by decide) (by decide) rfl rfl ?_
    refine lv_aload_n hx hb d_Y_leadsByParts_124 rfl (lv_at hl 2 rfl) ?_
    refine lv_iload_n hx hb d_Y_leadsByParts_125 rfl (lv_at hl 1 rfl) ?_
    obtain ⟨r10, hcl, h⟩ := bd_some h
    refine cx_read (va_runV (As := [.int r1]) (rest := []) ⟨hx, hb, hml, hown, hts⟩ (c_Y_leadsOf l dC dI q cA pt σ r1 _ hcl) (cw_Y_96 hts ⟨Nat.le_of_ble_eq_true rfl, Nat.le_of_ble_eq_true rfl⟩) ⟨pxX_B, va_recv hK hP (ci := 2) (q0 := 8) rfl rfl, pxX_U hP hK hD hN hZ hS⟩ rfl rfl hl.1 rfl (lv_room (Nat.le_of_ble_eq_true rfl)) d_Y_leadsByParts_126 ⟨Nat.zero_le _, Nat.zero_le _⟩) ?_
    obtain rfl := Option.some.inj h
    exact W.iret hx hb hr (fun t ht hW => ⟨rfl, ht⟩) (fun _ h9 => nomatch h9) d_Y_leadsByParts_129
  have h := if_f hc2 h
  by_cases hc3 : r3 = 7
  · have h := if_t hc3 h
    refine sw_in (tgt := 124) hx hb d_Y_leadsByParts_26 hc3 (by decide) (by decide) rfl rfl ?_
    refine lv_aload_n hx hb d_Y_leadsByParts_124 rfl (lv_at hl 2 rfl) ?_
    refine lv_iload_n hx hb d_Y_leadsByParts_125 rfl (lv_at hl 1 rfl) ?_
    obtain ⟨r11, hcl, h⟩ := bd_some h
    refine cx_read (va_runV (As := [.int r1]) (rest := []) ⟨hx, hb, hml, hown, hts⟩ (c_Y_leadsOf l dC dI q cA pt σ r1 _ hcl) (cw_Y_96 hts ⟨Nat.le_of_ble_eq_true rfl, Nat.le_of_ble_eq_true rfl⟩) ⟨pxX_B, va_recv hK hP (ci := 2) (q0 := 8) rfl rfl, pxX_U hP hK hD hN hZ hS⟩ rfl rfl hl.1 rfl (lv_room (Nat.le_of_ble_eq_true rfl)) d_Y_leadsByParts_126 ⟨Nat.zero_le _, Nat.zero_le _⟩) ?_
    obtain rfl := Option.some.inj h
    exact W.iret hx hb hr (fun t ht hW => ⟨rfl, ht⟩) (fun _ h9 => nomatch h9) d_Y_leadsByParts_129
  have h := if_f hc3 h
  by_cases hc4 : r3 = 8
  · have h := if_t hc4 h
    refine sw_in (tgt := 124) hx hb d_Y_leadsByParts_26 hc4 (by decide) (by decide) rfl rfl ?_
    refine lv_aload_n hx hb d_Y_leadsByParts_124 rfl (lv_at hl 2 rfl) ?_
    refine lv_iload_n hx hb d_Y_leadsByParts_125 rfl (lv_at hl 1 rfl) ?_
    obtain ⟨r12, hcl, h⟩ := bd_some h
    refine cx_read (va_runV (As := [.int r1]) (rest := []) ⟨hx, hb, hml, hown, hts⟩ (c_Y_leadsOf l dC dI q cA pt σ r1 _ hcl) (cw_Y_96 hts ⟨Nat.le_of_ble_eq_true rfl, Nat.le_of_ble_eq_true rfl⟩) ⟨pxX_B, va_recv hK hP (ci := 2) (q0 := 8) rfl rfl, pxX_U hP hK hD hN hZ hS⟩ rfl rfl hl.1 rfl (lv_room (Nat.le_of_ble_eq_true rfl)) d_Y_leadsByParts_126 ⟨Nat.zero_le _, Nat.zero_le _⟩) ?_
    obtain rfl := Option.some.inj h
    exact W.iret hx hb hr (fun t ht hW => ⟨rfl, ht⟩) (fun _ h9 => nomatch h9) d_Y_leadsByParts_129
  have h := if_f hc4 h
  by_cases hc5 : r3 = 9
  · have h := if_t hc5 h
    refine sw_in (tgt := 124) hx hb d_Y_leadsByParts_26 hc5 (by decide) (by decide) rfl rfl ?_
    refine lv_aload_n hx hb d_Y_leadsByParts_124 rfl (lv_at hl 2 rfl) ?_
    refine lv_iload_n hx hb d_Y_leadsByParts_125 rfl (lv_at hl 1 rfl) ?_
    obtain ⟨r13, hcl, h⟩ := bd_some h
    refine cx_read (va_runV (As := [.int r1]) (rest := []) ⟨hx, hb, hml, hown, hts⟩ (c_Y_leadsOf l dC dI q cA pt σ r1 _ hcl) (cw_Y_96 hts ⟨Nat.le_of_ble_eq_true rfl, Nat.le_of_ble_eq_true rfl⟩) ⟨pxX_B, va_recv hK hP (ci := 2) (q0 := 8) rfl rfl, pxX_U hP hK hD hN hZ hS⟩ rfl rfl hl.1 rfl (lv_room (Nat.le_of_ble_eq_true rfl)) d_Y_leadsByParts_126 ⟨Nat.zero_le _, Nat.zero_le _⟩) ?_
    obtain rfl := Option.some.inj h
    exact W.iret hx hb hr (fun t ht hW => ⟨rfl, ht⟩) (fun _ h9 => nomatch h9) d_Y_leadsByParts_129
  have h := if_f hc5 h
  by_cases hc6 : r3 = 10
  · have h := if_t hc6 h
    refine sw_in (tgt := 80) hx hb d_Y_leadsByParts_26 hc6 (by decide) (by decide) rfl rfl ?_
    refine lv_aload_n hx hb d_Y_leadsByParts_80 rfl (lv_at hl 2 rfl) ?_
    refine lv_aload_n hx hb d_Y_leadsByParts_81 rfl (lv_at hl 2 rfl) ?_
    refine gf_Y_9 hx hb hts hown hK hP d_Y_leadsByParts_82 ?_
    refine lv_iload_n hx hb d_Y_leadsByParts_85 rfl (lv_at hl 1 rfl) ?_
    obtain ⟨r14, hcl, h⟩ := bd_some h
    refine cx_read (va_runV (As := [.ref (q 9), .int r1]) (rest := []) ⟨hx, hb, hml, hown, hts⟩ (c_Y_marked_9 l dC dI q cA pt σ r1 _ hcl) (cw_Y_35 hts ⟨Nat.le_of_ble_eq_true rfl, Nat.le_of_ble_eq_true rfl⟩) ⟨pxX_B, va_recv hK hP (ci := 2) (q0 := 8) rfl rfl, pxX_U hP hK hD hN hZ hS⟩ rfl rfl hl.1 rfl (lv_room (Nat.le_of_ble_eq_true rfl)) d_Y_leadsByParts_86 ⟨Nat.zero_le _, Nat.zero_le _⟩) ?_
    refine lv_if_eq (tgt := 106) hx hb d_Y_leadsByParts_89 rfl (fun hc => ?_) (fun hc => ?_)
    · have h := if_t hc h
      refine lv_aload_n hx hb d_Y_leadsByParts_106 rfl (lv_at hl 2 rfl) ?_
      refine lv_iload_n hx hb d_Y_leadsByParts_107 rfl (lv_at hl 1 rfl) ?_
      obtain ⟨r15, hcl, h⟩ := bd_some h
      refine cx_read (va_runV (As := [.int r1]) (rest := []) ⟨hx, hb, hml, hown, hts⟩ (c_Y_leadsOf l dC dI q cA pt σ r1 _ hcl) (cw_Y_96 hts ⟨Nat.le_of_ble_eq_true rfl, Nat.le_of_ble_eq_true rfl⟩) ⟨pxX_B, va_recv hK hP (ci := 2) (q0 := 8) rfl rfl, pxX_U hP hK hD hN hZ hS⟩ rfl rfl hl.1 rfl (lv_room (Nat.le_of_ble_eq_true rfl)) d_Y_leadsByParts_108 ⟨Nat.zero_le _, Nat.zero_le _⟩) ?_
      obtain rfl := Option.some.inj h
      exact W.iret hx hb hr (fun t ht hW => ⟨rfl, ht⟩) (fun _ h9 => nomatch h9) d_Y_leadsByParts_111
    · have h := if_f hc h
      refine lv_aload_n hx hb d_Y_leadsByParts_92 rfl (lv_at hl 2 rfl) ?_
      refine lv_iload_n hx hb d_Y_leadsByParts_93 rfl (lv_at hl 1 rfl) ?_
      obtain ⟨r16, hcl, h⟩ := bd_some h
      refine cx_read (va_runV (As := [.int r1]) (rest := []) ⟨hx, hb, hml, hown, hts⟩ (c_Y_leadsOf l dC dI q cA pt σ r1 _ hcl) (cw_Y_96 hts ⟨Nat.le_of_ble_eq_true rfl, Nat.le_of_ble_eq_true rfl⟩) ⟨pxX_B, va_recv hK hP (ci := 2) (q0 := 8) rfl rfl, pxX_U hP hK hD hN hZ hS⟩ rfl rfl hl.1 rfl (lv_room (Nat.le_of_ble_eq_true rfl)) d_Y_leadsByParts_94 ⟨Nat.zero_le _, Nat.zero_le _⟩) ?_
      refine lv_aload_n hx hb d_Y_leadsByParts_97 rfl (lv_at hl 2 rfl) ?_
      refine lv_iload_n hx hb d_Y_leadsByParts_98 rfl (lv_at hl 0 rfl) ?_
      obtain ⟨r17, hcl, h⟩ := bd_some h
      refine cx_read (va_runV (As := [.int r2]) (rest := [.int r16]) ⟨hx, hb, hml, hown, hts⟩ (c_Y_leadsOf l dC dI q cA pt σ r2 _ hcl) (cw_Y_96 hts ⟨Nat.le_of_ble_eq_true rfl, Nat.le_of_ble_eq_true rfl⟩) ⟨pxX_B, va_recv hK hP (ci := 2) (q0 := 8) rfl rfl, pxX_U hP hK hD hN hZ hS⟩ rfl rfl hl.1 rfl (lv_room (Nat.le_of_ble_eq_true rfl)) d_Y_leadsByParts_99 ⟨Nat.zero_le _, Nat.zero_le _⟩) ?_
      refine lv_ior hx hb d_Y_leadsByParts_102 ?_
      refine lv_goto (tgt := 111) hx hb d_Y_leadsByParts_103 rfl ?_
      obtain rfl := Option.some.inj h
      exact W.iret hx hb hr (fun t ht hW => ⟨rfl, ht⟩) (fun _ h9 => nomatch h9) d_Y_leadsByParts_111
  have h := if_f hc6 h
  by_cases hc7 : r3 = 11
  · have h := if_t hc7 h
    refine sw_in (tgt := 76) hx hb d_Y_leadsByParts_26 hc7 (by decide) (by decide) rfl rfl ?_
    refine lv_iconst (v := 1) hx hb d_Y_leadsByParts_76 (by decide) ?_
    refine lv_iload_n hx hb d_Y_leadsByParts_77 rfl (lv_at hl 1 rfl) ?_
    refine lv_ishl hx hb d_Y_leadsByParts_78 ?_
    obtain rfl := Option.some.inj h
    exact W.iret hx hb hr (fun t ht hW => ⟨rfl, ht⟩) (fun _ h9 => nomatch h9) d_Y_leadsByParts_79
  have h := if_f hc7 h
  by_cases hc8 : r3 = 12
  · have h := if_t hc8 h
    refine sw_in (tgt := 124) hx hb d_Y_leadsByParts_26 hc8 (by decide) (by decide) rfl rfl ?_
    refine lv_aload_n hx hb d_Y_leadsByParts_124 rfl (lv_at hl 2 rfl) ?_
    refine lv_iload_n hx hb d_Y_leadsByParts_125 rfl (lv_at hl 1 rfl) ?_
    obtain ⟨r18, hcl, h⟩ := bd_some h
    refine cx_read (va_runV (As := [.int r1]) (rest := []) ⟨hx, hb, hml, hown, hts⟩ (c_Y_leadsOf l dC dI q cA pt σ r1 _ hcl) (cw_Y_96 hts ⟨Nat.le_of_ble_eq_true rfl, Nat.le_of_ble_eq_true rfl⟩) ⟨pxX_B, va_recv hK hP (ci := 2) (q0 := 8) rfl rfl, pxX_U hP hK hD hN hZ hS⟩ rfl rfl hl.1 rfl (lv_room (Nat.le_of_ble_eq_true rfl)) d_Y_leadsByParts_126 ⟨Nat.zero_le _, Nat.zero_le _⟩) ?_
    obtain rfl := Option.some.inj h
    exact W.iret hx hb hr (fun t ht hW => ⟨rfl, ht⟩) (fun _ h9 => nomatch h9) d_Y_leadsByParts_129
  have h := if_f hc8 h
  refine lv_tableOut (tgt := 130) hx hb d_Y_leadsByParts_26 (by have q0 := lv_neT hc0 (a := 4) (by decide); have q1 := lv_neT hc1 (a := 5) (by decide); have q2 := lv_neT hc2 (a := 6) (by decide); have q3 := lv_neT hc3 (a := 7) (by decide); have q4 := lv_neT hc4 (a := 8) (by decide); have q5 := lv_neT hc5 (a := 9) (by decide); have q6 := lv_neT hc6 (a := 10) (by decide); have q7 := lv_neT hc7 (a := 11) (by decide); have q8 := lv_neT hc8 (a := 12) (by decide); omega) rfl ?_
  refine lv_iconst (v := 0) hx hb d_Y_leadsByParts_130 (by decide) ?_
  obtain rfl := Option.some.inj h
  exact W.iret hx hb hr (fun t ht hW => ⟨rfl, ht⟩) (fun _ h9 => nomatch h9) d_Y_leadsByParts_131
def y_Y_findLeads : MethodName := ⟨"StagedParsers$Study", "findLeads", "()V"⟩
def w_Y_findLeads : List Cond := .code y_Y_findLeads prog_6_method_13_code 3 none :: AW_
def rm_Y_findLeads : Room := { frames := 4, cells := 0, slots := 0, locals := 88 }
theorem d_Y_findLeads_0 : decode prog_6_method_13_code 0 = .ok (.aload_n 0, 1) := by decide +kernel
theorem d_Y_findLeads_1 : decode prog_6_method_13_code 1 = .ok (.invokevirtual 32, 3) := by decide +kernel
theorem d_Y_findLeads_4 : decode prog_6_method_13_code 4 = .ok (.iconst 0, 1) := by decide +kernel
theorem d_Y_findLeads_5 : decode prog_6_method_13_code 5 = .ok (.istore_n 1, 1) := by decide +kernel
theorem d_Y_findLeads_6 : decode prog_6_method_13_code 6 = .ok (.iload_n 1, 1) := by decide +kernel
theorem d_Y_findLeads_7 : decode prog_6_method_13_code 7 = .ok (.aload_n 0, 1) := by decide +kernel
theorem d_Y_findLeads_8 : decode prog_6_method_13_code 8 = .ok (.getfield 28, 3) := by decide +kernel
theorem d_Y_findLeads_11 : decode prog_6_method_13_code 11 = .ok (.invokevirtual 69, 3) := by decide +kernel
theorem d_Y_findLeads_14 : decode prog_6_method_13_code 14 = .ok (.if_icmp .ge 20, 3) := by decide +kernel
theorem d_Y_findLeads_17 : decode prog_6_method_13_code 17 = .ok (.aload_n 0, 1) := by decide +kernel
theorem d_Y_findLeads_18 : decode prog_6_method_13_code 18 = .ok (.getfield 21, 3) := by decide +kernel
theorem d_Y_findLeads_21 : decode prog_6_method_13_code 21 = .ok (.iload_n 1, 1) := by decide +kernel
theorem d_Y_findLeads_22 : decode prog_6_method_13_code 22 = .ok (.aload_n 0, 1) := by decide +kernel
theorem d_Y_findLeads_23 : decode prog_6_method_13_code 23 = .ok (.iload_n 1, 1) := by decide +kernel
theorem d_Y_findLeads_24 : decode prog_6_method_13_code 24 = .ok (.invokevirtual 93, 3) := by decide +kernel
theorem d_Y_findLeads_27 : decode prog_6_method_13_code 27 = .ok (.iastore, 1) := by decide +kernel
theorem d_Y_findLeads_28 : decode prog_6_method_13_code 28 = .ok (.iinc 1 1, 3) := by decide +kernel
theorem d_Y_findLeads_31 : decode prog_6_method_13_code 31 = .ok (.goto (-25), 3) := by decide +kernel
theorem d_Y_findLeads_34 : decode prog_6_method_13_code 34 = .ok (.iconst 0, 1) := by decide +kernel
theorem d_Y_findLeads_35 : decode prog_6_method_13_code 35 = .ok (.istore_n 1, 1) := by decide +kernel
theorem d_Y_findLeads_36 : decode prog_6_method_13_code 36 = .ok (.iload_n 1, 1) := by decide +kernel
theorem d_Y_findLeads_37 : decode prog_6_method_13_code 37 = .ok (.bipush 6, 2) := by decide +kernel
theorem d_Y_findLeads_39 : decode prog_6_method_13_code 39 = .ok (.if_icmp .ge 27, 3) := by decide +kernel
theorem d_Y_findLeads_42 : decode prog_6_method_13_code 42 = .ok (.aload_n 0, 1) := by decide +kernel
theorem d_Y_findLeads_43 : decode prog_6_method_13_code 43 = .ok (.getfield 25, 3) := by decide +kernel
theorem d_Y_findLeads_46 : decode prog_6_method_13_code 46 = .ok (.iload_n 1, 1) := by decide +kernel
theorem d_Y_findLeads_47 : decode prog_6_method_13_code 47 = .ok (.aload_n 0, 1) := by decide +kernel
theorem d_Y_findLeads_48 : decode prog_6_method_13_code 48 = .ok (.aload_n 0, 1) := by decide +kernel
theorem d_Y_findLeads_49 : decode prog_6_method_13_code 49 = .ok (.getfield 28, 3) := by decide +kernel
theorem d_Y_findLeads_52 : decode prog_6_method_13_code 52 = .ok (.iload_n 1, 1) := by decide +kernel
theorem d_Y_findLeads_53 : decode prog_6_method_13_code 53 = .ok (.invokevirtual 86, 3) := by decide +kernel
theorem d_Y_findLeads_56 : decode prog_6_method_13_code 56 = .ok (.invokevirtual 96, 3) := by decide +kernel
theorem d_Y_findLeads_59 : decode prog_6_method_13_code 59 = .ok (.iastore, 1) := by decide +kernel
theorem d_Y_findLeads_60 : decode prog_6_method_13_code 60 = .ok (.iinc 1 1, 3) := by decide +kernel
theorem d_Y_findLeads_63 : decode prog_6_method_13_code 63 = .ok (.goto (-27), 3) := by decide +kernel
theorem d_Y_findLeads_66 : decode prog_6_method_13_code 66 = .ok (.iconst 0, 1) := by decide +kernel
theorem d_Y_findLeads_67 : decode prog_6_method_13_code 67 = .ok (.istore_n 1, 1) := by decide +kernel
theorem d_Y_findLeads_68 : decode prog_6_method_13_code 68 = .ok (.iload_n 1, 1) := by decide +kernel
theorem d_Y_findLeads_69 : decode prog_6_method_13_code 69 = .ok (.bipush 6, 2) := by decide +kernel
theorem d_Y_findLeads_71 : decode prog_6_method_13_code 71 = .ok (.if_icmp .ge 52, 3) := by decide +kernel
theorem d_Y_findLeads_74 : decode prog_6_method_13_code 74 = .ok (.iconst 0, 1) := by decide +kernel
theorem d_Y_findLeads_75 : decode prog_6_method_13_code 75 = .ok (.istore_n 2, 1) := by decide +kernel
theorem d_Y_findLeads_76 : decode prog_6_method_13_code 76 = .ok (.iload_n 2, 1) := by decide +kernel
theorem d_Y_findLeads_77 : decode prog_6_method_13_code 77 = .ok (.bipush 6, 2) := by decide +kernel
theorem d_Y_findLeads_79 : decode prog_6_method_13_code 79 = .ok (.if_icmp .ge 38, 3) := by decide +kernel
theorem d_Y_findLeads_82 : decode prog_6_method_13_code 82 = .ok (.aload_n 0, 1) := by decide +kernel
theorem d_Y_findLeads_83 : decode prog_6_method_13_code 83 = .ok (.getfield 25, 3) := by decide +kernel
theorem d_Y_findLeads_86 : decode prog_6_method_13_code 86 = .ok (.iload_n 2, 1) := by decide +kernel
theorem d_Y_findLeads_87 : decode prog_6_method_13_code 87 = .ok (.iaload, 1) := by decide +kernel
theorem d_Y_findLeads_88 : decode prog_6_method_13_code 88 = .ok (.iload_n 1, 1) := by decide +kernel
theorem d_Y_findLeads_89 : decode prog_6_method_13_code 89 = .ok (.ishr, 1) := by decide +kernel
theorem d_Y_findLeads_90 : decode prog_6_method_13_code 90 = .ok (.iconst 1, 1) := by decide +kernel
theorem d_Y_findLeads_91 : decode prog_6_method_13_code 91 = .ok (.iand, 1) := by decide +kernel
theorem d_Y_findLeads_92 : decode prog_6_method_13_code 92 = .ok (.iconst 1, 1) := by decide +kernel
theorem d_Y_findLeads_93 : decode prog_6_method_13_code 93 = .ok (.if_icmp .ne 18, 3) := by decide +kernel
theorem d_Y_findLeads_96 : decode prog_6_method_13_code 96 = .ok (.aload_n 0, 1) := by decide +kernel
theorem d_Y_findLeads_97 : decode prog_6_method_13_code 97 = .ok (.getfield 25, 3) := by decide +kernel
theorem d_Y_findLeads_100 : decode prog_6_method_13_code 100 = .ok (.iload_n 2, 1) := by decide +kernel
theorem d_Y_findLeads_101 : decode prog_6_method_13_code 101 = .ok (.dup2, 1) := by decide +kernel
theorem d_Y_findLeads_102 : decode prog_6_method_13_code 102 = .ok (.iaload, 1) := by decide +kernel
theorem d_Y_findLeads_103 : decode prog_6_method_13_code 103 = .ok (.aload_n 0, 1) := by decide +kernel
theorem d_Y_findLeads_104 : decode prog_6_method_13_code 104 = .ok (.getfield 25, 3) := by decide +kernel
theorem d_Y_findLeads_107 : decode prog_6_method_13_code 107 = .ok (.iload_n 1, 1) := by decide +kernel
theorem d_Y_findLeads_108 : decode prog_6_method_13_code 108 = .ok (.iaload, 1) := by decide +kernel
theorem d_Y_findLeads_109 : decode prog_6_method_13_code 109 = .ok (.ior, 1) := by decide +kernel
theorem d_Y_findLeads_110 : decode prog_6_method_13_code 110 = .ok (.iastore, 1) := by decide +kernel
theorem d_Y_findLeads_111 : decode prog_6_method_13_code 111 = .ok (.iinc 2 1, 3) := by decide +kernel
theorem d_Y_findLeads_114 : decode prog_6_method_13_code 114 = .ok (.goto (-38), 3) := by decide +kernel
theorem d_Y_findLeads_117 : decode prog_6_method_13_code 117 = .ok (.iinc 1 1, 3) := by decide +kernel
theorem d_Y_findLeads_120 : decode prog_6_method_13_code 120 = .ok (.goto (-52), 3) := by decide +kernel
theorem d_Y_findLeads_123 : decode prog_6_method_13_code 123 = .ok (.return_, 1) := by decide +kernel
section RW
variable {p : Program} {l : Launch} {e : Env} {R : Room} {s : State} {m : MethodId} {args : Array Value} {below : List Frame} {meth : Method} {c : Code} {H : Heap} {locs : List Loc} {cells slots : Nat} {Q : State → Prop}
variable {cc : ByteArray} {pc : Nat} {ls : Array Slot} {rest : List Value} {dC : Nat → ClassId} {dI : Nat → Nat → Nat} {q : Nat → Nat} {cA : Nat → ClassId} {σ : MZ_} {H0 : Heap} {A : Nat → Prop}

theorem cw_Y_32 (hts : ∀ w ∈ AW_, w.before args s = true) (hR : rm_Y_findEmptyNodes.frames + 1 ≤ R.frames ∧ 8 + (3 + 11) + rm_Y_findEmptyNodes.locals ≤ R.locals) : CallW R s args "StagedParsers$Study" "StagedParsers$Study" 32 y_Y_findEmptyNodes prog_6_method_9_code 3 none w_Y_findEmptyNodes rm_Y_findEmptyNodes 0 0 0 :=
  ⟨callB_of 0 hts (aw_in kw_271) rfl rfl rfl (hts _ kw_4) (hts _ kw_268) ⟨by decide, by decide, by decide +kernel⟩ hR, hts _ kw_270, hts _ ks_4⟩
theorem cw_Y_93 (hts : ∀ w ∈ AW_, w.before args s = true) (hR : rm_Y_leadsByParts.frames + 1 ≤ R.frames ∧ 8 + (4 + 11) + rm_Y_leadsByParts.locals ≤ R.locals) : CallW R s args "StagedParsers$Study" "StagedParsers$Study" 93 y_Y_leadsByParts prog_6_method_14_code 4 (some .int) w_Y_leadsByParts rm_Y_leadsByParts 0 0 1 :=
  ⟨callB_of 1 hts (aw_in kw_283) rfl rfl rfl (hts _ kw_4) (hts _ kw_280) ⟨by decide, by decide, by decide +kernel⟩ hR, hts _ kw_282, hts _ ks_7⟩
theorem gf_Y_25 (hx : p.tables.exec = Jvm.exec) (hb : c.code = cc) (hts : ∀ w ∈ AW_, w.before args s = true) (hown : s.vm.findClass "StagedParsers$Study" = some m.cls) (hK : va_K (dC, dI) cls_ (tyX cA) s) (hP : va_P (dC, dI) cls_ (wX q cA σ) H) (hdg : decode cc pc = .ok (.getfield 25, 3)) (kk : W p l e R s m args below meth c H locs cells slots Q (F0 m (pc + 3) ls (.ref (q 13) :: rest))) : W p l e R s m args below meth c H locs cells slots Q (F0 m pc ls (.ref (q 8) :: rest)) :=
  va_get (D := (dC, dI)) (cl := cls_) (ci := 2) (v := .ref (q 13)) (ws := wX q cA σ) (tys := tyX cA) (C := Rz_Y) (T := Tz_Y) (N := 6) hx hb hts uz_Y hown hK hP 8 rfl rfl 5 (by decide) (hts _ kw_69) (fun _ h9 => h9) rfl hdg kk
end RW
def f_Y_findLeads_L76 (k : MZ_ → Int32 → Option (MZ_)) : Nat → MZ_ → Int32 → Int32 → Option (MZ_)
  | 0, _, _, _ => none
  | N + 1, σ, x1, x2 => if 6 ≤ x2 then k σ (x1 + 1)
    else gd_ x2 6 (if (((σ 13 x2.toNatClampNeg) >>> (x1 &&& 31)) &&& 1) = 1 then gd_ x2 6 (gd_ x1 6 (gd_ x2 6 (st_ (va_up σ 13 (upd (σ 13) x2.toNatClampNeg ((σ 13 x2.toNatClampNeg) ||| (σ 13 x1.toNatClampNeg)))) fun σ3 => f_Y_findLeads_L76 k N σ3 x1 (x2 + 1))))
    else f_Y_findLeads_L76 k N σ x1 (x2 + 1))
def f_Y_findLeads_L68 : Nat → MZ_ → Int32 → Option (MZ_)
  | 0, _, _ => none
  | N + 1, σ, x1 => if 6 ≤ x1 then some σ
    else f_Y_findLeads_L76 (fun σ x1 => f_Y_findLeads_L68 N σ x1) 100 σ x1 0
def f_Y_findLeads_L36 : Nat → MZ_ → Int32 → Option (MZ_)
  | 0, _, _ => none
  | N + 1, σ, x1 => if 6 ≤ x1 then f_Y_findLeads_L68 100 σ 0
    else (f_G_body σ x1).bind fun r4 => (f_Y_leadsOf σ r4).bind fun r5 => gd_ x1 6 (st_ (va_up σ 13 (upd (σ 13) x1.toNatClampNeg r5)) fun σ2 => f_Y_findLeads_L36 N σ2 (x1 + 1))
def f_Y_findLeads_L6 : Nat → MZ_ → Int32 → Option (MZ_)
  | 0, _, _ => none
  | N + 1, σ, x1 => (f_G_size σ).bind fun r2 => if r2 ≤ x1 then f_Y_findLeads_L36 100 σ 0
    else (f_Y_leadsByParts σ x1).bind fun r3 => gd_ x1 80 (st_ (va_up σ 12 (upd (σ 12) x1.toNatClampNeg r3)) fun σ1 => f_Y_findLeads_L6 N σ1 (x1 + 1))
def f_Y_findLeads (σ : MZ_) : Option (MZ_) :=
  (f_Y_findEmptyNodes σ).bind fun u1 => f_Y_findLeads_L6 100 u1 0
set_option maxHeartbeats 4000000 in
set_option maxRecDepth 100000 in
theorem c_Y_findLeads (l : Launch) (dC : Nat → ClassId) (dI : Nat → Nat → Nat) (q : Nat → Nat) (cA : Nat → ClassId) (pt : Nat) (σ : MZ_) (u : MZ_) (h : f_Y_findLeads σ = some u) : Met l y_Y_findLeads w_Y_findLeads rm_Y_findLeads (va_Pc [.ref (q 8)] (PX_ dC dI q cA pt σ)) (QW_ none (fun H => va_P (dC, dI) cls_ (wX q cA u) H) (AX q)) 0 0 (AX q) := by
  refine Met.ofW (cc := prog_6_method_13_code) (maxL := 3) (ret := none) (by decide) rfl ?_
  intro p e s m args below meth c s₁ B hml hv
  obtain ⟨rfl, hP, hK, hD, hN, hZ⟩ := hv
  have hx := B.exec
  have hb := B.bytes
  have hr := B.returns
  have hts : ∀ w ∈ AW_, w.before _ s = true := fun w h => atoms_spec (ws := w_Y_findLeads) B.pre w (List.mem_cons_of_mem _ h)
  have hown : s.vm.findClass "StagedParsers$Study" = some m.cls := findClass_of_methodNamed B.named
  have hlocks := B.notSynchronized
  have hS : va_S (AX q) s.heap s.heap [] := va_S.rf
  have hl := lv_entry ([.ref (q 8)]) (n := 3) (Nat.le_of_ble_eq_true rfl)
  rw [lg_entry_eq]
  generalize (lg_sl ([.ref (q 8)]) ++ List.replicate (3 - (lg_sl ([.ref (q 8)])).length) Slot.unset).toArray = ls at hl ⊢
  have hl : lv_has ls 3 [(0, .ref (q 8))] := hl
  have L68 : ∀ (N68 : Nat) (σ : MZ_) (x1 : Int32), f_Y_findLeads_L68 N68 σ x1 = some u → ∀ (H : Heap) (locs : List Loc) (ls : Array Slot), va_P (dC, dI) cls_ (wX q cA σ) H → va_S (AX q) s.heap H locs → lv_has ls 3 [(0, .ref (q 8)), (1, .int x1)] → W p l e (headSpec w_Y_findLeads rm_Y_findLeads).room s m ([.ref (q 8)] : List Value).toArray below meth c H locs 0 0 (MQ below (QW_ none (fun H => va_P (dC, dI) cls_ (wX q cA u) H) (AX q)) ([.ref (q 8)] : List Value).toArray s 0 0 (AX q)) (F0 m 68 ls []) := by
    intro N68
    induction N68 with
    | zero => intro σ x1 h; cases h
    | succ N68 ih68 =>
      intro σ x1 h H locs ls hP hS hl
      have hD : va_D (AX q) (wX q cA σ) := dd_re (wX_f _ _ _ _) hD
      rw [f_Y_findLeads_L68] at h
      refine lv_iload_n hx hb d_Y_findLeads_68 rfl (lv_at hl 1 rfl) ?_
      refine lv_bipush (v := 6) hx hb d_Y_findLeads_69 (by decide) ?_
      refine lv_icmp_ge (tgt := 123) hx hb d_Y_findLeads_71 rfl (fun hc => ?_) (fun hc => ?_)
      · have h := if_t hc h
        obtain rfl := Option.some.inj h
        exact W.vret hx hb hr (fun t ht hW => ⟨rfl, by rw [ht]; exact hP, hS.F ht⟩) hS.2.2 d_Y_findLeads_123
      · have h := if_f hc h
        refine lv_iconst (v := 0) hx hb d_Y_findLeads_74 (by decide) ?_
        refine lv_istore_n hx hb d_Y_findLeads_75 rfl hl (by decide) rfl (fun ls hl => ?_)
        have hl : lv_has ls 3 [(2, .int 0), (0, .ref (q 8)), (1, .int x1)] := hl
        have L76 : ∀ (N76 : Nat) (σ : MZ_) (x1 : Int32) (x2 : Int32), f_Y_findLeads_L76 (fun σ x1 => f_Y_findLeads_L68 N68 σ x1) N76 σ x1 x2 = some u → ∀ (H : Heap) (locs : List Loc) (ls : Array Slot), va_P (dC, dI) cls_ (wX q cA σ) H → va_S (AX q) s.heap H locs → lv_has ls 3 [(0, .ref (q 8)), (1, .int x1), (2, .int x2)] → W p l e (headSpec w_Y_findLeads rm_Y_findLeads).room s m ([.ref (q 8)] : List Value).toArray below meth c H locs 0 0 (MQ below (QW_ none (fun H => va_P (dC, dI) cls_ (wX q cA u) H) (AX q)) ([.ref (q 8)] : List Value).toArray s 0 0 (AX q)) (F0 m 76 ls []) := by
          intro N76
          induction N76 with
          | zero => intro σ x1 x2 h; cases h
          | succ N76 ih76 =>
            intro σ x1 x2 h H locs ls hP hS hl
            have hD : va_D (AX q) (wX q cA σ) := dd_re (wX_f _ _ _ _) hD
            rw [f_Y_findLeads_L76] at h
            refine lv_iload_n hx hb d_Y_findLeads_76 rfl (lv_at hl 2 rfl) ?_
            refine lv_bipush (v := 6) hx hb d_Y_findLeads_77 (by decide) ?_
            refine lv_icmp_ge (tgt := 117) hx hb d_Y_findLeads_79 rfl (fun hc => ?_) (fun hc => ?_)
            · have h := if_t hc h
              refine lv_iinc (v := x1 + 1) hx hb d_Y_findLeads_117 hl (k := 1) rfl rfl (by decide) rfl (fun ls hl => ?_)
              have hl : lv_has ls 3 [(1, .int (x1 + 1)), (0, .ref (q 8)), (2, .int x2)] := hl
              refine lv_goto (tgt := 68) hx hb d_Y_findLeads_120 rfl ?_
              exact ih68 _ _ h _ _ _ hP hS (lv_sub hl [1, 0] rfl)
            · have h := if_f hc h
              refine lv_aload_n hx hb d_Y_findLeads_82 rfl (lv_at hl 0 rfl) ?_
              refine gf_Y_25 hx hb hts hown hK hP d_Y_findLeads_83 ?_
              refine lv_iload_n hx hb d_Y_findLeads_86 rfl (lv_at hl 2 rfl) ?_
              obtain ⟨hgd, h⟩ := gd_some h
              refine al_X_13 hx hb hK hP hgd d_Y_findLeads_87 ?_
              refine lv_iload_n hx hb d_Y_findLeads_88 rfl (lv_at hl 1 rfl) ?_
              refine lv_ishr hx hb d_Y_findLeads_89 ?_
              refine lv_iconst (v := 1) hx hb d_Y_findLeads_90 (by decide) ?_
              refine lv_iand hx hb d_Y_findLeads_91 ?_
              refine lv_iconst (v := 1) hx hb d_Y_findLeads_92 (by decide) ?_
              refine lv_icmp_ne (tgt := 111) hx hb d_Y_findLeads_93 rfl (fun hc => ?_) (fun hc => ?_)
              · have h := if_f hc h
                refine lv_iinc (v := x2 + 1) hx hb d_Y_findLeads_111 hl (k := 2) rfl rfl (by decide) rfl (fun ls hl => ?_)
                have hl : lv_has ls 3 [(2, .int (x2 + 1)), (0, .ref (q 8)), (1, .int x1)] := hl
                refine lv_goto (tgt := 76) hx hb d_Y_findLeads_114 rfl ?_
                exact ih76 _ _ _ h _ _ _ hP hS (lv_sub hl [1, 2, 0] rfl)
              · have h := if_t hc h
                refine lv_aload_n hx hb d_Y_findLeads_96 rfl (lv_at hl 0 rfl) ?_
                refine gf_Y_25 hx hb hts hown hK hP d_Y_findLeads_97 ?_
                refine lv_iload_n hx hb d_Y_findLeads_100 rfl (lv_at hl 2 rfl) ?_
                refine lv_dup2_11 hx hb d_Y_findLeads_101 rfl rfl ?_
                obtain ⟨hgd, h⟩ := gd_some h
                refine al_X_13 hx hb hK hP hgd d_Y_findLeads_102 ?_
                refine lv_aload_n hx hb d_Y_findLeads_103 rfl (lv_at hl 0 rfl) ?_
                refine gf_Y_25 hx hb hts hown hK hP d_Y_findLeads_104 ?_
                refine lv_iload_n hx hb d_Y_findLeads_107 rfl (lv_at hl 1 rfl) ?_
                obtain ⟨hgd, h⟩ := gd_some h
                refine al_X_13 hx hb hK hP hgd d_Y_findLeads_108 ?_
                refine lv_ior hx hb d_Y_findLeads_109 ?_
                obtain ⟨hgd, h⟩ := gd_some h
                refine as_X_13 hx hb hK hP hD hS hgd d_Y_findLeads_110 (fun H locs hP hS => ?_)
                obtain ⟨σ3, eσ3, h⟩ := st_some h
                rw [← eσ3] at hP
                have hD : va_D (AX q) (wX q cA σ3) := dd_re (wX_f _ _ _ _) hD
                refine lv_iinc (v := x2 + 1) hx hb d_Y_findLeads_111 hl (k := 2) rfl rfl (by decide) rfl (fun ls hl => ?_)
                have hl : lv_has ls 3 [(2, .int (x2 + 1)), (0, .ref (q 8)), (1, .int x1)] := hl
                refine lv_goto (tgt := 76) hx hb d_Y_findLeads_114 rfl ?_
                exact ih76 _ _ _ h _ _ _ hP hS (lv_sub hl [1, 2, 0] rfl)
        exact L76 _ _ _ _ h _ _ _ hP hS (lv_sub hl [1, 2, 0] rfl)
  have L36 : ∀ (N36 : Nat) (σ : MZ_) (x1 : Int32), f_Y_findLeads_L36 N36 σ x1 = some u → ∀ (H : Heap) (locs : List Loc) (ls : Array Slot), va_P (dC, dI) cls_ (wX q cA σ) H → va_S (AX q) s.heap H locs → lv_has ls 3 [(0, .ref (q 8)), (1, .int x1)] → W p l e (headSpec w_Y_findLeads rm_Y_findLeads).room s m ([.ref (q 8)] : List Value).toArray below meth c H locs 0 0 (MQ below (QW_ none (fun H => va_P (dC, dI) cls_ (wX q cA u) H) (AX q)) ([.ref (q 8)] : List Value).toArray s 0 0 (AX q)) (F0 m 36 ls []) := by
    intro N36
    induction N36 with
    | zero => intro σ x1 h; cases h
    | succ N36 ih36 =>
      intro σ x1 h H locs ls hP hS hl
      have hD : va_D (AX q) (wX q cA σ) := dd_re (wX_f _ _ _ _) hD
      rw [f_Y_findLeads_L36] at h
      refine lv_iload_n hx hb d_Y_findLeads_36 rfl (lv_at hl 1 rfl) ?_
      refine lv_bipush (v := 6) hx hb d_Y_findLeads_37 (by decide) ?_
      refine lv_icmp_ge (tgt := 66) hx hb d_Y_findLeads_39 rfl (fun hc => ?_) (fun hc => ?_)
      · have h := if_t hc h
        refine lv_iconst (v := 0) hx hb d_Y_findLeads_66 (by decide) ?_
        refine lv_istore_n hx hb d_Y_findLeads_67 rfl hl (by decide) rfl (fun ls hl => ?_)
        have hl : lv_has ls 3 [(1, .int 0), (0, .ref (q 8))] := hl
        exact L68 _ _ _ h _ _ _ hP hS (lv_sub hl [1, 0] rfl)
      · have h := if_f hc h
        refine lv_aload_n hx hb d_Y_findLeads_42 rfl (lv_at hl 0 rfl) ?_
        refine gf_Y_25 hx hb hts hown hK hP d_Y_findLeads_43 ?_
        refine lv_iload_n hx hb d_Y_findLeads_46 rfl (lv_at hl 1 rfl) ?_
        refine lv_aload_n hx hb d_Y_findLeads_47 rfl (lv_at hl 0 rfl) ?_
        refine lv_aload_n hx hb d_Y_findLeads_48 rfl (lv_at hl 0 rfl) ?_
        refine gf_Y_28 hx hb hts hown hK hP d_Y_findLeads_49 ?_
        refine lv_iload_n hx hb d_Y_findLeads_52 rfl (lv_at hl 1 rfl) ?_
        obtain ⟨r4, hcl, h⟩ := bd_some h
        refine cx_read (va_runV (As := [.int x1]) (rest := [.ref (q 8), .int x1, .ref (q 13)]) ⟨hx, hb, hml, hown, hts⟩ (c_G_body l dC dI q cA pt σ x1 _ hcl) (cw_Y_86 hts ⟨Nat.le_of_ble_eq_true rfl, Nat.le_of_ble_eq_true rfl⟩) ⟨pxX_B, va_recv hK hP (ci := 1) (q0 := 1) rfl rfl, pxX_U hP hK hD hN hZ hS⟩ rfl rfl hl.1 rfl (lv_room (Nat.le_of_ble_eq_true rfl)) d_Y_findLeads_53 ⟨Nat.zero_le _, Nat.zero_le _⟩) ?_
        obtain ⟨r5, hcl, h⟩ := bd_some h
        refine cx_read (va_runV (As := [.int r4]) (rest := [.int x1, .ref (q 13)]) ⟨hx, hb, hml, hown, hts⟩ (c_Y_leadsOf l dC dI q cA pt σ r4 _ hcl) (cw_Y_96 hts ⟨Nat.le_of_ble_eq_true rfl, Nat.le_of_ble_eq_true rfl⟩) ⟨pxX_B, va_recv hK hP (ci := 2) (q0 := 8) rfl rfl, pxX_U hP hK hD hN hZ hS⟩ rfl rfl hl.1 rfl (lv_room (Nat.le_of_ble_eq_true rfl)) d_Y_findLeads_56 ⟨Nat.zero_le _, Nat.zero_le _⟩) ?_
        obtain ⟨hgd, h⟩ := gd_some h
        refine as_X_13 hx hb hK hP hD hS hgd d_Y_findLeads_59 (fun H locs hP hS => ?_)
        obtain ⟨σ2, eσ2, h⟩ := st_some h
        rw [← eσ2] at hP
        have hD : va_D (AX q) (wX q cA σ2) := dd_re (wX_f _ _ _ _) hD
        refine lv_iinc (v := x1 + 1) hx hb d_Y_findLeads_60 hl (k := 1) rfl rfl (by decide) rfl (fun ls hl => ?_)
        have hl : lv_has ls 3 [(1, .int (x1 + 1)), (0, .ref (q 8))] := hl
        refine lv_goto (tgt := 36) hx hb d_Y_findLeads_63 rfl ?_
        exact ih36 _ _ h _ _ _ hP hS (lv_sub hl [1, 0] rfl)
  have L6 : ∀ (N6 : Nat) (σ : MZ_) (x1 : Int32), f_Y_findLeads_L6 N6 σ x1 = some u → ∀ (H : Heap) (locs : List Loc) (ls : Array Slot), va_P (dC, dI) cls_ (wX q cA σ) H → va_S (AX q) s.heap H locs → lv_has ls 3 [(0, .ref (q 8)), (1, .int x1)] → W p l e (headSpec w_Y_findLeads rm_Y_findLeads).room s m ([.ref (q 8)] : List Value).toArray below meth c H locs 0 0 (MQ below (QW_ none (fun H => va_P (dC, dI) cls_ (wX q cA u) H) (AX q)) ([.ref (q 8)] : List Value).toArray s 0 0 (AX q)) (F0 m 6 ls []) := by
    intro N6
    induction N6 with
    | zero => intro σ x1 h; cases h
    | succ N6 ih6 =>
      intro σ x1 h H locs ls hP hS hl
      have hD : va_D (AX q) (wX q cA σ) := dd_re (wX_f _ _ _ _) hD
      rw [f_Y_findLeads_L6] at h
      refine lv_iload_n hx hb d_Y_findLeads_6 rfl (lv_at hl 1 rfl) ?_
      refine lv_aload_n hx hb d_Y_findLeads_7 rfl (lv_at hl 0 rfl) ?_
      refine gf_Y_28 hx hb hts hown hK hP d_Y_findLeads_8 ?_
      obtain ⟨r2, hcl, h⟩ := bd_some h
      refine cx_read (va_runV (As := []) (rest := [.int x1]) ⟨hx, hb, hml, hown, hts⟩ (c_G_size l dC dI q cA pt σ _ hcl) (cw_Y_69 hts ⟨Nat.le_of_ble_eq_true rfl, Nat.le_of_ble_eq_true rfl⟩) ⟨pxX_B, va_recv hK hP (ci := 1) (q0 := 1) rfl rfl, pxX_U hP hK hD hN hZ hS⟩ rfl rfl hl.1 rfl (lv_room (Nat.le_of_ble_eq_true rfl)) d_Y_findLeads_11 ⟨Nat.zero_le _, Nat.zero_le _⟩) ?_
      refine lv_icmp_ge (tgt := 34) hx hb d_Y_findLeads_14 rfl (fun hc => ?_) (fun hc => ?_)
      · have h := if_t hc h
        refine lv_iconst (v := 0) hx hb d_Y_findLeads_34 (by decide) ?_
        refine lv_istore_n hx hb d_Y_findLeads_35 rfl hl (by decide) rfl (fun ls hl => ?_)
        have hl : lv_has ls 3 [(1, .int 0), (0, .ref (q 8))] := hl
        exact L36 _ _ _ h _ _ _ hP hS (lv_sub hl [1, 0] rfl)
      · have h := if_f hc h
        refine lv_aload_n hx hb d_Y_findLeads_17 rfl (lv_at hl 0 rfl) ?_
        refine gf_Y_21 hx hb hts hown hK hP d_Y_findLeads_18 ?_
        refine lv_iload_n hx hb d_Y_findLeads_21 rfl (lv_at hl 1 rfl) ?_
        refine lv_aload_n hx hb d_Y_findLeads_22 rfl (lv_at hl 0 rfl) ?_
        refine lv_iload_n hx hb d_Y_findLeads_23 rfl (lv_at hl 1 rfl) ?_
        obtain ⟨r3, hcl, h⟩ := bd_some h
        refine cx_read (va_runV (As := [.int x1]) (rest := [.int x1, .ref (q 12)]) ⟨hx, hb, hml, hown, hts⟩ (c_Y_leadsByParts l dC dI q cA pt σ x1 _ hcl) (cw_Y_93 hts ⟨Nat.le_of_ble_eq_true rfl, Nat.le_of_ble_eq_true rfl⟩) ⟨pxX_B, va_recv hK hP (ci := 2) (q0 := 8) rfl rfl, pxX_U hP hK hD hN hZ hS⟩ rfl rfl hl.1 rfl (lv_room (Nat.le_of_ble_eq_true rfl)) d_Y_findLeads_24 ⟨Nat.zero_le _, Nat.zero_le _⟩) ?_
        obtain ⟨hgd, h⟩ := gd_some h
        refine as_X_12 hx hb hK hP hD hS hgd d_Y_findLeads_27 (fun H locs hP hS => ?_)
        obtain ⟨σ1, eσ1, h⟩ := st_some h
        rw [← eσ1] at hP
        have hD : va_D (AX q) (wX q cA σ1) := dd_re (wX_f _ _ _ _) hD
        refine lv_iinc (v := x1 + 1) hx hb d_Y_findLeads_28 hl (k := 1) rfl rfl (by decide) rfl (fun ls hl => ?_)
        have hl : lv_has ls 3 [(1, .int (x1 + 1)), (0, .ref (q 8))] := hl
        refine lv_goto (tgt := 6) hx hb d_Y_findLeads_31 rfl ?_
        exact ih6 _ _ h _ _ _ hP hS (lv_sub hl [1, 0] rfl)
  rw [f_Y_findLeads] at h
  refine lv_aload_n hx hb d_Y_findLeads_0 rfl (lv_at hl 0 rfl) ?_
  obtain ⟨u1, hcl, h⟩ := bd_some h
  refine cx_wrv (va_runV (As := []) (rest := []) ⟨hx, hb, hml, hown, hts⟩ (c_Y_findEmptyNodes l dC dI q cA pt σ _ hcl) (cw_Y_32 hts ⟨Nat.le_of_ble_eq_true rfl, Nat.le_of_ble_eq_true rfl⟩) ⟨pxX_B, va_recv hK hP (ci := 2) (q0 := 8) rfl rfl, pxX_U hP hK hD hN hZ hS⟩ rfl rfl hl.1 rfl (lv_room (Nat.le_of_ble_eq_true rfl)) d_Y_findLeads_1 ⟨Nat.zero_le _, Nat.zero_le _⟩) hS (fun _ h => h) (fun H locs hP hS => ?_)
  have hD : va_D (AX q) (wX q cA u1) := dd_re (wX_f _ _ _ _) hD
  refine lv_iconst (v := 0) hx hb d_Y_findLeads_4 (by decide) ?_
  refine lv_istore_n hx hb d_Y_findLeads_5 rfl hl (by decide) rfl (fun ls hl => ?_)
  have hl : lv_has ls 3 [(1, .int 0), (0, .ref (q 8))] := hl
  exact L6 _ _ _ h _ _ _ hP hS (lv_sub hl [1, 0] rfl)
