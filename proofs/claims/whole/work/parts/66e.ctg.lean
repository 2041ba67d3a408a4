/-! constructor of StagedParsers$Grammar -/
def fw_G (h0 : Nat) (u : IU_) : va_W := [(h0, .inr (1, [.ref (u.1 2), .ref (u.1 3), .ref (u.1 4), .ref (u.1 5), .ref (u.1 6), .ref (u.1 7), .int 0])), (u.1 2, .inl (u.2.1 2, 80, .inl (fun _ => 0))), (u.1 3, .inl (u.2.1 3, 80, .inl (fun _ => 0))), (u.1 4, .inl (u.2.1 4, 80, .inl (fun _ => 0))), (u.1 5, .inl (u.2.1 5, 80, .inl (fun _ => 0))), (u.1 6, .inl (u.2.1 6, 80, .inl (fun _ => 0))), (u.1 7, .inl (u.2.1 7, 6, .inl u.2.2))]
def ft_G (u : IU_) : List (ClassId × FieldType) := [(u.2.1 2, .int), (u.2.1 3, .int), (u.2.1 4, .int), (u.2.1 5, .int), (u.2.1 6, .int), (u.2.1 7, .int)]
def y_G_init : MethodName := ⟨"StagedParsers$Grammar", "<init>", "()V"⟩
def w_G_init : List Cond := .code y_G_init prog_4_method_1_code 1 none :: AW_
def rm_G_init : Room := { frames := 1, cells := 6, slots := 406, locals := 23 }
theorem d_G_init_0 : decode prog_4_method_1_code 0 = .ok (.aload_n 0, 1) := by decide +kernel
theorem d_G_init_1 : decode prog_4_method_1_code 1 = .ok (.invokespecial 3, 3) := by decide +kernel
theorem d_G_init_4 : decode prog_4_method_1_code 4 = .ok (.aload_n 0, 1) := by decide +kernel
theorem d_G_init_5 : decode prog_4_method_1_code 5 = .ok (.bipush 80, 2) := by decide +kernel
theorem d_G_init_7 : decode prog_4_method_1_code 7 = .ok (.newarray .int, 2) := by decide +kernel
theorem d_G_init_9 : decode prog_4_method_1_code 9 = .ok (.putfield 9, 3) := by decide +kernel
theorem d_G_init_12 : decode prog_4_method_1_code 12 = .ok (.aload_n 0, 1) := by decide +kernel
theorem d_G_init_13 : decode prog_4_method_1_code 13 = .ok (.bipush 80, 2) := by decide +kernel
theorem d_G_init_15 : decode prog_4_method_1_code 15 = .ok (.newarray .int, 2) := by decide +kernel
theorem d_G_init_17 : decode prog_4_method_1_code 17 = .ok (.putfield 15, 3) := by decide +kernel
theorem d_G_init_20 : decode prog_4_method_1_code 20 = .ok (.aload_n 0, 1) := by decide +kernel
theorem d_G_init_21 : decode prog_4_method_1_code 21 = .ok (.bipush 80, 2) := by decide +kernel
theorem d_G_init_23 : decode prog_4_method_1_code 23 = .ok (.newarray .int, 2) := by decide +kernel
theorem d_G_init_25 : decode prog_4_method_1_code 25 = .ok (.putfield 18, 3) := by decide +kernel
theorem d_G_init_28 : decode prog_4_method_1_code 28 = .ok (.aload_n 0, 1) := by decide +kernel
theorem d_G_init_29 : decode prog_4_method_1_code 29 = .ok (.bipush 80, 2) := by decide +kernel
theorem d_G_init_31 : decode prog_4_method_1_code 31 = .ok (.newarray .int, 2) := by decide +kernel
theorem d_G_init_33 : decode prog_4_method_1_code 33 = .ok (.putfield 21, 3) := by decide +kernel
theorem d_G_init_36 : decode prog_4_method_1_code 36 = .ok (.aload_n 0, 1) := by decide +kernel
theorem d_G_init_37 : decode prog_4_method_1_code 37 = .ok (.bipush 80, 2) := by decide +kernel
theorem d_G_init_39 : decode prog_4_method_1_code 39 = .ok (.newarray .int, 2) := by decide +kernel
theorem d_G_init_41 : decode prog_4_method_1_code 41 = .ok (.putfield 24, 3) := by decide +kernel
theorem d_G_init_44 : decode prog_4_method_1_code 44 = .ok (.aload_n 0, 1) := by decide +kernel
theorem d_G_init_45 : decode prog_4_method_1_code 45 = .ok (.bipush 6, 2) := by decide +kernel
theorem d_G_init_47 : decode prog_4_method_1_code 47 = .ok (.newarray .int, 2) := by decide +kernel
theorem d_G_init_49 : decode prog_4_method_1_code 49 = .ok (.putfield 27, 3) := by decide +kernel
theorem d_G_init_52 : decode prog_4_method_1_code 52 = .ok (.aload_n 0, 1) := by decide +kernel
theorem d_G_init_53 : decode prog_4_method_1_code 53 = .ok (.getfield 27, 3) := by decide +kernel
theorem d_G_init_56 : decode prog_4_method_1_code 56 = .ok (.iconst (-1), 1) := by decide +kernel
theorem d_G_init_57 : decode prog_4_method_1_code 57 = .ok (.invokestatic 30, 3) := by decide +kernel
theorem d_G_init_60 : decode prog_4_method_1_code 60 = .ok (.return_, 1) := by decide +kernel
set_option maxHeartbeats 8000000 in
set_option maxRecDepth 100000 in
theorem c_G_init (l : Launch) (dC : Nat → ClassId) (dI : Nat → Nat → Nat) (h0 sz : Nat) : Met l y_G_init w_G_init rm_G_init (va_Pc [.ref h0] (PI_ dC dI [(h0, .inr (1, [.null, .null, .null, .null, .null, .null, .int 0]))] sz)) (va_Qv (fun u : IU_ => ∀ j, j < 6 → u.2.2 j = -1) (fun u t => va_P (dC, dI) cls_ (fw_G h0 u) t.heap ∧ va_K (dC, dI) cls_ (ft_G u) t ∧ va_D (va_A [(h0, .inr (1, [.null, .null, .null, .null, .null, .null, .int 0]))] sz) (fw_G h0 u)) (va_A [(h0, .inr (1, [.null, .null, .null, .null, .null, .null, .int 0]))] sz)) 6 406 (va_A [(h0, .inr (1, [.null, .null, .null, .null, .null, .null, .int 0]))] sz) := by
  refine Met.ofW (cc := prog_4_method_1_code) (maxL := 1) (ret := none) (by decide) rfl ?_
  intro p e s m args below meth c s₁ B hml hv
  obtain ⟨rfl, hsz, hP, hK, hD0, hN⟩ := hv
  have hx := B.exec
  have hb := B.bytes
  have hr := B.returns
  have hts : ∀ w ∈ AW_, w.before _ s = true := fun w h => atoms_spec (ws := w_G_init) B.pre w (List.mem_cons_of_mem _ h)
  have hown : s.vm.findClass "StagedParsers$Grammar" = some m.cls := findClass_of_methodNamed B.named
  have hlocks := B.notSynchronized
  have hin : meth.name = "<init>" := (name_of_methodNamed B.named B.method).1
  subst hsz
  have hD := hD0.self (sz := s.heap.size)
  generalize hAe : va_A [(h0, .inr (1, [.null, .null, .null, .null, .null, .null, .int 0]))] s.heap.size = A at hD ⊢
  have hA : ∀ q : Nat, s.heap.size ≤ q → A q := fun q h => by rw [← hAe]; exact Or.inr h
  have hS : va_S A s.heap s.heap [] := va_S.rf
  have hl := lv_entry ([.ref h0]) (n := 1) (Nat.le_of_ble_eq_true rfl)
  rw [lg_entry_eq]
  generalize (lg_sl ([.ref h0]) ++ List.replicate (1 - (lg_sl ([.ref h0])).length) Slot.unset).toArray = ls at hl ⊢
  have hl : lv_has ls 1 [(0, .ref h0)] := hl
  have hP : va_P (dC, dI) cls_ [(h0, .inr (1, [.null, .null, .null, .null, .null, .null, .int 0]))] s.heap := hP
  have hK : va_K (dC, dI) cls_ [] s := hK
  refine lv_aload_n hx hb d_G_init_0 rfl (lv_at hl 0 rfl) ?_
  refine W.objInit hx hb hown (hts _ kw_31) (hts _ kw_24) (hts _ kw_25) rfl (by rw [hml]; exact hl.1) rfl d_G_init_1 (Nat.le_of_ble_eq_true rfl) (Nat.le_of_ble_eq_true rfl) ?_
  refine W.eq (g2 := F0 m 4 ls []) rfl ?_
  refine lv_aload_n hx hb d_G_init_4 rfl (lv_at hl 0 rfl) ?_
  refine lv_bipush (v := 80) hx hb d_G_init_5 (by decide) ?_
  refine va_newa (atype := .int) (ty := .int) (n := 80) (a0 := (80, .inl (fun _ => 0))) (N' := 80) hx hb (hts _ kw_57) rfl hK hP hD hS hA (fun cA => na_i cA 80) (by decide) (by decide) (by decide) (Nat.le_of_ble_eq_true rfl) (Nat.le_of_ble_eq_true rfl) d_G_init_7 (fun q7 c7 H hK hP hD hS => ?_)
  have hP : va_P (dC, dI) cls_ [(h0, .inr (1, [.null, .null, .null, .null, .null, .null, .int 0])), (q7, .inl (c7, 80, .inl (fun _ => 0)))] H := hP
  have hD : va_D A [(h0, .inr (1, [.null, .null, .null, .null, .null, .null, .int 0])), (q7, .inl (c7, 80, .inl (fun _ => 0)))] := hD
  have hK : va_K (dC, dI) cls_ [(c7, .int)] s := hK
  refine va_putF (D := (dC, dI)) (cl := cls_) (ci := 1) (v := .ref q7) (ty := (.array .int)) (C := Rz_G) (T := Tz_G) (N := 7) hx hb hts uz_G tz_G tz_G_ok nz_G hown hK hP hD hS 0 rfl rfl 0 (by decide) (hts _ kw_35) (fun _ h9 => h9) rfl hin rfl (by decide +kernel) rfl rfl (Nat.le_of_ble_eq_true rfl) d_G_init_9 (fun H locs hP hD hS => ?_)
  have hP : va_P (dC, dI) cls_ [(h0, .inr (1, [.ref q7, .null, .null, .null, .null, .null, .int 0])), (q7, .inl (c7, 80, .inl (fun _ => 0)))] H := hP
  have hD : va_D A [(h0, .inr (1, [.ref q7, .null, .null, .null, .null, .null, .int 0])), (q7, .inl (c7, 80, .inl (fun _ => 0)))] := hD
  refine lv_aload_n hx hb d_G_init_12 rfl (lv_at hl 0 rfl) ?_
  refine lv_bipush (v := 80) hx hb d_G_init_13 (by decide) ?_
  refine va_newa (atype := .int) (ty := .int) (n := 80) (a0 := (80, .inl (fun _ => 0))) (N' := 80) hx hb (hts _ kw_57) rfl hK hP hD hS hA (fun cA => na_i cA 80) (by decide) (by decide) (by decide) (Nat.le_of_ble_eq_true rfl) (Nat.le_of_ble_eq_true rfl) d_G_init_15 (fun q15 c15 H hK hP hD hS => ?_)
  have hP : va_P (dC, dI) cls_ [(h0, .inr (1, [.ref q7, .null, .null, .null, .null, .null, .int 0])), (q7, .inl (c7, 80, .inl (fun _ => 0))), (q15, .inl (c15, 80, .inl (fun _ => 0)))] H := hP
  have hD : va_D A [(h0, .inr (1, [.ref q7, .null, .null, .null, .null, .null, .int 0])), (q7, .inl (c7, 80, .inl (fun _ => 0))), (q15, .inl (c15, 80, .inl (fun _ => 0)))] := hD
  have hK : va_K (dC, dI) cls_ [(c7, .int), (c15, .int)] s := hK
  refine va_putF (D := (dC, dI)) (cl := cls_) (ci := 1) (v := .ref q15) (ty := (.array .int)) (C := Rz_G) (T := Tz_G) (N := 7) hx hb hts uz_G tz_G tz_G_ok nz_G hown hK hP hD hS 0 rfl rfl 1 (by decide) (hts _ kw_36) (fun _ h9 => h9) rfl hin rfl (by decide +kernel) rfl rfl (Nat.le_of_ble_eq_true rfl) d_G_init_17 (fun H locs hP hD hS => ?_)
  have hP : va_P (dC, dI) cls_ [(h0, .inr (1, [.ref q7, .ref q15, .null, .null, .null, .null, .int 0])), (q7, .inl (c7, 80, .inl (fun _ => 0))), (q15, .inl (c15, 80, .inl (fun _ => 0)))] H := hP
  have hD : va_D A [(h0, .inr (1, [.ref q7, .ref q15, .null, .null, .null, .null, .int 0])), (q7, .inl (c7, 80, .inl (fun _ => 0))), (q15, .inl (c15, 80, .inl (fun _ => 0)))] := hD
  refine lv_aload_n hx hb d_G_init_20 rfl (lv_at hl 0 rfl) ?_
  refine lv_bipush (v := 80) hx hb d_G_init_21 (by decide) ?_
  refine va_newa (atype := .int) (ty := .int) (n := 80) (a0 := (80, .inl (fun _ => 0))) (N' := 80) hx hb (hts _ kw_57) rfl hK hP hD hS hA (fun cA => na_i cA 80) (by decide) (by decide) (by decide) (Nat.le_of_ble_eq_true rfl) (Nat.le_of_ble_eq_true rfl) d_G_init_23 (fun q23 c23 H hK hP hD hS => ?_)
  have hP : va_P (dC, dI) cls_ [(h0, .inr (1, [.ref q7, .ref q15, .null, .null, .null, .null, .int 0])), (q7, .inl (c7, 80, .inl (fun _ => 0))), (q15, .inl (c15, 80, .inl (fun _ => 0))), (q23, .inl (c23, 80, .inl (fun _ => 0)))] H := hP
  have hD : va_D A [(h0, .inr (1, [.ref q7, .ref q15, .null, .null, .null, .null, .int 0])), (q7, .inl (c7, 80, .inl (fun _ => 0))), (q15, .inl (c15, 80, .inl (fun _ => 0))), (q23, .inl (c23, 80, .inl (fun _ => 0)))] := hD
  have hK : va_K (dC, dI) cls_ [(c7, .int), (c15, .int), (c23, .int)] s := hK
  refine va_putF (D := (dC, dI)) (cl := cls_) (ci := 1) (v := .ref q23) (ty := (.array .int)) (C := Rz_G) (T := Tz_G) (N := 7) hx hb hts uz_G tz_G tz_G_ok nz_G hown hK hP hD hS 0 rfl rfl 2 (by decide) (hts _ kw_37) (fun _ h9 => h9) rfl hin rfl (by decide +kernel) rfl rfl (Nat.le_of_ble_eq_true rfl) d_G_init_25 (fun H locs hP hD hS => ?_)
  have hP : va_P (dC, dI) cls_ [(h0, .inr (1, [.ref q7, .ref q15, .ref q23, .null, .null, .null, .int 0])), (q7, .inl (c7, 80, .inl (fun _ => 0))), (q15, .inl (c15, 80, .inl (fun _ => 0))), (q23, .inl (c23, 80, .inl (fun _ => 0)))] H := hP
  have hD : va_D A [(h0, .inr (1, [.ref q7, .ref q15, .ref q23, .null, .null, .null, .int 0])), (q7, .inl (c7, 80, .inl (fun _ => 0))), (q15, .inl (c15, 80, .inl (fun _ => 0))), (q23, .inl (c23, 80, .inl (fun _ => 0)))] := hD
  refine lv_aload_n hx hb d_G_init_28 rfl (lv_at hl 0 rfl) ?_
  refine lv_bipush (v := 80) hx hb d_G_init_29 (by decide) ?_
  refine va_newa (atype := .int) (ty := .int) (n := 80) (a0 := (80, .inl (fun _ => 0))) (N' := 80) hx hb (hts _ kw_57) rfl hK hP hD hS hA (fun cA => na_i cA 80) (by decide) (by decide) (by decide) (Nat.le_of_ble_eq_true rfl) (Nat.le_of_ble_eq_true rfl) d_G_init_31 (fun q31 c31 H hK hP hD hS => ?_)
  have hP : va_P (dC, dI) cls_ [(h0, .inr (1, [.ref q7, .ref q15, .ref q23, .null, .null, .null, .int 0])), (q7, .inl (c7, 80, .inl (fun _ => 0))), (q15, .inl (c15, 80, .inl (fun _ => 0))), (q23, .inl (c23, 80, .inl (fun _ => 0))), (q31, .inl (c31, 80, .inl (fun _ => 0)))] H := hP
  have hD : va_D A [(h0, .inr (1, [.ref q7, .ref q15, .ref q23, .null, .null, .null, .int 0])), (q7, .inl (c7, 80, .inl (fun _ => 0))), (q15, .inl (c15, 80, .inl (fun _ => 0))), (q23, .inl (c23, 80, .inl (fun _ => 0))), (q31, .inl (c31, 80, .inl (fun _ => 0)))] := hD
  have hK : va_K (dC, dI) cls_ [(c7, .int), (c15, .int), (c23, .int), (c31, .int)] s := hK
  refine va_putF (D := (dC, dI)) (cl := cls_) (ci := 1) (v := .ref q31) (ty := (.array .int)) (C := Rz_G) (T := Tz_G) (N := 7) hx hb hts uz_G tz_G tz_G_ok nz_G hown hK hP hD hS 0 rfl rfl 3 (by decide) (hts _ kw_38) (fun _ h9 => h9) rfl hin rfl (by decide +kernel) rfl rfl (Nat.le_of_ble_eq_true rfl) d_G_init_33 (fun H locs hP hD hS => ?_)
  have hP : va_P (dC, dI) cls_ [(h0, .inr (1, [.ref q7, .ref q15, .ref q23, .ref q31, .null, .null, .int 0])), (q7, .inl (c7, 80, .inl (fun _ => 0))), (q15, .inl (c15, 80, .inl (fun _ => 0))), (q23, .inl (c23, 80, .inl (fun _ => 0))), (q31, .inl (c31, 80, .inl (fun _ => 0)))] H := hP
  have hD : va_D A [(h0, .inr (1, [.ref q7, .ref q15, .ref q23, .ref q31, .null, .null, .int 0])), (q7, .inl (c7, 80, .inl (fun _ => 0))), (q15, .inl (c15, 80, .inl (fun _ => 0))), (q23, .inl (c23, 80, .inl (fun _ => 0))), (q31, .inl (c31, 80, .inl (fun _ => 0)))] := hD
  refine lv_aload_n hx hb d_G_init_36 rfl (lv_at hl 0 rfl) ?_
  refine lv_bipush (v := 80) hx hb d_G_init_37 (by decide) ?_
  refine va_newa (atype := .int) (ty := .int) (n := 80) (a0 := (80, .inl (fun _ => 0))) (N' := 80) hx hb (hts _ kw_57) rfl hK hP hD hS hA (fun cA => na_i cA 80) (by decide) (by decide) (by decide) (Nat.le_of_ble_eq_true rfl) (Nat.le_of_ble_eq_true rfl) d_G_init_39 (fun q39 c39 H hK hP hD hS => ?_)
  have hP : va_P (dC, dI) cls_ [(h0, .inr (1, [.ref q7, .ref q15, .ref q23, .ref q31, .null, .null, .int 0])), (q7, .inl (c7, 80, .inl (fun _ => 0))), (q15, .inl (c15, 80, .inl (fun _ => 0))), (q23, .inl (c23, 80, .inl (fun _ => 0))), (q31, .inl (c31, 80, .inl (fun _ => 0))), (q39, .inl (c39, 80, .inl (fun _ => 0)))] H := hP
  have hD : va_D A [(h0, .inr (1, [.ref q7, .ref q15, .ref q23, .ref q31, .null, .null, .int 0])), (q7, .inl (c7, 80, .inl (fun _ => 0))), (q15, .inl (c15, 80, .inl (fun _ => 0))), (q23, .inl (c23, 80, .inl (fun _ => 0))), (q31, .inl (c31, 80, .inl (fun _ => 0))), (q39, .inl (c39, 80, .inl (fun _ => 0)))] := hD
  have hK : va_K (dC, dI) cls_ [(c7, .int), (c15, .int), (c23, .int), (c31, .int), (c39, .int)] s := hK
  refine va_putF (D := (dC, dI)) (cl := cls_) (ci := 1) (v := .ref q39) (ty := (.array .int)) (C := Rz_G) (T := Tz_G) (N := 7) hx hb hts uz_G tz_G tz_G_ok nz_G hown hK hP hD hS 0 rfl rfl 4 (by decide) (hts _ kw_39) (fun _ h9 => h9) rfl hin rfl (by decide +kernel) rfl rfl (Nat.le_of_ble_eq_true rfl) d_G_init_41 (fun H locs hP hD hS => ?_)
  have hP : va_P (dC, dI) cls_ [(h0, .inr (1, [.ref q7, .ref q15, .ref q23, .ref q31, .ref q39, .null, .int 0])), (q7, .inl (c7, 80, .inl (fun _ => 0))), (q15, .inl (c15, 80, .inl (fun _ => 0))), (q23, .inl (c23, 80, .inl (fun _ => 0))), (q31, .inl (c31, 80, .inl (fun _ => 0))), (q39, .inl (c39, 80, .inl (fun _ => 0)))] H := hP
  have hD : va_D A [(h0, .inr (1, [.ref q7, .ref q15, .ref q23, .ref q31, .ref q39, .null, .int 0])), (q7, .inl (c7, 80, .inl (fun _ => 0))), (q15, .inl (c15, 80, .inl (fun _ => 0))), (q23, .inl (c23, 80, .inl (fun _ => 0))), (q31, .inl (c31, 80, .inl (fun _ => 0))), (q39, .inl (c39, 80, .inl (fun _ => 0)))] := hD
  refine lv_aload_n hx hb d_G_init_44 rfl (lv_at hl 0 rfl) ?_
  refine lv_bipush (v := 6) hx hb d_G_init_45 (by decide) ?_
  refine va_newa (atype := .int) (ty := .int) (n := 6) (a0 := (6, .inl (fun _ => 0))) (N' := 6) hx hb (hts _ kw_57) rfl hK hP hD hS hA (fun cA => na_i cA 6) (by decide) (by decide) (by decide) (Nat.le_of_ble_eq_true rfl) (Nat.le_of_ble_eq_true rfl) d_G_init_47 (fun q47 c47 H hK hP hD hS => ?_)
  have hP : va_P (dC, dI) cls_ [(h0, .inr (1, [.ref q7, .ref q15, .ref q23, .ref q31, .ref q39, .null, .int 0])), (q7, .inl (c7, 80, .inl (fun _ => 0))), (q15, .inl (c15, 80, .inl (fun _ => 0))), (q23, .inl (c23, 80, .inl (fun _ => 0))), (q31, .inl (c31, 80, .inl (fun _ => 0))), (q39, .inl (c39, 80, .inl (fun _ => 0))), (q47, .inl (c47, 6, .inl (fun _ => 0)))] H := hP
  have hD : va_D A [(h0, .inr (1, [.ref q7, .ref q15, .ref q23, .ref q31, .ref q39, .null, .int 0])), (q7, .inl (c7, 80, .inl (fun _ => 0))), (q15, .inl (c15, 80, .inl (fun _ => 0))), (q23, .inl (c23, 80, .inl (fun _ => 0))), (q31, .inl (c31, 80, .inl (fun _ => 0))), (q39, .inl (c39, 80, .inl (fun _ => 0))), (q47, .inl (c47, 6, .inl (fun _ => 0)))] := hD
  have hK : va_K (dC, dI) cls_ [(c7, .int), (c15, .int), (c23, .int), (c31, .int), (c39, .int), (c47, .int)] s := hK
  refine va_putF (D := (dC, dI)) (cl := cls_) (ci := 1) (v := .ref q47) (ty := (.array .int)) (C := Rz_G) (T := Tz_G) (N := 7) hx hb hts uz_G tz_G tz_G_ok nz_G hown hK hP hD hS 0 rfl rfl 5 (by decide) (hts _ kw_40) (fun _ h9 => h9) rfl hin rfl (by decide +kernel) rfl rfl (Nat.le_of_ble_eq_true rfl) d_G_init_49 (fun H locs hP hD hS => ?_)
  have hP : va_P (dC, dI) cls_ [(h0, .inr (1, [.ref q7, .ref q15, .ref q23, .ref q31, .ref q39, .ref q47, .int 0])), (q7, .inl (c7, 80, .inl (fun _ => 0))), (q15, .inl (c15, 80, .inl (fun _ => 0))), (q23, .inl (c23, 80, .inl (fun _ => 0))), (q31, .inl (c31, 80, .inl (fun _ => 0))), (q39, .inl (c39, 80, .inl (fun _ => 0))), (q47, .inl (c47, 6, .inl (fun _ => 0)))] H := hP
  have hD : va_D A [(h0, .inr (1, [.ref q7, .ref q15, .ref q23, .ref q31, .ref q39, .ref q47, .int 0])), (q7, .inl (c7, 80, .inl (fun _ => 0))), (q15, .inl (c15, 80, .inl (fun _ => 0))), (q23, .inl (c23, 80, .inl (fun _ => 0))), (q31, .inl (c31, 80, .inl (fun _ => 0))), (q39, .inl (c39, 80, .inl (fun _ => 0))), (q47, .inl (c47, 6, .inl (fun _ => 0)))] := hD
  refine lv_aload_n hx hb d_G_init_52 rfl (lv_at hl 0 rfl) ?_
  refine va_get (D := (dC, dI)) (cl := cls_) (ci := 1) (v := .ref q47) (C := Rz_G) (T := Tz_G) (N := 7) hx hb hts uz_G hown hK hP 0 rfl rfl 5 (by decide) (hts _ kw_40) (fun _ h9 => h9) rfl d_G_init_53 ?_
  refine lv_iconst (v := (-1)) hx hb d_G_init_56 (by decide) ?_
  obtain ⟨uf, huf, hul⟩ := fill_is (fun _ _ => 0)
  have hPc := hP.sub (ws' := wF_ q47 c47 (fun _ _ => 0)) [6] rfl
  have hKc := hK.sub (tys' := [(c47, .int)]) [5] rfl
  have hPr := hP.sub (ws' := [(h0, .inr (1, [.ref q7, .ref q15, .ref q23, .ref q31, .ref q39, .ref q47, .int 0])), (q7, .inl (c7, 80, .inl (fun _ => 0))), (q15, .inl (c15, 80, .inl (fun _ => 0))), (q23, .inl (c23, 80, .inl (fun _ => 0))), (q31, .inl (c31, 80, .inl (fun _ => 0))), (q39, .inl (c39, 80, .inl (fun _ => 0)))]) [0, 1, 2, 3, 4, 5] rfl
  have hDr := hD.sub (ws' := [(h0, .inr (1, [.ref q7, .ref q15, .ref q23, .ref q31, .ref q39, .ref q47, .int 0])), (q7, .inl (c7, 80, .inl (fun _ => 0))), (q15, .inl (c15, 80, .inl (fun _ => 0))), (q23, .inl (c23, 80, .inl (fun _ => 0))), (q31, .inl (c31, 80, .inl (fun _ => 0))), (q39, .inl (c39, 80, .inl (fun _ => 0))), (q47, .inl (c47, 6, .inl (fun _ => 0)))]) [0, 1, 2, 3, 4, 5, 6] (by decide) rfl
  have hAr : ∀ q, q = q47 → A q := fun q h => by rw [h]; exact hD.2 6 _ rfl
  refine cx_wr (va_runS (As := [.ref q47, .int (-1)]) (rest := []) ⟨hx, hb, hml, hown, hts⟩ (c_fill_ l dC dI q47 c47 (fun _ _ => 0) (-1) uf huf) ⟨callB_of 2 hts (aw_in kw_34) rfl rfl rfl (hts _ kw_3) (hts _ kw_32) ⟨by decide, by decide, by decide +kernel⟩ ⟨Nat.le_of_ble_eq_true rfl, Nat.le_of_ble_eq_true rfl⟩, hts _ kw_33⟩ ⟨fillB, fun U hU hW => ⟨rfl, by rw [hU]; exact hPc, va_K.moved hW.alike hKc⟩⟩ rfl rfl hl.1 rfl (lv_room (Nat.le_of_ble_eq_true rfl)) d_G_init_57 ⟨Nat.le_of_ble_eq_true rfl, Nat.le_of_ble_eq_true rfl⟩) hS hAr (fun H1 locs hB hF hS => ?_)
  have hP := va_P.app (wf_join hPr hDr hF.2) hB
  generalize H1 = H at hP hS ⊢
  have hD : va_D A [(h0, .inr (1, [.ref q7, .ref q15, .ref q23, .ref q31, .ref q39, .ref q47, .int 0])), (q7, .inl (c7, 80, .inl (fun _ => 0))), (q15, .inl (c15, 80, .inl (fun _ => 0))), (q23, .inl (c23, 80, .inl (fun _ => 0))), (q31, .inl (c31, 80, .inl (fun _ => 0))), (q39, .inl (c39, 80, .inl (fun _ => 0))), (q47, .inl (c47, 6, .inl (uf 7)))] := dd_re (w := [(h0, .inr (1, [.ref q7, .ref q15, .ref q23, .ref q31, .ref q39, .ref q47, .int 0])), (q7, .inl (c7, 80, .inl (fun _ => 0))), (q15, .inl (c15, 80, .inl (fun _ => 0))), (q23, .inl (c23, 80, .inl (fun _ => 0))), (q31, .inl (c31, 80, .inl (fun _ => 0))), (q39, .inl (c39, 80, .inl (fun _ => 0))), (q47, .inl (c47, 6, .inl (fun _ => 0)))]) rfl hDr
  have hP : va_P (dC, dI) cls_ [(h0, .inr (1, [.ref q7, .ref q15, .ref q23, .ref q31, .ref q39, .ref q47, .int 0])), (q7, .inl (c7, 80, .inl (fun _ => 0))), (q15, .inl (c15, 80, .inl (fun _ => 0))), (q23, .inl (c23, 80, .inl (fun _ => 0))), (q31, .inl (c31, 80, .inl (fun _ => 0))), (q39, .inl (c39, 80, .inl (fun _ => 0))), (q47, .inl (c47, 6, .inl (uf 7)))] H := hP
  have hD : va_D A [(h0, .inr (1, [.ref q7, .ref q15, .ref q23, .ref q31, .ref q39, .ref q47, .int 0])), (q7, .inl (c7, 80, .inl (fun _ => 0))), (q15, .inl (c15, 80, .inl (fun _ => 0))), (q23, .inl (c23, 80, .inl (fun _ => 0))), (q31, .inl (c31, 80, .inl (fun _ => 0))), (q39, .inl (c39, 80, .inl (fun _ => 0))), (q47, .inl (c47, 6, .inl (uf 7)))] := hD
  have hP9 := hP.sub (ws' := fw_G h0 ((fun i => ([0, h0, q7, q15, q23, q31, q39, q47] : List Nat).getD i 0), (fun i => ([0, 0, c7, c15, c23, c31, c39, c47] : List ClassId).getD i 0), (uf 7))) [0, 1, 2, 3, 4, 5, 6] rfl
  have hD9 := hD.sub (ws' := fw_G h0 ((fun i => ([0, h0, q7, q15, q23, q31, q39, q47] : List Nat).getD i 0), (fun i => ([0, 0, c7, c15, c23, c31, c39, c47] : List ClassId).getD i 0), (uf 7))) [0, 1, 2, 3, 4, 5, 6] (by decide) rfl
  have hK9 := hK.sub (tys' := ft_G ((fun i => ([0, h0, q7, q15, q23, q31, q39, q47] : List Nat).getD i 0), (fun i => ([0, 0, c7, c15, c23, c31, c39, c47] : List ClassId).getD i 0), (uf 7))) [0, 1, 2, 3, 4, 5] rfl
  refine W.widen (k := 6) (n := 406) (Nat.le_of_ble_eq_true rfl) (Nat.le_of_ble_eq_true rfl) ?_
  exact W.vret hx hb hr (fun t ht hW => ⟨⟨((fun i => ([0, h0, q7, q15, q23, q31, q39, q47] : List Nat).getD i 0), (fun i => ([0, 0, c7, c15, c23, c31, c39, c47] : List ClassId).getD i 0), (uf 7)), rfl, hul, by rw [ht]; exact hP9, va_K.moved hW.alike hK9, hD9⟩, hS.F ht⟩) hS.2.2 d_G_init_60
