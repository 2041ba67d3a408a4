/-! constructor of StagedParsers$Study -/
def fw_Y (h0 r1 : Nat) (u : IU_) : va_W := [(h0, .inr (2, [.ref r1, .ref (u.1 9), .ref (u.1 10), .ref (u.1 11), .ref (u.1 12), .ref (u.1 13)])), (u.1 9, .inl (u.2.1 9, 80, .inl (fun _ => 0))), (u.1 10, .inl (u.2.1 10, 80, .inl (fun _ => 0))), (u.1 11, .inl (u.2.1 11, 80, .inl (fun _ => 0))), (u.1 12, .inl (u.2.1 12, 80, .inl (fun _ => 0))), (u.1 13, .inl (u.2.1 13, 6, .inl (fun _ => 0)))]
def ft_Y (u : IU_) : List (ClassId × FieldType) := [(u.2.1 9, .boolean), (u.2.1 10, .boolean), (u.2.1 11, .boolean), (u.2.1 12, .int), (u.2.1 13, .int)]
def y_Y_init : MethodName := ⟨"StagedParsers$Study", "<init>", "(LStagedParsers$Grammar;)V"⟩
def w_Y_init : List Cond := .code y_Y_init prog_6_method_1_code 2 none :: AW_
def rm_Y_init : Room := { frames := 1, cells := 5, slots := 326, locals := 12 }
theorem d_Y_init_0 : decode prog_6_method_1_code 0 = .ok (.aload_n 0, 1) := by decide +kernel
theorem d_Y_init_1 : decode prog_6_method_1_code 1 = .ok (.invokespecial 3, 3) := by decide +kernel
theorem d_Y_init_4 : decode prog_6_method_1_code 4 = .ok (.aload_n 0, 1) := by decide +kernel
theorem d_Y_init_5 : decode prog_6_method_1_code 5 = .ok (.bipush 80, 2) := by decide +kernel
theorem d_Y_init_7 : decode prog_6_method_1_code 7 = .ok (.newarray .boolean, 2) := by decide +kernel
theorem d_Y_init_9 : decode prog_6_method_1_code 9 = .ok (.putfield 9, 3) := by decide +kernel
theorem d_Y_init_12 : decode prog_6_method_1_code 12 = .ok (.aload_n 0, 1) := by decide +kernel
theorem d_Y_init_13 : decode prog_6_method_1_code 13 = .ok (.bipush 80, 2) := by decide +kernel
theorem d_Y_init_15 : decode prog_6_method_1_code 15 = .ok (.newarray .boolean, 2) := by decide +kernel
theorem d_Y_init_17 : decode prog_6_method_1_code 17 = .ok (.putfield 15, 3) := by decide +kernel
theorem d_Y_init_20 : decode prog_6_method_1_code 20 = .ok (.aload_n 0, 1) := by decide +kernel
theorem d_Y_init_21 : decode prog_6_method_1_code 21 = .ok (.bipush 80, 2) := by decide +kernel
theorem d_Y_init_23 : decode prog_6_method_1_code 23 = .ok (.newarray .boolean, 2) := by decide +kernel
theorem d_Y_init_25 : decode prog_6_method_1_code 25 = .ok (.putfield 18, 3) := by decide +kernel
theorem d_Y_init_28 : decode prog_6_method_1_code 28 = .ok (.aload_n 0, 1) := by decide +kernel
theorem d_Y_init_29 : decode prog_6_method_1_code 29 = .ok (.bipush 80, 2) := by decide +kernel
theorem d_Y_init_31 : decode prog_6_method_1_code 31 = .ok (.newarray .int, 2) := by decide +kernel
theorem d_Y_init_33 : decode prog_6_method_1_code 33 = .ok (.putfield 21, 3) := by decide +kernel
theorem d_Y_init_36 : decode prog_6_method_1_code 36 = .ok (.aload_n 0, 1) := by decide +kernel
theorem d_Y_init_37 : decode prog_6_method_1_code 37 = .ok (.bipush 6, 2) := by decide +kernel
theorem d_Y_init_39 : decode prog_6_method_1_code 39 = .ok (.newarray .int, 2) := by decide +kernel
theorem d_Y_init_41 : decode prog_6_method_1_code 41 = .ok (.putfield 25, 3) := by decide +kernel
theorem d_Y_init_44 : decode prog_6_method_1_code 44 = .ok (.aload_n 0, 1) := by decide +kernel
theorem d_Y_init_45 : decode prog_6_method_1_code 45 = .ok (.aload_n 1, 1) := by decide +kernel
theorem d_Y_init_46 : decode prog_6_method_1_code 46 = .ok (.putfield 28, 3) := by decide +kernel
theorem d_Y_init_49 : decode prog_6_method_1_code 49 = .ok (.return_, 1) := by decide +kernel
set_option maxHeartbeats 8000000 in
set_option maxRecDepth 100000 in
theorem c_Y_init (l : Launch) (dC : Nat → ClassId) (dI : Nat → Nat → Nat) (h0 r1 sz : Nat) : Met l y_Y_init w_Y_init rm_Y_init (va_Pc [.ref h0, .ref r1] (PI_ dC dI [(h0, .inr (2, [.null, .null, .null, .null, .null, .null]))] sz)) (va_Qv (fun u : IU_ => True) (fun u t => va_P (dC, dI) cls_ (fw_Y h0 r1 u) t.heap ∧ va_K (dC, dI) cls_ (ft_Y u) t ∧ va_D (va_A [(h0, .inr (2, [.null, .null, .null, .null, .null, .null]))] sz) (fw_Y h0 r1 u)) (va_A [(h0, .inr (2, [.null, .null, .null, .null, .null, .null]))] sz)) 5 326 (va_A [(h0, .inr (2, [.null, .null, .null, .null, .null, .null]))] sz) := by
  refine Met.ofW (cc := prog_6_method_1_code) (maxL := 2) (ret := none) (by decide) rfl ?_
  intro p e s m args below meth c s₁ B hml hv
  obtain ⟨rfl, hsz, hP, hK, hD0, hN⟩ := hv
  have hx := B.exec
  have hb := B.bytes
  have hr := B.returns
  have hts : ∀ w ∈ AW_, w.before _ s = true := fun w h => atoms_spec (ws := w_Y_init) B.pre w (List.mem_cons_of_mem _ h)
  have hown : s.vm.findClass "StagedParsers$Study" = some m.cls := findClass_of_methodNamed B.named
  have hlocks := B.notSynchronized
  have hin : meth.name = "<init>" := (name_of_methodNamed B.named B.method).1
  subst hsz
  have hD := hD0.self (sz := s.heap.size)
  generalize hAe : va_A [(h0, .inr (2, [.null, .null, .null, .null, .null, .null]))] s.heap.size = A at hD ⊢
  have hA : ∀ q : Nat, s.heap.size ≤ q → A q := fun q h => by rw [← hAe]; exact Or.inr h
  have hS : va_S A s.heap s.heap [] := va_S.rf
  have hl := lv_entry ([.ref h0, .ref r1]) (n := 2) (Nat.le_of_ble_eq_true rfl)
  rw [lg_entry_eq]
  generalize (lg_sl ([.ref h0, .ref r1]) ++ List.replicate (2 - (lg_sl ([.ref h0, .ref r1])).length) Slot.unset).toArray = ls at hl ⊢
  have hl : lv_has ls 2 [(0, .ref h0), (1, .ref r1)] := hl
  have hP : va_P (dC, dI) cls_ [(h0, .inr (2, [.null, .null, .null, .null, .null, .null]))] s.heap := hP
  have hK : va_K (dC, dI) cls_ [] s := hK
  refine lv_aload_n hx hb d_Y_init_0 rfl (lv_at hl 0 rfl) ?_
  refine W.objInit hx hb hown (hts _ kw_63) (hts _ kw_24) (hts _ kw_25) rfl (by rw [hml]; exact hl.1) rfl d_Y_init_1 (Nat.le_of_ble_eq_true rfl) (Nat.le_of_ble_eq_true rfl) ?_
  refine W.eq (g2 := F0 m 4 ls []) rfl ?_
  refine lv_aload_n hx hb d_Y_init_4 rfl (lv_at hl 0 rfl) ?_
  refine lv_bipush (v := 80) hx hb d_Y_init_5 (by decide) ?_
  refine va_newa (atype := .boolean) (ty := .boolean) (n := 80) (a0 := (80, .inl (fun _ => 0))) (N' := 80) hx hb (hts _ kw_83) rfl hK hP hD hS hA (fun cA => na_b cA 80) (by decide) (by decide) (by decide) (Nat.le_of_ble_eq_true rfl) (Nat.le_of_ble_eq_true rfl) d_Y_init_7 (fun q7 c7 H hK hP hD hS => ?_)
  have hP : va_P (dC, dI) cls_ [(h0, .inr (2, [.null, .null, .null, .null, .null, .null])), (q7, .inl (c7, 80, .inl (fun _ => 0)))] H := hP
  have hD : va_D A [(h0, .inr (2, [.null, .null, .null, .null, .null, .null])), (q7, .inl (c7, 80, .inl (fun _ => 0)))] := hD
  have hK : va_K (dC, dI) cls_ [(c7, .boolean)] s := hK
  refine va_putF (D := (dC, dI)) (cl := cls_) (ci := 2) (v := .ref q7) (ty := (.array .boolean)) (C := Rz_Y) (T := Tz_Y) (N := 6) hx hb hts uz_Y tz_Y tz_Y_ok nz_Y hown hK hP hD hS 0 rfl rfl 1 (by decide) (hts _ kw_65) (fun _ h9 => h9) rfl hin rfl (by decide +kernel) rfl rfl (Nat.le_of_ble_eq_true rfl) d_Y_init_9 (fun H locs hP hD hS => ?_)
  have hP : va_P (dC, dI) cls_ [(h0, .inr (2, [.null, .ref q7, .null, .null, .null, .null])), (q7, .inl (c7, 80, .inl (fun _ => 0)))] H := hP
  have hD : va_D A [(h0, .inr (2, [.null, .ref q7, .null, .null, .null, .null])), (q7, .inl (c7, 80, .inl (fun _ => 0)))] := hD
  refine lv_aload_n hx hb d_Y_init_12 rfl (lv_at hl 0 rfl) ?_
  refine lv_bipush (v := 80) hx hb d_Y_init_13 (by decide) ?_
  refine va_newa (atype := .boolean) (ty := .boolean) (n := 80) (a0 := (80, .inl (fun _ => 0))) (N' := 80) hx hb (hts _ kw_83) rfl hK hP hD hS hA (fun cA => na_b cA 80) (by decide) (by decide) (by decide) (Nat.le_of_ble_eq_true rfl) (Nat.le_of_ble_eq_true rfl) d_Y_init_15 (fun q15 c15 H hK hP hD hS => ?_)
  have hP : va_P (dC, dI) cls_ [(h0, .inr (2, [.null, .ref q7, .null, .null, .null, .null])), (q7, .inl (c7, 80, .inl (fun _ => 0))), (q15, .inl (c15, 80, .inl (fun _ => 0)))] H := hP
  have hD : va_D A [(h0, .inr (2, [.null, .ref q7, .null, .null, .null, .null])), (q7, .inl (c7, 80, .inl (fun _ => 0))), (q15, .inl (c15, 80, .inl (fun _ => 0)))] := hD
  have hK : va_K (dC, dI) cls_ [(c7, .boolean), (c15, .boolean)] s := hK
  refine va_putF (D := (dC, dI)) (cl := cls_) (ci := 2) (v := .ref q15) (ty := (.array .boolean)) (C := Rz_Y) (T := Tz_Y) (N := 6) hx hb hts uz_Y tz_Y tz_Y_ok nz_Y hown hK hP hD hS 0 rfl rfl 2 (by decide) (hts _ kw_66) (fun _ h9 => h9) rfl hin rfl (by decide +kernel) rfl rfl (Nat.le_of_ble_eq_true rfl) d_Y_init_17 (fun H locs hP hD hS => ?_)
  have hP : va_P (dC, dI) cls_ [(h0, .inr (2, [.null, .ref q7, .ref q15, .null, .null, .null])), (q7, .inl (c7, 80, .inl (fun _ => 0))), (q15, .inl (c15, 80, .inl (fun _ => 0)))] H := hP
  have hD : va_D A [(h0, .inr (2, [.null, .ref q7, .ref q15, .null, .null, .null])), (q7, .inl (c7, 80, .inl (fun _ => 0))), (q15, .inl (c15, 80, .inl (fun _ => 0)))] := hD
  refine lv_aload_n hx hb d_Y_init_20 rfl (lv_at hl 0 rfl) ?_
  refine lv_bipush (v := 80) hx hb d_Y_init_21 (by decide) ?_
  refine va_newa (atype := .boolean) (ty := .boolean) (n := 80) (a0 := (80, .inl (fun _ => 0))) (N' := 80) hx hb (hts _ kw_83) rfl hK hP hD hS hA (fun cA => na_b cA 80) (by decide) (by decide) (by decide) (Nat.le_of_ble_eq_true rfl) (Nat.le_of_ble_eq_true rfl) d_Y_init_23 (fun q23 c23 H hK hP hD hS => ?_)
  have hP : va_P (dC, dI) cls_ [(h0, .inr (2, [.null, .ref q7, .ref q15, .null, .null, .null])), (q7, .inl (c7, 80, .inl (fun _ => 0))), (q15, .inl (c15, 80, .inl (fun _ => 0))), (q23, .inl (c23, 80, .inl (fun _ => 0)))] H := hP
  have hD : va_D A [(h0, .inr (2, [.null, .ref q7, .ref q15, .null, .null, .null])), (q7, .inl (c7, 80, .inl (fun _ => 0))), (q15, .inl (c15, 80, .inl (fun _ => 0))), (q23, .inl (c23, 80, .inl (fun _ => 0)))] := hD
  have hK : va_K (dC, dI) cls_ [(c7, .boolean), (c15, .boolean), (c23, .boolean)] s := hK
  refine va_putF (D := (dC, dI)) (cl := cls_) (ci := 2) (v := .ref q23) (ty := (.array .boolean)) (C := Rz_Y) (T := Tz_Y) (N := 6) hx hb hts uz_Y tz_Y tz_Y_ok nz_Y hown hK hP hD hS 0 rfl rfl 3 (by decide) (hts _ kw_67) (fun _ h9 => h9) rfl hin rfl (by decide +kernel) rfl rfl (Nat.le_of_ble_eq_true rfl) d_Y_init_25 (fun H locs hP hD hS => ?_)
  have hP : va_P (dC, dI) cls_ [(h0, .inr (2, [.null, .ref q7, .ref q15, .ref q23, .null, .null])), (q7, .inl (c7, 80, .inl (fun _ => 0))), (q15, .inl (c15, 80, .inl (fun _ => 0))), (q23, .inl (c23, 80, .inl (fun _ => 0)))] H := hP
  have hD : va_D A [(h0, .inr (2, [.null, .ref q7, .ref q15, .ref q23, .null, .null])), (q7, .inl (c7, 80, .inl (fun _ => 0))), (q15, .inl (c15, 80, .inl (fun _ => 0))), (q23, .inl (c23, 80, .inl (fun _ => 0)))] := hD
  refine lv_aload_n hx hb d_Y_init_28 rfl (lv_at hl 0 rfl) ?_
  refine lv_bipush (v := 80) hx hb d_Y_init_29 (by decide) ?_
  refine va_newa (atype := .int) (ty := .int) (n := 80) (a0 := (80, .inl (fun _ => 0))) (N' := 80) hx hb (hts _ kw_57) rfl hK hP hD hS hA (fun cA => na_i cA 80) (by decide) (by decide) (by decide) (Nat.le_of_ble_eq_true rfl) (Nat.le_of_ble_eq_true rfl) d_Y_init_31 (fun q31 c31 H hK hP hD hS => ?_)
  have hP : va_P (dC, dI) cls_ [(h0, .inr (2, [.null, .ref q7, .ref q15, .ref q23, .null, .null])), (q7, .inl (c7, 80, .inl (fun _ => 0))), (q15, .inl (c15, 80, .inl (fun _ => 0))), (q23, .inl (c23, 80, .inl (fun _ => 0))), (q31, .inl (c31, 80, .inl (fun _ => 0)))] H := hP
  have hD : va_D A [(h0, .inr (2, [.null, .ref q7, .ref q15, .ref q23, .null, .null])), (q7, .inl (c7, 80, .inl (fun _ => 0))), (q15, .inl (c15, 80, .inl (fun _ => 0))), (q23, .inl (c23, 80, .inl (fun _ => 0))), (q31, .inl (c31, 80, .inl (fun _ => 0)))] := hD
  have hK : va_K (dC, dI) cls_ [(c7, .boolean), (c15, .boolean), (c23, .boolean), (c31, .int)] s := hK
  refine va_putF (D := (dC, dI)) (cl := cls_) (ci := 2) (v := .ref q31) (ty := (.array .int)) (C := Rz_Y) (T := Tz_Y) (N := 6) hx hb hts uz_Y tz_Y tz_Y_ok nz_Y hown hK hP hD hS 0 rfl rfl 4 (by decide) (hts _ kw_68) (fun _ h9 => h9) rfl hin rfl (by decide +kernel) rfl rfl (Nat.le_of_ble_eq_true rfl) d_Y_init_33 (fun H locs hP hD hS => ?_)
  have hP : va_P (dC, dI) cls_ [(h0, .inr (2, [.null, .ref q7, .ref q15, .ref q23, .ref q31, .null])), (q7, .inl (c7, 80, .inl (fun _ => 0))), (q15, .inl (c15, 80, .inl (fun _ => 0))), (q23, .inl (c23, 80, .inl (fun _ => 0))), (q31, .inl (c31, 80, .inl (fun _ => 0)))] H := hP
  have hD : va_D A [(h0, .inr (2, [.null, .ref q7, .ref q15, .ref q23, .ref q31, .null])), (q7, .inl (c7, 80, .inl (fun _ => 0))), (q15, .inl (c15, 80, .inl (fun _ => 0))), (q23, .inl (c23, 80, .inl (fun _ => 0))), (q31, .inl (c31, 80, .inl (fun _ => 0)))] := hD
  refine lv_aload_n hx hb d_Y_init_36 rfl (lv_at hl 0 rfl) ?_
  refine lv_bipush (v := 6) hx hb d_Y_init_37 (by decide) ?_
  refine va_newa (atype := .int) (ty := .int) (n := 6) (a0 := (6, .inl (fun _ => 0))) (N' := 6) hx hb (hts _ kw_57) rfl hK hP hD hS hA (fun cA => na_i cA 6) (by decide) (by decide) (by decide) (Nat.le_of_ble_eq_true rfl) (Nat.le_of_ble_eq_true rfl) d_Y_init_39 (fun q39 c39 H hK hP hD hS => ?_)
  have hP : va_P (dC, dI) cls_ [(h0, .inr (2, [.null, .ref q7, .ref q15, .ref q23, .ref q31, .null])), (q7, .inl (c7, 80, .inl (fun _ => 0))), (q15, .inl (c15, 80, .inl (fun _ => 0))), (q23, .inl (c23, 80, .inl (fun _ => 0))), (q31, .inl (c31, 80, .inl (fun _ => 0))), (q39, .inl (c39, 6, .inl (fun _ => 0)))] H := hP
  have hD : va_D A [(h0, .inr (2, [.null, .ref q7, .ref q15, .ref q23, .ref q31, .null])), (q7, .inl (c7, 80, .inl (fun _ => 0))), (q15, .inl (c15, 80, .inl (fun _ => 0))), (q23, .inl (c23, 80, .inl (fun _ => 0))), (q31, .inl (c31, 80, .inl (fun _ => 0))), (q39, .inl (c39, 6, .inl (fun _ => 0)))] := hD
  have hK : va_K (dC, dI) cls_ [(c7, .boolean), (c15, .boolean), (c23, .boolean), (c31, .int), (c39, .int)] s := hK
  refine va_putF (D := (dC, dI)) (cl := cls_) (ci := 2) (v := .ref q39) (ty := (.array .int)) (C := Rz_Y) (T := Tz_Y) (N := 6) hx hb hts uz_Y tz_Y tz_Y_ok nz_Y hown hK hP hD hS 0 rfl rfl 5 (by decide) (hts _ kw_69) (fun _ h9 => h9) rfl hin rfl (by decide +kernel) rfl rfl (Nat.le_of_ble_eq_true rfl) d_Y_init_41 (fun H locs hP hD hS => ?_)
  have hP : va_P (dC, dI) cls_ [(h0, .inr (2, [.null, .ref q7, .ref q15, .ref q23, .ref q31, .ref q39])), (q7, .inl (c7, 80, .inl (fun _ => 0))), (q15, .inl (c15, 80, .inl (fun _ => 0))), (q23, .inl (c23, 80, .inl (fun _ => 0))), (q31, .inl (c31, 80, .inl (fun _ => 0))), (q39, .inl (c39, 6, .inl (fun _ => 0)))] H := hP
  have hD : va_D A [(h0, .inr (2, [.null, .ref q7, .ref q15, .ref q23, .ref q31, .ref q39])), (q7, .inl (c7, 80, .inl (fun _ => 0))), (q15, .inl (c15, 80, .inl (fun _ => 0))), (q23, .inl (c23, 80, .inl (fun _ => 0))), (q31, .inl (c31, 80, .inl (fun _ => 0))), (q39, .inl (c39, 6, .inl (fun _ => 0)))] := hD
  refine lv_aload_n hx hb d_Y_init_44 rfl (lv_at hl 0 rfl) ?_
  refine lv_aload_n hx hb d_Y_init_45 rfl (lv_at hl 1 rfl) ?_
  refine va_putF (D := (dC, dI)) (cl := cls_) (ci := 2) (v := .ref r1) (ty := (.object "StagedParsers$Grammar")) (C := Rz_Y) (T := Tz_Y) (N := 6) hx hb hts uz_Y tz_Y tz_Y_ok nz_Y hown hK hP hD hS 0 rfl rfl 0 (by decide) (hts _ kw_64) (fun _ h9 => h9) rfl hin rfl (by decide +kernel) rfl rfl (Nat.le_of_ble_eq_true rfl) d_Y_init_46 (fun H locs hP hD hS => ?_)
  have hP : va_P (dC, dI) cls_ [(h0, .inr (2, [.ref r1, .ref q7, .ref q15, .ref q23, .ref q31, .ref q39])), (q7, .inl (c7, 80, .inl (fun _ => 0))), (q15, .inl (c15, 80, .inl (fun _ => 0))), (q23, .inl (c23, 80, .inl (fun _ => 0))), (q31, .inl (c31, 80, .inl (fun _ => 0))), (q39, .inl (c39, 6, .inl (fun _ => 0)))] H := hP
  have hD : va_D A [(h0, .inr (2, [.ref r1, .ref q7, .ref q15, .ref q23, .ref q31, .ref q39])), (q7, .inl (c7, 80, .inl (fun _ => 0))), (q15, .inl (c15, 80, .inl (fun _ => 0))), (q23, .inl (c23, 80, .inl (fun _ => 0))), (q31, .inl (c31, 80, .inl (fun _ => 0))), (q39, .inl (c39, 6, .inl (fun _ => 0)))] := hD
  have hP9 := hP.sub (ws' := fw_Y h0 r1 ((fun i => ([0, 0, 0, 0, 0, 0, 0, 0, h0, q7, q15, q23, q31, q39] : List Nat).getD i 0), (fun i => ([0, 0, 0, 0, 0, 0, 0, 0, 0, c7, c15, c23, c31, c39] : List ClassId).getD i 0), (fun _ => 0))) [0, 1, 2, 3, 4, 5] rfl
  have hD9 := hD.sub (ws' := fw_Y h0 r1 ((fun i => ([0, 0, 0, 0, 0, 0, 0, 0, h0, q7, q15, q23, q31, q39] : List Nat).getD i 0), (fun i => ([0, 0, 0, 0, 0, 0, 0, 0, 0, c7, c15, c23, c31, c39] : List ClassId).getD i 0), (fun _ => 0))) [0, 1, 2, 3, 4, 5] (by decide) rfl
  have hK9 := hK.sub (tys' := ft_Y ((fun i => ([0, 0, 0, 0, 0, 0, 0, 0, h0, q7, q15, q23, q31, q39] : List Nat).getD i 0), (fun i => ([0, 0, 0, 0, 0, 0, 0, 0, 0, c7, c15, c23, c31, c39] : List ClassId).getD i 0), (fun _ => 0))) [0, 1, 2, 3, 4] rfl
  refine W.widen (k := 5) (n := 326) (Nat.le_of_ble_eq_true rfl) (Nat.le_of_ble_eq_true rfl) ?_
  exact W.vret hx hb hr (fun t ht hW => ⟨⟨((fun i => ([0, 0, 0, 0, 0, 0, 0, 0, h0, q7, q15, q23, q31, q39] : List Nat).getD i 0), (fun i => ([0, 0, 0, 0, 0, 0, 0, 0, 0, c7, c15, c23, c31, c39] : List ClassId).getD i 0), (fun _ => 0)), rfl, trivial, by rw [ht]; exact hP9, va_K.moved hW.alike hK9, hD9⟩, hS.F ht⟩) hS.2.2 d_Y_init_49
