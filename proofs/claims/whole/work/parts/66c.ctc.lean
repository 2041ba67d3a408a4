/-! constructor of StagedParsers$Code -/
def fw_C (h0 : Nat) (u : IU_) : va_W := [(h0, .inr (3, [.ref (u.1 15), .ref (u.1 16), .ref (u.1 17), .ref (u.1 18), .ref (u.1 19), .int 0])), (u.1 15, .inl (u.2.1 15, 561, .inl (fun _ => 0))), (u.1 16, .inl (u.2.1 16, 561, .inl (fun _ => 0))), (u.1 17, .inl (u.2.1 17, 561, .inl (fun _ => 0))), (u.1 18, .inl (u.2.1 18, 80, .inl (fun _ => 0))), (u.1 19, .inl (u.2.1 19, 6, .inl (fun _ => 0)))]
def ft_C (u : IU_) : List (ClassId × FieldType) := [(u.2.1 15, .int), (u.2.1 16, .int), (u.2.1 17, .int), (u.2.1 18, .int), (u.2.1 19, .int)]
def y_C_init : MethodName := ⟨"StagedParsers$Code", "<init>", "()V"⟩
def w_C_init : List Cond := .code y_C_init prog_2_method_1_code 1 none :: AW_
def rm_C_init : Room := { frames := 1, cells := 5, slots := 1769, locals := 12 }
theorem d_C_init_0 : decode prog_2_method_1_code 0 = .ok (.aload_n 0, 1) := by decide +kernel
theorem d_C_init_1 : decode prog_2_method_1_code 1 = .ok (.invokespecial 3, 3) := by decide +kernel
theorem d_C_init_4 : decode prog_2_method_1_code 4 = .ok (.aload_n 0, 1) := by decide +kernel
theorem d_C_init_5 : decode prog_2_method_1_code 5 = .ok (.sipush 561, 3) := by decide +kernel
theorem d_C_init_8 : decode prog_2_method_1_code 8 = .ok (.newarray .int, 2) := by decide +kernel
theorem d_C_init_10 : decode prog_2_method_1_code 10 = .ok (.putfield 9, 3) := by decide +kernel
theorem d_C_init_13 : decode prog_2_method_1_code 13 = .ok (.aload_n 0, 1) := by decide +kernel
theorem d_C_init_14 : decode prog_2_method_1_code 14 = .ok (.sipush 561, 3) := by decide +kernel
theorem d_C_init_17 : decode prog_2_method_1_code 17 = .ok (.newarray .int, 2) := by decide +kernel
theorem d_C_init_19 : decode prog_2_method_1_code 19 = .ok (.putfield 15, 3) := by decide +kernel
theorem d_C_init_22 : decode prog_2_method_1_code 22 = .ok (.aload_n 0, 1) := by decide +kernel
theorem d_C_init_23 : decode prog_2_method_1_code 23 = .ok (.sipush 561, 3) := by decide +kernel
theorem d_C_init_26 : decode prog_2_method_1_code 26 = .ok (.newarray .int, 2) := by decide +kernel
theorem d_C_init_28 : decode prog_2_method_1_code 28 = .ok (.putfield 18, 3) := by decide +kernel
theorem d_C_init_31 : decode prog_2_method_1_code 31 = .ok (.aload_n 0, 1) := by decide +kernel
theorem d_C_init_32 : decode prog_2_method_1_code 32 = .ok (.bipush 80, 2) := by decide +kernel
theorem d_C_init_34 : decode prog_2_method_1_code 34 = .ok (.newarray .int, 2) := by decide +kernel
theorem d_C_init_36 : decode prog_2_method_1_code 36 = .ok (.putfield 21, 3) := by decide +kernel
theorem d_C_init_39 : decode prog_2_method_1_code 39 = .ok (.aload_n 0, 1) := by decide +kernel
theorem d_C_init_40 : decode prog_2_method_1_code 40 = .ok (.bipush 6, 2) := by decide +kernel
theorem d_C_init_42 : decode prog_2_method_1_code 42 = .ok (.newarray .int, 2) := by decide +kernel
theorem d_C_init_44 : decode prog_2_method_1_code 44 = .ok (.putfield 24, 3) := by decide +kernel
theorem d_C_init_47 : decode prog_2_method_1_code 47 = .ok (.return_, 1) := by decide +kernel
set_option maxHeartbeats 8000000 in
set_option maxRecDepth 100000 in
theorem c_C_init (l : Launch) (dC : Nat → ClassId) (dI : Nat → Nat → Nat) (h0 sz : Nat) : Met l y_C_init w_C_init rm_C_init (va_Pc [.ref h0] (PI_ dC dI [(h0, .inr (3, [.null, .null, .null, .null, .null, .int 0]))] sz)) (va_Qv (fun u : IU_ => True) (fun u t => va_P (dC, dI) cls_ (fw_C h0 u) t.heap ∧ va_K (dC, dI) cls_ (ft_C u) t ∧ va_D (va_A [(h0, .inr (3, [.null, .null, .null, .null, .null, .int 0]))] sz) (fw_C h0 u)) (va_A [(h0, .inr (3, [.null, .null, .null, .null, .null, .int 0]))] sz)) 5 1769 (va_A [(h0, .inr (3, [.null, .null, .null, .null, .null, .int 0]))] sz) := by
  refine Met.ofW (cc := prog_2_method_1_code) (maxL := 1) (ret := none) (by decide) rfl ?_
  intro p e s m args below meth c s₁ B hml hv
  obtain ⟨rfl, hsz, hP, hK, hD0, hN⟩ := hv
  have hx := B.exec
  have hb := B.bytes
  have hr := B.returns
  have hts : ∀ w ∈ AW_, w.before _ s = true := fun w h => atoms_spec (ws := w_C_init) B.pre w (List.mem_cons_of_mem _ h)
  have hown : s.vm.findClass "StagedParsers$Code" = some m.cls := findClass_of_methodNamed B.named
  have hlocks := B.notSynchronized
  have hin : meth.name = "<init>" := (name_of_methodNamed B.named B.method).1
  subst hsz
  have hD := hD0.self (sz := s.heap.size)
  generalize hAe : va_A [(h0, .inr (3, [.null, .null, .null, .null, .null, .int 0]))] s.heap.size = A at hD ⊢
  have hA : ∀ q : Nat, s.heap.size ≤ q → A q := fun q h => by rw [← hAe]; exact Or.inr h
  have hS : va_S A s.heap s.heap [] := va_S.rf
  have hl := lv_entry ([.ref h0]) (n := 1) (Nat.le_of_ble_eq_true rfl)
  rw [lg_entry_eq]
  generalize (lg_sl ([.ref h0]) ++ List.replicate (1 - (lg_sl ([.ref h0])).length) Slot.unset).toArray = ls at hl ⊢
  have hl : lv_has ls 1 [(0, .ref h0)] := hl
  have hP : va_P (dC, dI) cls_ [(h0, .inr (3, [.null, .null, .null, .null, .null, .int 0]))] s.heap := hP
  have hK : va_K (dC, dI) cls_ [] s := hK
  refine lv_aload_n hx hb d_C_init_0 rfl (lv_at hl 0 rfl) ?_
  refine W.objInit hx hb hown (hts _ kw_89) (hts _ kw_24) (hts _ kw_25) rfl (by rw [hml]; exact hl.1) rfl d_C_init_1 (Nat.le_of_ble_eq_true rfl) (Nat.le_of_ble_eq_true rfl) ?_
  refine W.eq (g2 := F0 m 4 ls []) rfl ?_
  refine lv_aload_n hx hb d_C_init_4 rfl (lv_at hl 0 rfl) ?_
  refine lv_sipush (v := 561) hx hb d_C_init_5 (by decide) ?_
  refine va_newa (atype := .int) (ty := .int) (n := 561) (a0 := (561, .inl (fun _ => 0))) (N' := 561) hx hb (hts _ kw_57) rfl hK hP hD hS hA (fun cA => na_i cA 561) (by decide) (by decide) (by decide) (Nat.le_of_ble_eq_true rfl) (Nat.le_of_ble_eq_true rfl) d_C_init_8 (fun q8 c8 H hK hP hD hS => ?_)
  have hP : va_P (dC, dI) cls_ [(h0, .inr (3, [.null, .null, .null, .null, .null, .int 0])), (q8, .inl (c8, 561, .inl (fun _ => 0)))] H := hP
  have hD : va_D A [(h0, .inr (3, [.null, .null, .null, .null, .null, .int 0])), (q8, .inl (c8, 561, .inl (fun _ => 0)))] := hD
  have hK : va_K (dC, dI) cls_ [(c8, .int)] s := hK
  refine va_putF (D := (dC, dI)) (cl := cls_) (ci := 3) (v := .ref q8) (ty := (.array .int)) (C := Rz_C) (T := Tz_C) (N := 6) hx hb hts uz_C tz_C tz_C_ok nz_C hown hK hP hD hS 0 rfl rfl 0 (by decide) (hts _ kw_90) (fun _ h9 => h9) rfl hin rfl (by decide +kernel) rfl rfl (Nat.le_of_ble_eq_true rfl) d_C_init_10 (fun H locs hP hD hS => ?_)
  have hP : va_P (dC, dI) cls_ [(h0, .inr (3, [.ref q8, .null, .null, .null, .null, .int 0])), (q8, .inl (c8, 561, .inl (fun _ => 0)))] H := hP
  have hD : va_D A [(h0, .inr (3, [.ref q8, .null, .null, .null, .null, .int 0])), (q8, .inl (c8, 561, .inl (fun _ => 0)))] := hD
  refine lv_aload_n hx hb d_C_init_13 rfl (lv_at hl 0 rfl) ?_
  refine lv_sipush (v := 561) hx hb d_C_init_14 (by decide) ?_
  refine va_newa (atype := .int) (ty := .int) (n := 561) (a0 := (561, .inl (fun _ => 0))) (N' := 561) hx hb (hts _ kw_57) rfl hK hP hD hS hA (fun cA => na_i cA 561) (by decide) (by decide) (by decide) (Nat.le_of_ble_eq_true rfl) (Nat.le_of_ble_eq_true rfl) d_C_init_17 (fun q17 c17 H hK hP hD hS => ?_)
  have hP : va_P (dC, dI) cls_ [(h0, .inr (3, [.ref q8, .null, .null, .null, .null, .int 0])), (q8, .inl (c8, 561, .inl (fun _ => 0))), (q17, .inl (c17, 561, .inl (fun _ => 0)))] H := hP
  have hD : va_D A [(h0, .inr (3, [.ref q8, .null, .null, .null, .null, .int 0])), (q8, .inl (c8, 561, .inl (fun _ => 0))), (q17, .inl (c17, 561, .inl (fun _ => 0)))] := hD
  have hK : va_K (dC, dI) cls_ [(c8, .int), (c17, .int)] s := hK
  refine va_putF (D := (dC, dI)) (cl := cls_) (ci := 3) (v := .ref q17) (ty := (.array .int)) (C := Rz_C) (T := Tz_C) (N := 6) hx hb hts uz_C tz_C tz_C_ok nz_C hown hK hP hD hS 0 rfl rfl 1 (by decide) (hts _ kw_91) (fun _ h9 => h9) rfl hin rfl (by decide +kernel) rfl rfl (Nat.le_of_ble_eq_true rfl) d_C_init_19 (fun H locs hP hD hS => ?_)
  have hP : va_P (dC, dI) cls_ [(h0, .inr (3, [.ref q8, .ref q17, .null, .null, .null, .int 0])), (q8, .inl (c8, 561, .inl (fun _ => 0))), (q17, .inl (c17, 561, .inl (fun _ => 0)))] H := hP
  have hD : va_D A [(h0, .inr (3, [.ref q8, .ref q17, .null, .null, .null, .int 0])), (q8, .inl (c8, 561, .inl (fun _ => 0))), (q17, .inl (c17, 561, .inl (fun _ => 0)))] := hD
  refine lv_aload_n hx hb d_C_init_22 rfl (lv_at hl 0 rfl) ?_
  refine lv_sipush (v := 561) hx hb d_C_init_23 (by decide) ?_
  refine va_newa (atype := .int) (ty := .int) (n := 561) (a0 := (561, .inl (fun _ => 0))) (N' := 561) hx hb (hts _ kw_57) rfl hK hP hD hS hA (fun cA => na_i cA 561) (by decide) (by decide) (by decide) (Nat.le_of_ble_eq_true rfl) (Nat.le_of_ble_eq_true rfl) d_C_init_26 (fun q26 c26 H hK hP hD hS => ?_)
  have hP : va_P (dC, dI) cls_ [(h0, .inr (3, [.ref q8, .ref q17, .null, .null, .null, .int 0])), (q8, .inl (c8, 561, .inl (fun _ => 0))), (q17, .inl (c17, 561, .inl (fun _ => 0))), (q26, .inl (c26, 561, .inl (fun _ => 0)))] H := hP
  have hD : va_D A [(h0, .inr (3, [.ref q8, .ref q17, .null, .null, .null, .int 0])), (q8, .inl (c8, 561, .inl (fun _ => 0))), (q17, .inl (c17, 561, .inl (fun _ => 0))), (q26, .inl (c26, 561, .inl (fun _ => 0)))] := hD
  have hK : va_K (dC, dI) cls_ [(c8, .int), (c17, .int), (c26, .int)] s := hK
  refine va_putF (D := (dC, dI)) (cl := cls_) (ci := 3) (v := .ref q26) (ty := (.array .int)) (C := Rz_C) (T := Tz_C) (N := 6) hx hb hts uz_C tz_C tz_C_ok nz_C hown hK hP hD hS 0 rfl rfl 2 (by decide) (hts _ kw_92) (fun _ h9 => h9) rfl hin rfl (by decide +kernel) rfl rfl (Nat.le_of_ble_eq_true rfl) d_C_init_28 (fun H locs hP hD hS => ?_)
  have hP : va_P (dC, dI) cls_ [(h0, .inr (3, [.ref q8, .ref q17, .ref q26, .null, .null, .int 0])), (q8, .inl (c8, 561, .inl (fun _ => 0))), (q17, .inl (c17, 561, .inl (fun _ => 0))), (q26, .inl (c26, 561, .inl (fun _ => 0)))] H := hP
  have hD : va_D A [(h0, .inr (3, [.ref q8, .ref q17, .ref q26, .null, .null, .int 0])), (q8, .inl (c8, 561, .inl (fun _ => 0))), (q17, .inl (c17, 561, .inl (fun _ => 0))), (q26, .inl (c26, 561, .inl (fun _ => 0)))] := hD
  refine lv_aload_n hx hb d_C_init_31 rfl (lv_at hl 0 rfl) ?_
  refine lv_bipush (v := 80) hx hb d_C_init_32 (by decide) ?_
  refine va_newa (atype := .int) (ty := .int) (n := 80) (a0 := (80, .inl (fun _ => 0))) (N' := 80) hx hb (hts _ kw_57) rfl hK hP hD hS hA (fun cA => na_i cA 80) (by decide) (by decide) (by decide) (Nat.le_of_ble_eq_true rfl) (Nat.le_of_ble_eq_true rfl) d_C_init_34 (fun q34 c34 H hK hP hD hS => ?_)
  have hP : va_P (dC, dI) cls_ [(h0, .inr (3, [.ref q8, .ref q17, .ref q26, .null, .null, .int 0])), (q8, .inl (c8, 561, .inl (fun _ => 0))), (q17, .inl (c17, 561, .inl (fun _ => 0))), (q26, .inl (c26, 561, .inl (fun _ => 0))), (q34, .inl (c34, 80, .inl (fun _ => 0)))] H := hP
  have hD : va_D A [(h0, .inr (3, [.ref q8, .ref q17, .ref q26, .null, .null, .int 0])), (q8, .inl (c8, 561, .inl (fun _ => 0))), (q17, .inl (c17, 561, .inl (fun _ => 0))), (q26, .inl (c26, 561, .inl (fun _ => 0))), (q34, .inl (c34, 80, .inl (fun _ => 0)))] := hD
  have hK : va_K (dC, dI) cls_ [(c8, .int), (c17, .int), (c26, .int), (c34, .int)] s := hK
  refine va_putF (D := (dC, dI)) (cl := cls_) (ci := 3) (v := .ref q34) (ty := (.array .int)) (C := Rz_C) (T := Tz_C) (N := 6) hx hb hts uz_C tz_C tz_C_ok nz_C hown hK hP hD hS 0 rfl rfl 3 (by decide) (hts _ kw_93) (fun _ h9 => h9) rfl hin rfl (by decide +kernel) rfl rfl (Nat.le_of_ble_eq_true rfl) d_C_init_36 (fun H locs hP hD hS => ?_)
  have hP : va_P (dC, dI) cls_ [(h0, .inr (3, [.ref q8, .ref q17, .ref q26, .ref q34, .null, .int 0])), (q8, .inl (c8, 561, .inl (fun _ => 0))), (q17, .inl (c17, 561, .inl (fun _ => 0))), (q26, .inl (c26, 561, .inl (fun _ => 0))), (q34, .inl (c34, 80, .inl (fun _ => 0)))] H := hP
  have hD : va_D A [(h0, .inr (3, [.ref q8, .ref q17, .ref q26, .ref q34, .null, .int 0])), (q8, .inl (c8, 561, .inl (fun _ => 0))), (q17, .inl (c17, 561, .inl (fun _ => 0))), (q26, .inl (c26, 561, .inl (fun _ => 0))), (q34, .inl (c34, 80, .inl (fun _ => 0)))] := hD
  refine lv_aload_n hx hb d_C_init_39 rfl (lv_at hl 0 rfl) ?_
  refine lv_bipush (v := 6) hx hb d_C_init_40 (by decide) ?_
  refine va_newa (atype := .int) (ty := .int) (n := 6) (a0 := (6, .inl (fun _ => 0))) (N' := 6) hx hb (hts _ kw_57) rfl hK hP hD hS hA (fun cA => na_i cA 6) (by decide) (by decide) (by decide) (Nat.le_of_ble_eq_true rfl) (Nat.le_of_ble_eq_true rfl) d_C_init_42 (fun q42 c42 H hK hP hD hS => ?_)
  have hP : va_P (dC, dI) cls_ [(h0, .inr (3, [.ref q8, .ref q17, .ref q26, .ref q34, .null, .int 0])), (q8, .inl (c8, 561, .inl (fun _ => 0))), (q17, .inl (c17, 561, .inl (fun _ => 0))), (q26, .inl (c26, 561, .inl (fun _ => 0))), (q34, .inl (c34, 80, .inl (fun _ => 0))), (q42, .inl (c42, 6, .inl (fun _ => 0)))] H := hP
  have hD : va_D A [(h0, .inr (3, [.ref q8, .ref q17, .ref q26, .ref q34, .null, .int 0])), (q8, .inl (c8, 561, .inl (fun _ => 0))), (q17, .inl (c17, 561, .inl (fun _ => 0))), (q26, .inl (c26, 561, .inl (fun _ => 0))), (q34, .inl (c34, 80, .inl (fun _ => 0))), (q42, .inl (c42, 6, .inl (fun _ => 0)))] := hD
  have hK : va_K (dC, dI) cls_ [(c8, .int), (c17, .int), (c26, .int), (c34, .int), (c42, .int)] s := hK
  refine va_putF (D := (dC, dI)) (cl := cls_) (ci := 3) (v := .ref q42) (ty := (.array .int)) (C := Rz_C) (T := Tz_C) (N := 6) hx hb hts uz_C tz_C tz_C_ok nz_C hown hK hP hD hS 0 rfl rfl 4 (by decide) (hts _ kw_94) (fun _ h9 => h9) rfl hin rfl (by decide +kernel) rfl rfl (Nat.le_of_ble_eq_true rfl) d_C_init_44 (fun H locs hP hD hS => ?_)
  have hP : va_P (dC, dI) cls_ [(h0, .inr (3, [.ref q8, .ref q17, .ref q26, .ref q34, .ref q42, .int 0])), (q8, .inl (c8, 561, .inl (fun _ => 0))), (q17, .inl (c17, 561, .inl (fun _ => 0))), (q26, .inl (c26, 561, .inl (fun _ => 0))), (q34, .inl (c34, 80, .inl (fun _ => 0))), (q42, .inl (c42, 6, .inl (fun _ => 0)))] H := hP
  have hD : va_D A [(h0, .inr (3, [.ref q8, .ref q17, .ref q26, .ref q34, .ref q42, .int 0])), (q8, .inl (c8, 561, .inl (fun _ => 0))), (q17, .inl (c17, 561, .inl (fun _ => 0))), (q26, .inl (c26, 561, .inl (fun _ => 0))), (q34, .inl (c34, 80, .inl (fun _ => 0))), (q42, .inl (c42, 6, .inl (fun _ => 0)))] := hD
  have hP9 := hP.sub (ws' := fw_C h0 ((fun i => ([0, 0, 0, 0, 0, 0, 0, 0, 0, 0, 0, 0, 0, 0, h0, q8, q17, q26, q34, q42] : List Nat).getD i 0), (fun i => ([0, 0, 0, 0, 0, 0, 0, 0, 0, 0, 0, 0, 0, 0, 0, c8, c17, c26, c34, c42] : List ClassId).getD i 0), (fun _ => 0))) [0, 1, 2, 3, 4, 5] rfl
  have hD9 := hD.sub (ws' := fw_C h0 ((fun i => ([0, 0, 0, 0, 0, 0, 0, 0, 0, 0, 0, 0, 0, 0, h0, q8, q17, q26, q34, q42] : List Nat).getD i 0), (fun i => ([0, 0, 0, 0, 0, 0, 0, 0, 0, 0, 0, 0, 0, 0, 0, c8, c17, c26, c34, c42] : List ClassId).getD i 0), (fun _ => 0))) [0, 1, 2, 3, 4, 5] (by decide) rfl
  have hK9 := hK.sub (tys' := ft_C ((fun i => ([0, 0, 0, 0, 0, 0, 0, 0, 0, 0, 0, 0, 0, 0, h0, q8, q17, q26, q34, q42] : List Nat).getD i 0), (fun i => ([0, 0, 0, 0, 0, 0, 0, 0, 0, 0, 0, 0, 0, 0, 0, c8, c17, c26, c34, c42] : List ClassId).getD i 0), (fun _ => 0))) [0, 1, 2, 3, 4] rfl
  refine W.widen (k := 5) (n := 1769) (Nat.le_of_ble_eq_true rfl) (Nat.le_of_ble_eq_true rfl) ?_
  exact W.vret hx hb hr (fun t ht hW => ⟨⟨((fun i => ([0, 0, 0, 0, 0, 0, 0, 0, 0, 0, 0, 0, 0, 0, h0, q8, q17, q26, q34, q42] : List Nat).getD i 0), (fun i => ([0, 0, 0, 0, 0, 0, 0, 0, 0, 0, 0, 0, 0, 0, 0, c8, c17, c26, c34, c42] : List ClassId).getD i 0), (fun _ => 0)), rfl, trivial, by rw [ht]; exact hP9, va_K.moved hW.alike hK9, hD9⟩, hS.F ht⟩) hS.2.2 d_C_init_47
