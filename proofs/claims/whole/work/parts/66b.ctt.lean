/-! constructor of StagedParsers$Text -/
def fw_T (h0 : Nat) (u : IU_) : va_W := [(h0, .inr (4, [.ref (u.1 21), .int 0])), (u.1 21, .inl (u.2.1 21, 40, .inl (fun _ => 0)))]
def ft_T (u : IU_) : List (ClassId × FieldType) := [(u.2.1 21, .char)]
def y_T_init : MethodName := ⟨"StagedParsers$Text", "<init>", "()V"⟩
def w_T_init : List Cond := .code y_T_init prog_7_method_1_code 1 none :: AW_
def rm_T_init : Room := { frames := 1, cells := 1, slots := 40, locals := 12 }
theorem d_T_init_0 : decode prog_7_method_1_code 0 = .ok (.aload_n 0, 1) := by decide +kernel
theorem d_T_init_1 : decode prog_7_method_1_code 1 = .ok (.invokespecial 3, 3) := by decide +kernel
theorem d_T_init_4 : decode prog_7_method_1_code 4 = .ok (.aload_n 0, 1) := by decide +kernel
theorem d_T_init_5 : decode prog_7_method_1_code 5 = .ok (.bipush 40, 2) := by decide +kernel
theorem d_T_init_7 : decode prog_7_method_1_code 7 = .ok (.newarray .char, 2) := by decide +kernel
theorem d_T_init_9 : decode prog_7_method_1_code 9 = .ok (.putfield 9, 3) := by decide +kernel
theorem d_T_init_12 : decode prog_7_method_1_code 12 = .ok (.return_, 1) := by decide +kernel
set_option maxHeartbeats 8000000 in
set_option maxRecDepth 100000 in
theorem c_T_init (l : Launch) (dC : Nat → ClassId) (dI : Nat → Nat → Nat) (h0 sz : Nat) : Met l y_T_init w_T_init rm_T_init (va_Pc [.ref h0] (PI_ dC dI [(h0, .inr (4, [.null, .int 0]))] sz)) (va_Qv (fun u : IU_ => True) (fun u t => va_P (dC, dI) cls_ (fw_T h0 u) t.heap ∧ va_K (dC, dI) cls_ (ft_T u) t ∧ va_D (va_A [(h0, .inr (4, [.null, .int 0]))] sz) (fw_T h0 u)) (va_A [(h0, .inr (4, [.null, .int 0]))] sz)) 1 40 (va_A [(h0, .inr (4, [.null, .int 0]))] sz) := by
  refine Met.ofW (cc := prog_7_method_1_code) (maxL := 1) (ret := none) (by decide) rfl ?_
  intro p e s m args below meth c s₁ B hml hv
  obtain ⟨rfl, hsz, hP, hK, hD0, hN⟩ := hv
  have hx := B.exec
  have hb := B.bytes
  have hr := B.returns
  have hts : ∀ w ∈ AW_, w.before _ s = true := fun w h => atoms_spec (ws := w_T_init) B.pre w (List.mem_cons_of_mem _ h)
  have hown : s.vm.findClass "StagedParsers$Text" = some m.cls := findClass_of_methodNamed B.named
  have hlocks := B.notSynchronized
  have hin : meth.name = "<init>" := (name_of_methodNamed B.named B.method).1
  subst hsz
  have hD := hD0.self (sz := s.heap.size)
  generalize hAe : va_A [(h0, .inr (4, [.null, .int 0]))] s.heap.size = A at hD ⊢
  have hA : ∀ q : Nat, s.heap.size ≤ q → A q := fun q h => by rw [← hAe]; exact Or.inr h
  have hS : va_S A s.heap s.heap [] := va_S.rf
  have hl := lv_entry ([.ref h0]) (n := 1) (Nat.le_of_ble_eq_true rfl)
  rw [lg_entry_eq]
  generalize (lg_sl ([.ref h0]) ++ List.replicate (1 - (lg_sl ([.ref h0])).length) Slot.unset).toArray = ls at hl ⊢
  have hl : lv_has ls 1 [(0, .ref h0)] := hl
  have hP : va_P (dC, dI) cls_ [(h0, .inr (4, [.null, .int 0]))] s.heap := hP
  have hK : va_K (dC, dI) cls_ [] s := hK
  refine lv_aload_n hx hb d_T_init_0 rfl (lv_at hl 0 rfl) ?_
  refine W.objInit hx hb hown (hts _ kw_114) (hts _ kw_24) (hts _ kw_25) rfl (by rw [hml]; exact hl.1) rfl d_T_init_1 (Nat.le_of_ble_eq_true rfl) (Nat.le_of_ble_eq_true rfl) ?_
  refine W.eq (g2 := F0 m 4 ls []) rfl ?_
  refine lv_aload_n hx hb d_T_init_4 rfl (lv_at hl 0 rfl) ?_
  refine lv_bipush (v := 40) hx hb d_T_init_5 (by decide) ?_
  refine va_newa (atype := .char) (ty := .char) (n := 40) (a0 := (40, .inl (fun _ => 0))) (N' := 40) hx hb (hts _ kw_122) rfl hK hP hD hS hA (fun cA => na_c cA 40) (by decide) (by decide) (by decide) (Nat.le_of_ble_eq_true rfl) (Nat.le_of_ble_eq_true rfl) d_T_init_7 (fun q7 c7 H hK hP hD hS => ?_)
  have hP : va_P (dC, dI) cls_ [(h0, .inr (4, [.null, .int 0])), (q7, .inl (c7, 40, .inl (fun _ => 0)))] H := hP
  have hD : va_D A [(h0, .inr (4, [.null, .int 0])), (q7, .inl (c7, 40, .inl (fun _ => 0)))] := hD
  have hK : va_K (dC, dI) cls_ [(c7, .char)] s := hK
  refine va_putF (D := (dC, dI)) (cl := cls_) (ci := 4) (v := .ref q7) (ty := (.array .char)) (C := Rz_T) (T := Tz_T) (N := 2) hx hb hts uz_T tz_T tz_T_ok nz_T hown hK hP hD hS 0 rfl rfl 0 (by decide) (hts _ kw_115) (fun _ h9 => h9) rfl hin rfl (by decide +kernel) rfl rfl (Nat.le_of_ble_eq_true rfl) d_T_init_9 (fun H locs hP hD hS => ?_)
  have hP : va_P (dC, dI) cls_ [(h0, .inr (4, [.ref q7, .int 0])), (q7, .inl (c7, 40, .inl (fun _ => 0)))] H := hP
  have hD : va_D A [(h0, .inr (4, [.ref q7, .int 0])), (q7, .inl (c7, 40, .inl (fun _ => 0)))] := hD
  have hP9 := hP.sub (ws' := fw_T h0 ((fun i => ([0, 0, 0, 0, 0, 0, 0, 0, 0, 0, 0, 0, 0, 0, 0, 0, 0, 0, 0, 0, h0, q7] : List Nat).getD i 0), (fun i => ([0, 0, 0, 0, 0, 0, 0, 0, 0, 0, 0, 0, 0, 0, 0, 0, 0, 0, 0, 0, 0, c7] : List ClassId).getD i 0), (fun _ => 0))) [0, 1] rfl
  have hD9 := hD.sub (ws' := fw_T h0 ((fun i => ([0, 0, 0, 0, 0, 0, 0, 0, 0, 0, 0, 0, 0, 0, 0, 0, 0, 0, 0, 0, h0, q7] : List Nat).getD i 0), (fun i => ([0, 0, 0, 0, 0, 0, 0, 0, 0, 0, 0, 0, 0, 0, 0, 0, 0, 0, 0, 0, 0, c7] : List ClassId).getD i 0), (fun _ => 0))) [0, 1] (by decide) rfl
  have hK9 := hK.sub (tys' := ft_T ((fun i => ([0, 0, 0, 0, 0, 0, 0, 0, 0, 0, 0, 0, 0, 0, 0, 0, 0, 0, 0, 0, h0, q7] : List Nat).getD i 0), (fun i => ([0, 0, 0, 0, 0, 0, 0, 0, 0, 0, 0, 0, 0, 0, 0, 0, 0, 0, 0, 0, 0, c7] : List ClassId).getD i 0), (fun _ => 0))) [0] rfl
  refine W.widen (k := 1) (n := 40) (Nat.le_of_ble_eq_true rfl) (Nat.le_of_ble_eq_true rfl) ?_
  exact W.vret hx hb hr (fun t ht hW => ⟨⟨((fun i => ([0, 0, 0, 0, 0, 0, 0, 0, 0, 0, 0, 0, 0, 0, 0, 0, 0, 0, 0, 0, h0, q7] : List Nat).getD i 0), (fun i => ([0, 0, 0, 0, 0, 0, 0, 0, 0, 0, 0, 0, 0, 0, 0, 0, 0, 0, 0, 0, 0, c7] : List ClassId).getD i 0), (fun _ => 0)), rfl, trivial, by rw [ht]; exact hP9, va_K.moved hW.alike hK9, hD9⟩, hS.F ht⟩) hS.2.2 d_T_init_12
