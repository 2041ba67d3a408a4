/-! constructor of StagedParsers$Machine -/
def fw_M (h0 r1 r2 : Nat) (u : IU_) : va_W := [(h0, .inr (5, [.ref r1, .ref r2, .ref (u.1 25), .ref (u.1 23), .ref (u.1 24), .int 0, .int 0, .int 0, .int 0, .int 0, .int 0, .int 0, .int 0, .int 0])), (u.1 23, .inl (u.2.1 23, 642, .inl (fun _ => 0))), (u.1 24, .inl (u.2.1 24, 4, .inl (fun _ => 0))), (u.1 25, .inr (6, [.ref (u.1 26), .ref (u.1 27), .ref (u.1 28), .ref (u.1 29), .int 0])), (u.1 26, .inl (u.2.1 26, 640, .inl (fun _ => 0))), (u.1 27, .inl (u.2.1 27, 640, .inl (fun _ => 0))), (u.1 28, .inl (u.2.1 28, 640, .inl (fun _ => 0))), (u.1 29, .inl (u.2.1 29, 640, .inl (fun _ => 0)))]
def ft_M (u : IU_) : List (ClassId × FieldType) := [(u.2.1 23, .int), (u.2.1 24, .int), (u.2.1 26, .int), (u.2.1 27, .int), (u.2.1 28, .int), (u.2.1 29, .int)]
def y_M_init : MethodName := ⟨"StagedParsers$Machine", "<init>", "(LStagedParsers$Code;LStagedParsers$Text;)V"⟩
def w_M_init : List Cond := .code y_M_init prog_5_method_1_code 3 none :: AW_
def rm_M_init : Room := { frames := 2, cells := 7, slots := 3211, locals := 32 }
theorem d_M_init_0 : decode prog_5_method_1_code 0 = .ok (.aload_n 0, 1) := by decide +kernel
theorem d_M_init_1 : decode prog_5_method_1_code 1 = .ok (.invokespecial 3, 3) := by decide +kernel
theorem d_M_init_4 : decode prog_5_method_1_code 4 = .ok (.aload_n 0, 1) := by decide +kernel
theorem d_M_init_5 : decode prog_5_method_1_code 5 = .ok (.new 9, 3) := by decide +kernel
theorem d_M_init_8 : decode prog_5_method_1_code 8 = .ok (.dup, 1) := by decide +kernel
theorem d_M_init_9 : decode prog_5_method_1_code 9 = .ok (.invokespecial 11, 3) := by decide +kernel
theorem d_M_init_12 : decode prog_5_method_1_code 12 = .ok (.putfield 12, 3) := by decide +kernel
theorem d_M_init_15 : decode prog_5_method_1_code 15 = .ok (.aload_n 0, 1) := by decide +kernel
theorem d_M_init_16 : decode prog_5_method_1_code 16 = .ok (.sipush 642, 3) := by decide +kernel
theorem d_M_init_19 : decode prog_5_method_1_code 19 = .ok (.newarray .int, 2) := by decide +kernel
theorem d_M_init_21 : decode prog_5_method_1_code 21 = .ok (.putfield 18, 3) := by decide +kernel
theorem d_M_init_24 : decode prog_5_method_1_code 24 = .ok (.aload_n 0, 1) := by decide +kernel
theorem d_M_init_25 : decode prog_5_method_1_code 25 = .ok (.iconst 4, 1) := by decide +kernel
theorem d_M_init_26 : decode prog_5_method_1_code 26 = .ok (.newarray .int, 2) := by decide +kernel
theorem d_M_init_28 : decode prog_5_method_1_code 28 = .ok (.putfield 22, 3) := by decide +kernel
theorem d_M_init_31 : decode prog_5_method_1_code 31 = .ok (.aload_n 0, 1) := by decide +kernel
theorem d_M_init_32 : decode prog_5_method_1_code 32 = .ok (.aload_n 1, 1) := by decide +kernel
theorem d_M_init_33 : decode prog_5_method_1_code 33 = .ok (.putfield 25, 3) := by decide +kernel
theorem d_M_init_36 : decode prog_5_method_1_code 36 = .ok (.aload_n 0, 1) := by decide +kernel
theorem d_M_init_37 : decode prog_5_method_1_code 37 = .ok (.aload_n 2, 1) := by decide +kernel
theorem d_M_init_38 : decode prog_5_method_1_code 38 = .ok (.putfield 29, 3) := by decide +kernel
theorem d_M_init_41 : decode prog_5_method_1_code 41 = .ok (.return_, 1) := by decide +kernel
set_option maxHeartbeats 8000000 in
set_option maxRecDepth 100000 in
theorem c_M_init (l : Launch) (dC : Nat → ClassId) (dI : Nat → Nat → Nat) (h0 r1 r2 sz : Nat) : Met l y_M_init w_M_init rm_M_init (va_Pc [.ref h0, .ref r1, .ref r2] (PI_ dC dI [(h0, .inr (5, [.null, .null, .null, .null, .null, .int 0, .int 0, .int 0, .int 0, .int 0, .int 0, .int 0, .int 0, .int 0]))] sz)) (va_Qv (fun u : IU_ => True) (fun u t => va_P (dC, dI) cls_ (fw_M h0 r1 r2 u) t.heap ∧ va_K (dC, dI) cls_ (ft_M u) t ∧ va_D (va_A [(h0, .inr (5, [.null, .null, .null, .null, .null, .int 0, .int 0, .int 0, .int 0, .int 0, .int 0, .int 0, .int 0, .int 0]))] sz) (fw_M h0 r1 r2 u)) (va_A [(h0, .inr (5, [.null, .null, .null, .null, .null, .int 0, .int 0, .int 0, .int 0, .int 0, .int 0, .int 0, .int 0, .int 0]))] sz)) 7 3211 (va_A [(h0, .inr (5, [.null, .null, .null, .null, .null, .int 0, .int 0, .int 0, .int 0, .int 0, .int 0, .int 0, .int 0, .int 0]))] sz) := by
  refine Met.ofW (cc := prog_5_method_1_code) (maxL := 3) (ret := none) (by decide) rfl ?_
  intro p e s m args below meth c s₁ B hml hv
  obtain ⟨rfl, hsz, hP, hK, hD0, hN⟩ := hv
  have hx := B.exec
  have hb := B.bytes
  have hr := B.returns
  have hts : ∀ w ∈ AW_, w.before _ s = true := fun w h => atoms_spec (ws := w_M_init) B.pre w (List.mem_cons_of_mem _ h)
  have hown : s.vm.findClass "StagedParsers$Machine" = some m.cls := findClass_of_methodNamed B.named
  have hlocks := B.notSynchronized
  have hin : meth.name = "<init>" := (name_of_methodNamed B.named B.method).1
  subst hsz
  have hD := hD0.self (sz := s.heap.size)
  generalize hAe : va_A [(h0, .inr (5, [.null, .null, .null, .null, .null, .int 0, .int 0, .int 0, .int 0, .int 0, .int 0, .int 0, .int 0, .int 0]))] s.heap.size = A at hD ⊢
  have hA : ∀ q : Nat, s.heap.size ≤ q → A q := fun q h => by rw [← hAe]; exact Or.inr h
  have hS : va_S A s.heap s.heap [] := va_S.rf
  have hl := lv_entry ([.ref h0, .ref r1, .ref r2]) (n := 3) (Nat.le_of_ble_eq_true rfl)
  rw [lg_entry_eq]
  generalize (lg_sl ([.ref h0, .ref r1, .ref r2]) ++ List.replicate (3 - (lg_sl ([.ref h0, .ref r1, .ref r2])).length) Slot.unset).toArray = ls at hl ⊢
  have hl : lv_has ls 3 [(0, .ref h0), (1, .ref r1), (2, .ref r2)] := hl
  have hP : va_P (dC, dI) cls_ [(h0, .inr (5, [.null, .null, .null, .null, .null, .int 0, .int 0, .int 0, .int 0, .int 0, .int 0, .int 0, .int 0, .int 0]))] s.heap := hP
  have hK : va_K (dC, dI) cls_ [] s := hK
  refine lv_aload_n hx hb d_M_init_0 rfl (lv_at hl 0 rfl) ?_
  refine W.objInit hx hb hown (hts _ kw_128) (hts _ kw_24) (hts _ kw_25) rfl (by rw [hml]; exact hl.1) rfl d_M_init_1 (Nat.le_of_ble_eq_true rfl) (Nat.le_of_ble_eq_true rfl) ?_
  refine W.eq (g2 := F0 m 4 ls []) rfl ?_
  refine lv_aload_n hx hb d_M_init_4 rfl (lv_at hl 0 rfl) ?_
  refine va_new (cl := cls_) (ci := 6) (fs := [.null, .null, .null, .null, .int 0]) (C := Rz_F) (T := Tz_F) (N := 5) hx hb hts uz_F tz_F tz_F_ok hown (hts _ kw_129) (hts _ kw_130) (hts _ kw_8) hK hP hD hS hA rfl (fun j hj => by rcases (show j = 0 ∨ j = 1 ∨ j = 2 ∨ j = 3 ∨ j = 4 by omega) with rfl | rfl | rfl | rfl | rfl <;> rfl) (Nat.le_of_ble_eq_true rfl) (Nat.le_of_ble_eq_true rfl) d_M_init_5 (fun q5 H hP hD hS => ?_)
  have hP : va_P (dC, dI) cls_ [(h0, .inr (5, [.null, .null, .null, .null, .null, .int 0, .int 0, .int 0, .int 0, .int 0, .int 0, .int 0, .int 0, .int 0])), (q5, .inr (6, [.null, .null, .null, .null, .int 0]))] H := hP
  have hD : va_D A [(h0, .inr (5, [.null, .null, .null, .null, .null, .int 0, .int 0, .int 0, .int 0, .int 0, .int 0, .int 0, .int 0, .int 0])), (q5, .inr (6, [.null, .null, .null, .null, .int 0]))] := hD
  refine lv_dup hx hb d_M_init_8 rfl ?_
  have hPc := hP.sub (ws' := [(q5, .inr (6, [.null, .null, .null, .null, .int 0]))]) [1] rfl
  have hDc := hD.sub (ws' := [(q5, .inr (6, [.null, .null, .null, .null, .int 0]))]) [1] (by decide) rfl
  have hKc := hK.sub (tys' := []) [] rfl
  have hFc := va_free (wc := [(q5, .inr (6, [.null, .null, .null, .null, .int 0]))]) hD hS hA [1] rfl
  refine va_callv (va_runIN (As := []) (rest := [.ref q5, .ref h0]) ⟨hx, hb, hml, hown, hts⟩ (c_F_init l dC dI q5 H.size) ⟨va_cnB 0 hts (aw_in kw_133) rfl rfl rfl (hN _ (List.mem_of_getElem? (i := 2) rfl)) (hts _ kw_8) ⟨by decide, by decide, by decide +kernel⟩ ⟨Nat.le_of_ble_eq_true rfl, Nat.le_of_ble_eq_true rfl⟩, rfl, hts _ kw_132⟩ ⟨pi_B, fun U hU hW => ⟨rfl, by rw [hU], by rw [hU]; exact hPc, va_K.moved hW.alike hKc, hDc.weaken (fun _ _ _ _ => trivial), nw_warm hW hN⟩⟩ rfl rfl hl.1 rfl (lv_room (Nat.le_of_ble_eq_true rfl)) d_M_init_9 ⟨Nat.le_of_ble_eq_true rfl, Nat.le_of_ble_eq_true rfl⟩) hS (fun q _ h => hFc q h) hFc (fun u9 t H1 locs ht hvm hp9 hB hz1 hk1 hS => ?_)
  obtain ⟨hP1, hK1, hD1⟩ := hB
  rw [ht] at hP1
  have hK1 := va_K.moved hvm.symm hK1
  obtain ⟨hP, hD⟩ := va_join (wr := [(h0, .inr (5, [.null, .null, .null, .null, .null, .int 0, .int 0, .int 0, .int 0, .int 0, .int 0, .int 0, .int 0, .int 0]))]) (w1 := fw_F q5 u9) hP hD [1] [0] rfl rfl (by decide) (by decide) hk1 hFc hP1 hD1
  have hK := hK.app hK1
  generalize H1 = H at hP hS ⊢
  have hP : va_P (dC, dI) cls_ [(h0, .inr (5, [.null, .null, .null, .null, .null, .int 0, .int 0, .int 0, .int 0, .int 0, .int 0, .int 0, .int 0, .int 0])), (q5, .inr (6, [.ref (u9.1 26), .ref (u9.1 27), .ref (u9.1 28), .ref (u9.1 29), .int 0])), (u9.1 26, .inl (u9.2.1 26, 640, .inl (fun _ => 0))), (u9.1 27, .inl (u9.2.1 27, 640, .inl (fun _ => 0))), (u9.1 28, .inl (u9.2.1 28, 640, .inl (fun _ => 0))), (u9.1 29, .inl (u9.2.1 29, 640, .inl (fun _ => 0)))] H := hP
  have hD : va_D A [(h0, .inr (5, [.null, .null, .null, .null, .null, .int 0, .int 0, .int 0, .int 0, .int 0, .int 0, .int 0, .int 0, .int 0])), (q5, .inr (6, [.ref (u9.1 26), .ref (u9.1 27), .ref (u9.1 28), .ref (u9.1 29), .int 0])), (u9.1 26, .inl (u9.2.1 26, 640, .inl (fun _ => 0))), (u9.1 27, .inl (u9.2.1 27, 640, .inl (fun _ => 0))), (u9.1 28, .inl (u9.2.1 28, 640, .inl (fun _ => 0))), (u9.1 29, .inl (u9.2.1 29, 640, .inl (fun _ => 0)))] := hD
  have hK : va_K (dC, dI) cls_ [(u9.2.1 26, .int), (u9.2.1 27, .int), (u9.2.1 28, .int), (u9.2.1 29, .int)] s := hK
  refine va_putF (D := (dC, dI)) (cl := cls_) (ci := 5) (v := .ref q5) (ty := (.object "StagedParsers$Frames")) (C := Rz_M) (T := Tz_M) (N := 14) hx hb hts uz_M tz_M tz_M_ok nz_M hown hK hP hD hS 0 rfl rfl 2 (by decide) (hts _ kw_153) (fun _ h9 => h9) rfl hin rfl (by decide +kernel) rfl rfl (Nat.le_of_ble_eq_true rfl) d_M_init_12 (fun H locs hP hD hS => ?_)
  have hP : va_P (dC, dI) cls_ [(h0, .inr (5, [.null, .null, .ref q5, .null, .null, .int 0, .int 0, .int 0, .int 0, .int 0, .int 0, .int 0, .int 0, .int 0])), (q5, .inr (6, [.ref (u9.1 26), .ref (u9.1 27), .ref (u9.1 28), .ref (u9.1 29), .int 0])), (u9.1 26, .inl (u9.2.1 26, 640, .inl (fun _ => 0))), (u9.1 27, .inl (u9.2.1 27, 640, .inl (fun _ => 0))), (u9.1 28, .inl (u9.2.1 28, 640, .inl (fun _ => 0))), (u9.1 29, .inl (u9.2.1 29, 640, .inl (fun _ => 0)))] H := hP
  have hD : va_D A [(h0, .inr (5, [.null, .null, .ref q5, .null, .null, .int 0, .int 0, .int 0, .int 0, .int 0, .int 0, .int 0, .int 0, .int 0])), (q5, .inr (6, [.ref (u9.1 26), .ref (u9.1 27), .ref (u9.1 28), .ref (u9.1 29), .int 0])), (u9.1 26, .inl (u9.2.1 26, 640, .inl (fun _ => 0))), (u9.1 27, .inl (u9.2.1 27, 640, .inl (fun _ => 0))), (u9.1 28, .inl (u9.2.1 28, 640, .inl (fun _ => 0))), (u9.1 29, .inl (u9.2.1 29, 640, .inl (fun _ => 0)))] := hD
  refine lv_aload_n hx hb d_M_init_15 rfl (lv_at hl 0 rfl) ?_
  refine lv_sipush (v := 642) hx hb d_M_init_16 (by decide) ?_
  refine va_newa (atype := .int) (ty := .int) (n := 642) (a0 := (642, .inl (fun _ => 0))) (N' := 642) hx hb (hts _ kw_57) rfl hK hP hD hS hA (fun cA => na_i cA 642) (by decide) (by decide) (by decide) (Nat.le_of_ble_eq_true rfl) (Nat.le_of_ble_eq_true rfl) d_M_init_19 (fun q19 c19 H hK hP hD hS => ?_)
  have hP : va_P (dC, dI) cls_ [(h0, .inr (5, [.null, .null, .ref q5, .null, .null, .int 0, .int 0, .int 0, .int 0, .int 0, .int 0, .int 0, .int 0, .int 0])), (q5, .inr (6, [.ref (u9.1 26), .ref (u9.1 27), .ref (u9.1 28), .ref (u9.1 29), .int 0])), (u9.1 26, .inl (u9.2.1 26, 640, .inl (fun _ => 0))), (u9.1 27, .inl (u9.2.1 27, 640, .inl (fun _ => 0))), (u9.1 28, .inl (u9.2.1 28, 640, .inl (fun _ => 0))), (u9.1 29, .inl (u9.2.1 29, 640, .inl (fun _ => 0))), (q19, .inl (c19, 642, .inl (fun _ => 0)))] H := hP
  have hD : va_D A [(h0, .inr (5, [.null, .null, .ref q5, .null, .null, .int 0, .int 0, .int 0, .int 0, .int 0, .int 0, .int 0, .int 0, .int 0])), (q5, .inr (6, [.ref (u9.1 26), .ref (u9.1 27), .ref (u9.1 28), .ref (u9.1 29), .int 0])), (u9.1 26, .inl (u9.2.1 26, 640, .inl (fun _ => 0))), (u9.1 27, .inl (u9.2.1 27, 640, .inl (fun _ => 0))), (u9.1 28, .inl (u9.2.1 28, 640, .inl (fun _ => 0))), (u9.1 29, .inl (u9.2.1 29, 640, .inl (fun _ => 0))), (q19, .inl (c19, 642, .inl (fun _ => 0)))] := hD
  have hK : va_K (dC, dI) cls_ [(u9.2.1 26, .int), (u9.2.1 27, .int), (u9.2.1 28, .int), (u9.2.1 29, .int), (c19, .int)] s := hK
  refine va_putF (D := (dC, dI)) (cl := cls_) (ci := 5) (v := .ref q19) (ty := (.array .int)) (C := Rz_M) (T := Tz_M) (N := 14) hx hb hts uz_M tz_M tz_M_ok nz_M hown hK hP hD hS 0 rfl rfl 3 (by decide) (hts _ kw_154) (fun _ h9 => h9) rfl hin rfl (by decide +kernel) rfl rfl (Nat.le_of_ble_eq_true rfl) d_M_init_21 (fun H locs hP hD hS => ?_)
  have hP : va_P (dC, dI) cls_ [(h0, .inr (5, [.null, .null, .ref q5, .ref q19, .null, .int 0, .int 0, .int 0, .int 0, .int 0, .int 0, .int 0, .int 0, .int 0])), (q5, .inr (6, [.ref (u9.1 26), .ref (u9.1 27), .ref (u9.1 28), .ref (u9.1 29), .int 0])), (u9.1 26, .inl (u9.2.1 26, 640, .inl (fun _ => 0))), (u9.1 27, .inl (u9.2.1 27, 640, .inl (fun _ => 0))), (u9.1 28, .inl (u9.2.1 28, 640, .inl (fun _ => 0))), (u9.1 29, .inl (u9.2.1 29, 640, .inl (fun _ => 0))), (q19, .inl (c19, 642, .inl (fun _ => 0)))] H := hP
  have hD : va_D A [(h0, .inr (5, [.null, .null, .ref q5, .ref q19, .null, .int 0, .int 0, .int 0, .int 0, .int 0, .int 0, .int 0, .int 0, .int 0])), (q5, .inr (6, [.ref (u9.1 26), .ref (u9.1 27), .ref (u9.1 28), .ref (u9.1 29), .int 0])), (u9.1 26, .inl (u9.2.1 26, 640, .inl (fun _ => 0))), (u9.1 27, .inl (u9.2.1 27, 640, .inl (fun _ => 0))), (u9.1 28, .inl (u9.2.1 28, 640, .inl (fun _ => 0))), (u9.1 29, .inl (u9.2.1 29, 640, .inl (fun _ => 0))), (q19, .inl (c19, 642, .inl (fun _ => 0)))] := hD
  refine lv_aload_n hx hb d_M_init_24 rfl (lv_at hl 0 rfl) ?_
  refine lv_iconst (v := 4) hx hb d_M_init_25 (by decide) ?_
  refine va_newa (atype := .int) (ty := .int) (n := 4) (a0 := (4, .inl (fun _ => 0))) (N' := 4) hx hb (hts _ kw_57) rfl hK hP hD hS hA (fun cA => na_i cA 4) (by decide) (by decide) (by decide) (Nat.le_of_ble_eq_true rfl) (Nat.le_of_ble_eq_true rfl) d_M_init_26 (fun q26 c26 H hK hP hD hS => ?_)
  have hP : va_P (dC, dI) cls_ [(h0, .inr (5, [.null, .null, .ref q5, .ref q19, .null, .int 0, .int 0, .int 0, .int 0, .int 0, .int 0, .int 0, .int 0, .int 0])), (q5, .inr (6, [.ref (u9.1 26), .ref (u9.1 27), .ref (u9.1 28), .ref (u9.1 29), .int 0])), (u9.1 26, .inl (u9.2.1 26, 640, .inl (fun _ => 0))), (u9.1 27, .inl (u9.2.1 27, 640, .inl (fun _ => 0))), (u9.1 28, .inl (u9.2.1 28, 640, .inl (fun _ => 0))), (u9.1 29, .inl (u9.2.1 29, 640, .inl (fun _ => 0))), (q19, .inl (c19, 642, .inl (fun _ => 0))), (q26, .inl (c26, 4, .inl (fun _ => 0)))] H := hP
  have hD : va_D A [(h0, .inr (5, [.null, .null, .ref q5, .ref q19, .null, .int 0, .int 0, .int 0, .int 0, .int 0, .int 0, .int 0, .int 0, .int 0])), (q5, .inr (6, [.ref (u9.1 26), .ref (u9.1 27), .ref (u9.1 28), .ref (u9.1 29), .int 0])), (u9.1 26, .inl (u9.2.1 26, 640, .inl (fun _ => 0))), (u9.1 27, .inl (u9.2.1 27, 640, .inl (fun _ => 0))), (u9.1 28, .inl (u9.2.1 28, 640, .inl (fun _ => 0))), (u9.1 29, .inl (u9.2.1 29, 640, .inl (fun _ => 0))), (q19, .inl (c19, 642, .inl (fun _ => 0))), (q26, .inl (c26, 4, .inl (fun _ => 0)))] := hD
  have hK : va_K (dC, dI) cls_ [(u9.2.1 26, .int), (u9.2.1 27, .int), (u9.2.1 28, .int), (u9.2.1 29, .int), (c19, .int), (c26, .int)] s := hK
  refine va_putF (D := (dC, dI)) (cl := cls_) (ci := 5) (v := .ref q26) (ty := (.array .int)) (C := Rz_M) (T := Tz_M) (N := 14) hx hb hts uz_M tz_M tz_M_ok nz_M hown hK hP hD hS 0 rfl rfl 4 (by decide) (hts _ kw_155) (fun _ h9 => h9) rfl hin rfl (by decide +kernel) rfl rfl (Nat.le_of_ble_eq_true rfl) d_M_init_28 (fun H locs hP hD hS => ?_)
  have hP : va_P (dC, dI) cls_ [(h0, .inr (5, [.null, .null, .ref q5, .ref q19, .ref q26, .int 0, .int 0, .int 0, .int 0, .int 0, .int 0, .int 0, .int 0, .int 0])), (q5, .inr (6, [.ref (u9.1 26), .ref (u9.1 27), .ref (u9.1 28), .ref (u9.1 29), .int 0])), (u9.1 26, .inl (u9.2.1 26, 640, .inl (fun _ => 0))), (u9.1 27, .inl (u9.2.1 27, 640, .inl (fun _ => 0))), (u9.1 28, .inl (u9.2.1 28, 640, .inl (fun _ => 0))), (u9.1 29, .inl (u9.2.1 29, 640, .inl (fun _ => 0))), (q19, .inl (c19, 642, .inl (fun _ => 0))), (q26, .inl (c26, 4, .inl (fun _ => 0)))] H := hP
  have hD : va_D A [(h0, .inr (5, [.null, .null, .ref q5, .ref q19, .ref q26, .int 0, .int 0, .int 0, .int 0, .int 0, .int 0, .int 0, .int 0, .int 0])), (q5, .inr (6, [.ref (u9.1 26), .ref (u9.1 27), .ref (u9.1 28), .ref (u9.1 29), .int 0])), (u9.1 26, .inl (u9.2.1 26, 640, .inl (fun _ => 0))), (u9.1 27, .inl (u9.2.1 27, 640, .inl (fun _ => 0))), (u9.1 28, .inl (u9.2.1 28, 640, .inl (fun _ => 0))), (u9.1 29, .inl (u9.2.1 29, 640, .inl (fun _ => 0))), (q19, .inl (c19, 642, .inl (fun _ => 0))), (q26, .inl (c26, 4, .inl (fun _ => 0)))] := hD
  refine lv_aload_n hx hb d_M_init_31 rfl (lv_at hl 0 rfl) ?_
  refine lv_aload_n hx hb d_M_init_32 rfl (lv_at hl 1 rfl) ?_
  refine va_putF (D := (dC, dI)) (cl := cls_) (ci := 5) (v := .ref r1) (ty := (.object "StagedParsers$Code")) (C := Rz_M) (T := Tz_M) (N := 14) hx hb hts uz_M tz_M tz_M_ok nz_M hown hK hP hD hS 0 rfl rfl 0 (by decide) (hts _ kw_151) (fun _ h9 => h9) rfl hin rfl (by decide +kernel) rfl rfl (Nat.le_of_ble_eq_true rfl) d_M_init_33 (fun H locs hP hD hS => ?_)
  have hP : va_P (dC, dI) cls_ [(h0, .inr (5, [.ref r1, .null, .ref q5, .ref q19, .ref q26, .int 0, .int 0, .int 0, .int 0, .int 0, .int 0, .int 0, .int 0, .int 0])), (q5, .inr (6, [.ref (u9.1 26), .ref (u9.1 27), .ref (u9.1 28), .ref (u9.1 29), .int 0])), (u9.1 26, .inl (u9.2.1 26, 640, .inl (fun _ => 0))), (u9.1 27, .inl (u9.2.1 27, 640, .inl (fun _ => 0))), (u9.1 28, .inl (u9.2.1 28, 640, .inl (fun _ => 0))), (u9.1 29, .inl (u9.2.1 29, 640, .inl (fun _ => 0))), (q19, .inl (c19, 642, .inl (fun _ => 0))), (q26, .inl (c26, 4, .inl (fun _ => 0)))] H := hP
  have hD : va_D A [(h0, .inr (5, [.ref r1, .null, .ref q5, .ref q19, .ref q26, .int 0, .int 0, .int 0, .int 0, .int 0, .int 0, .int 0, .int 0, .int 0])), (q5, .inr (6, [.ref (u9.1 26), .ref (u9.1 27), .ref (u9.1 28), .ref (u9.1 29), .int 0])), (u9.1 26, .inl (u9.2.1 26, 640, .inl (fun _ => 0))), (u9.1 27, .inl (u9.2.1 27, 640, .inl (fun _ => 0))), (u9.1 28, .inl (u9.2.1 28, 640, .inl (fun _ => 0))), (u9.1 29, .inl (u9.2.1 29, 640, .inl (fun _ => 0))), (q19, .inl (c19, 642, .inl (fun _ => 0))), (q26, .inl (c26, 4, .inl (fun _ => 0)))] := hD
  refine lv_aload_n hx hb d_M_init_36 rfl (lv_at hl 0 rfl) ?_
  refine lv_aload_n hx hb d_M_init_37 rfl (lv_at hl 2 rfl) ?_
  refine va_putF (D := (dC, dI)) (cl := cls_) (ci := 5) (v := .ref r2) (ty := (.object "StagedParsers$Text")) (C := Rz_M) (T := Tz_M) (N := 14) hx hb hts uz_M tz_M tz_M_ok nz_M hown hK hP hD hS 0 rfl rfl 1 (by decide) (hts _ kw_152) (fun _ h9 => h9) rfl hin rfl (by decide +kernel) rfl rfl (Nat.le_of_ble_eq_true rfl) d_M_init_38 (fun H locs hP hD hS => ?_)
  have hP : va_P (dC, dI) cls_ [(h0, .inr (5, [.ref r1, .ref r2, .ref q5, .ref q19, .ref q26, .int 0, .int 0, .int 0, .int 0, .int 0, .int 0, .int 0, .int 0, .int 0])), (q5, .inr (6, [.ref (u9.1 26), .ref (u9.1 27), .ref (u9.1 28), .ref (u9.1 29), .int 0])), (u9.1 26, .inl (u9.2.1 26, 640, .inl (fun _ => 0))), (u9.1 27, .inl (u9.2.1 27, 640, .inl (fun _ => 0))), (u9.1 28, .inl (u9.2.1 28, 640, .inl (fun _ => 0))), (u9.1 29, .inl (u9.2.1 29, 640, .inl (fun _ => 0))), (q19, .inl (c19, 642, .inl (fun _ => 0))), (q26, .inl (c26, 4, .inl (fun _ => 0)))] H := hP
  have hD : va_D A [(h0, .inr (5, [.ref r1, .ref r2, .ref q5, .ref q19, .ref q26, .int 0, .int 0, .int 0, .int 0, .int 0, .int 0, .int 0, .int 0, .int 0])), (q5, .inr (6, [.ref (u9.1 26), .ref (u9.1 27), .ref (u9.1 28), .ref (u9.1 29), .int 0])), (u9.1 26, .inl (u9.2.1 26, 640, .inl (fun _ => 0))), (u9.1 27, .inl (u9.2.1 27, 640, .inl (fun _ => 0))), (u9.1 28, .inl (u9.2.1 28, 640, .inl (fun _ => 0))), (u9.1 29, .inl (u9.2.1 29, 640, .inl (fun _ => 0))), (q19, .inl (c19, 642, .inl (fun _ => 0))), (q26, .inl (c26, 4, .inl (fun _ => 0)))] := hD
  have hP9 := hP.sub (ws' := fw_M h0 r1 r2 ((fun i => ([0, 0, 0, 0, 0, 0, 0, 0, 0, 0, 0, 0, 0, 0, 0, 0, 0, 0, 0, 0, 0, 0, h0, q19, q26, q5, u9.1 26, u9.1 27, u9.1 28, u9.1 29] : List Nat).getD i 0), (fun i => ([0, 0, 0, 0, 0, 0, 0, 0, 0, 0, 0, 0, 0, 0, 0, 0, 0, 0, 0, 0, 0, 0, 0, c19, c26, 0, u9.2.1 26, u9.2.1 27, u9.2.1 28, u9.2.1 29] : List ClassId).getD i 0), (fun _ => 0))) [0, 6, 7, 1, 2, 3, 4, 5] rfl
  have hD9 := hD.sub (ws' := fw_M h0 r1 r2 ((fun i => ([0, 0, 0, 0, 0, 0, 0, 0, 0, 0, 0, 0, 0, 0, 0, 0, 0, 0, 0, 0, 0, 0, h0, q19, q26, q5, u9.1 26, u9.1 27, u9.1 28, u9.1 29] : List Nat).getD i 0), (fun i => ([0, 0, 0, 0, 0, 0, 0, 0, 0, 0, 0, 0, 0, 0, 0, 0, 0, 0, 0, 0, 0, 0, 0, c19, c26, 0, u9.2.1 26, u9.2.1 27, u9.2.1 28, u9.2.1 29] : List ClassId).getD i 0), (fun _ => 0))) [0, 6, 7, 1, 2, 3, 4, 5] (by decide) rfl
  have hK9 := hK.sub (tys' := ft_M ((fun i => ([0, 0, 0, 0, 0, 0, 0, 0, 0, 0, 0, 0, 0, 0, 0, 0, 0, 0, 0, 0, 0, 0, h0, q19, q26, q5, u9.1 26, u9.1 27, u9.1 28, u9.1 29] : List Nat).getD i 0), (fun i => ([0, 0, 0, 0, 0, 0, 0, 0, 0, 0, 0, 0, 0, 0, 0, 0, 0, 0, 0, 0, 0, 0, 0, c19, c26, 0, u9.2.1 26, u9.2.1 27, u9.2.1 28, u9.2.1 29] : List ClassId).getD i 0), (fun _ => 0))) [4, 5, 0, 1, 2, 3] rfl
  refine W.widen (k := 7) (n := 3211) (Nat.le_of_ble_eq_true rfl) (Nat.le_of_ble_eq_true rfl) ?_
  exact W.vret hx hb hr (fun t ht hW => ⟨⟨((fun i => ([0, 0, 0, 0, 0, 0, 0, 0, 0, 0, 0, 0, 0, 0, 0, 0, 0, 0, 0, 0, 0, 0, h0, q19, q26, q5, u9.1 26, u9.1 27, u9.1 28, u9.1 29] : List Nat).getD i 0), (fun i => ([0, 0, 0, 0, 0, 0, 0, 0, 0, 0, 0, 0, 0, 0, 0, 0, 0, 0, 0, 0, 0, 0, 0, c19, c26, 0, u9.2.1 26, u9.2.1 27, u9.2.1 28, u9.2.1 29] : List ClassId).getD i 0), (fun _ => 0)), rfl, trivial, by rw [ht]; exact hP9, va_K.moved hW.alike hK9, hD9⟩, hS.F ht⟩) hS.2.2 d_M_init_41
