/-! the other system, third -/
def y_R_enter : MethodName := ⟨"StagedParsersModel", "enter", "(I)V"⟩
def w_R_enter : List Cond := .code y_R_enter prog_9_method_28_code 2 none :: AW_
def rm_R_enter : Room := { frames := 0, cells := 0, slots := 0, locals := 0 }
theorem d_R_enter_0 : decode prog_9_method_28_code 0 = .ok (.aload_n 0, 1) := by decide +kernel
theorem d_R_enter_1 : decode prog_9_method_28_code 1 = .ok (.getfield 44, 3) := by decide +kernel
theorem d_R_enter_4 : decode prog_9_method_28_code 4 = .ok (.aload_n 0, 1) := by decide +kernel
theorem d_R_enter_5 : decode prog_9_method_28_code 5 = .ok (.getfield 138, 3) := by decide +kernel
theorem d_R_enter_8 : decode prog_9_method_28_code 8 = .ok (.iload_n 1, 1) := by decide +kernel
theorem d_R_enter_9 : decode prog_9_method_28_code 9 = .ok (.iastore, 1) := by decide +kernel
theorem d_R_enter_10 : decode prog_9_method_28_code 10 = .ok (.aload_n 0, 1) := by decide +kernel
theorem d_R_enter_11 : decode prog_9_method_28_code 11 = .ok (.getfield 47, 3) := by decide +kernel
theorem d_R_enter_14 : decode prog_9_method_28_code 14 = .ok (.aload_n 0, 1) := by decide +kernel
theorem d_R_enter_15 : decode prog_9_method_28_code 15 = .ok (.getfield 138, 3) := by decide +kernel
theorem d_R_enter_18 : decode prog_9_method_28_code 18 = .ok (.iconst 0, 1) := by decide +kernel
theorem d_R_enter_19 : decode prog_9_method_28_code 19 = .ok (.iastore, 1) := by decide +kernel
theorem d_R_enter_20 : decode prog_9_method_28_code 20 = .ok (.aload_n 0, 1) := by decide +kernel
theorem d_R_enter_21 : decode prog_9_method_28_code 21 = .ok (.getfield 50, 3) := by decide +kernel
theorem d_R_enter_24 : decode prog_9_method_28_code 24 = .ok (.aload_n 0, 1) := by decide +kernel
theorem d_R_enter_25 : decode prog_9_method_28_code 25 = .ok (.getfield 138, 3) := by decide +kernel
theorem d_R_enter_28 : decode prog_9_method_28_code 28 = .ok (.aload_n 0, 1) := by decide +kernel
theorem d_R_enter_29 : decode prog_9_method_28_code 29 = .ok (.getfield 141, 3) := by decide +kernel
theorem d_R_enter_32 : decode prog_9_method_28_code 32 = .ok (.iastore, 1) := by decide +kernel
theorem d_R_enter_33 : decode prog_9_method_28_code 33 = .ok (.aload_n 0, 1) := by decide +kernel
theorem d_R_enter_34 : decode prog_9_method_28_code 34 = .ok (.getfield 53, 3) := by decide +kernel
theorem d_R_enter_37 : decode prog_9_method_28_code 37 = .ok (.aload_n 0, 1) := by decide +kernel
theorem d_R_enter_38 : decode prog_9_method_28_code 38 = .ok (.getfield 138, 3) := by decide +kernel
theorem d_R_enter_41 : decode prog_9_method_28_code 41 = .ok (.iconst 0, 1) := by decide +kernel
theorem d_R_enter_42 : decode prog_9_method_28_code 42 = .ok (.iastore, 1) := by decide +kernel
theorem d_R_enter_43 : decode prog_9_method_28_code 43 = .ok (.aload_n 0, 1) := by decide +kernel
theorem d_R_enter_44 : decode prog_9_method_28_code 44 = .ok (.getfield 56, 3) := by decide +kernel
theorem d_R_enter_47 : decode prog_9_method_28_code 47 = .ok (.aload_n 0, 1) := by decide +kernel
theorem d_R_enter_48 : decode prog_9_method_28_code 48 = .ok (.getfield 138, 3) := by decide +kernel
theorem d_R_enter_51 : decode prog_9_method_28_code 51 = .ok (.aload_n 0, 1) := by decide +kernel
theorem d_R_enter_52 : decode prog_9_method_28_code 52 = .ok (.getfield 141, 3) := by decide +kernel
theorem d_R_enter_55 : decode prog_9_method_28_code 55 = .ok (.iastore, 1) := by decide +kernel
theorem d_R_enter_56 : decode prog_9_method_28_code 56 = .ok (.aload_n 0, 1) := by decide +kernel
theorem d_R_enter_57 : decode prog_9_method_28_code 57 = .ok (.getfield 59, 3) := by decide +kernel
theorem d_R_enter_60 : decode prog_9_method_28_code 60 = .ok (.aload_n 0, 1) := by decide +kernel
theorem d_R_enter_61 : decode prog_9_method_28_code 61 = .ok (.getfield 138, 3) := by decide +kernel
theorem d_R_enter_64 : decode prog_9_method_28_code 64 = .ok (.iconst 0, 1) := by decide +kernel
theorem d_R_enter_65 : decode prog_9_method_28_code 65 = .ok (.iastore, 1) := by decide +kernel
theorem d_R_enter_66 : decode prog_9_method_28_code 66 = .ok (.aload_n 0, 1) := by decide +kernel
theorem d_R_enter_67 : decode prog_9_method_28_code 67 = .ok (.dup, 1) := by decide +kernel
theorem d_R_enter_68 : decode prog_9_method_28_code 68 = .ok (.getfield 138, 3) := by decide +kernel
theorem d_R_enter_71 : decode prog_9_method_28_code 71 = .ok (.iconst 1, 1) := by decide +kernel
theorem d_R_enter_72 : decode prog_9_method_28_code 72 = .ok (.iadd, 1) := by decide +kernel
theorem d_R_enter_73 : decode prog_9_method_28_code 73 = .ok (.putfield 138, 3) := by decide +kernel
theorem d_R_enter_76 : decode prog_9_method_28_code 76 = .ok (.return_, 1) := by decide +kernel
section RW
variable {p : Program} {l : Launch} {e : Env} {R : Room} {s : State} {m : MethodId} {args : Array Value} {below : List Frame} {meth : Method} {c : Code} {H : Heap} {locs : List Loc} {cells slots : Nat} {Q : State → Prop}
variable {cc : ByteArray} {pc : Nat} {ls : Array Slot} {rest : List Value} {dC : Nat → ClassId} {dI : Nat → Nat → Nat} {q : Nat → Nat} {cA : Nat → ClassId} {σ : MZ_} {H0 : Heap} {A : Nat → Prop}

theorem gf_R_44 (hx : p.tables.exec = Jvm.exec) (hb : c.code = cc) (hts : ∀ w ∈ AW_, w.before args s = true) (hown : s.vm.findClass "StagedParsersModel" = some m.cls) (hK : va_K (dC, dI) cls_ (tyR cA) s) (hP : va_P (dC, dI) cls_ (wR q cA σ) H) (hdg : decode cc pc = .ok (.getfield 44, 3)) (kk : W p l e R s m args below meth c H locs cells slots Q (F0 m (pc + 3) ls (.ref (q 12) :: rest))) : W p l e R s m args below meth c H locs cells slots Q (F0 m pc ls (.ref (q 0) :: rest)) :=
  va_get (D := (dC, dI)) (cl := cls_) (ci := 7) (v := .ref (q 12)) (ws := wR q cA σ) (tys := tyR cA) (C := Rz_R) (T := Tz_R) (N := 34) hx hb hts uz_R hown hK hP 0 rfl rfl 16 (by decide) (hts _ kw_827) (fun _ h9 => h9) rfl hdg kk
theorem gf_R_138 (hx : p.tables.exec = Jvm.exec) (hb : c.code = cc) (hts : ∀ w ∈ AW_, w.before args s = true) (hown : s.vm.findClass "StagedParsersModel" = some m.cls) (hK : va_K (dC, dI) cls_ (tyR cA) s) (hP : va_P (dC, dI) cls_ (wR q cA σ) H) (hdg : decode cc pc = .ok (.getfield 138, 3)) (kk : W p l e R s m args below meth c H locs cells slots Q (F0 m (pc + 3) ls (.int (σ 34 0) :: rest))) : W p l e R s m args below meth c H locs cells slots Q (F0 m pc ls (.ref (q 0) :: rest)) :=
  va_get (D := (dC, dI)) (cl := cls_) (ci := 7) (v := .int (σ 34 0)) (ws := wR q cA σ) (tys := tyR cA) (C := Rz_R) (T := Tz_R) (N := 34) hx hb hts uz_R hown hK hP 0 rfl rfl 15 (by decide) (hts _ kw_826) (fun _ h9 => h9) rfl hdg kk
theorem gf_R_47 (hx : p.tables.exec = Jvm.exec) (hb : c.code = cc) (hts : ∀ w ∈ AW_, w.before args s = true) (hown : s.vm.findClass "StagedParsersModel" = some m.cls) (hK : va_K (dC, dI) cls_ (tyR cA) s) (hP : va_P (dC, dI) cls_ (wR q cA σ) H) (hdg : decode cc pc = .ok (.getfield 47, 3)) (kk : W p l e R s m args below meth c H locs cells slots Q (F0 m (pc + 3) ls (.ref (q 13) :: rest))) : W p l e R s m args below meth c H locs cells slots Q (F0 m pc ls (.ref (q 0) :: rest)) :=
  va_get (D := (dC, dI)) (cl := cls_) (ci := 7) (v := .ref (q 13)) (ws := wR q cA σ) (tys := tyR cA) (C := Rz_R) (T := Tz_R) (N := 34) hx hb hts uz_R hown hK hP 0 rfl rfl 17 (by decide) (hts _ kw_828) (fun _ h9 => h9) rfl hdg kk
theorem gf_R_50 (hx : p.tables.exec = Jvm.exec) (hb : c.code = cc) (hts : ∀ w ∈ AW_, w.before args s = true) (hown : s.vm.findClass "StagedParsersModel" = some m.cls) (hK : va_K (dC, dI) cls_ (tyR cA) s) (hP : va_P (dC, dI) cls_ (wR q cA σ) H) (hdg : decode cc pc = .ok (.getfield 50, 3)) (kk : W p l e R s m args below meth c H locs cells slots Q (F0 m (pc + 3) ls (.ref (q 14) :: rest))) : W p l e R s m args below meth c H locs cells slots Q (F0 m pc ls (.ref (q 0) :: rest)) :=
  va_get (D := (dC, dI)) (cl := cls_) (ci := 7) (v := .ref (q 14)) (ws := wR q cA σ) (tys := tyR cA) (C := Rz_R) (T := Tz_R) (N := 34) hx hb hts uz_R hown hK hP 0 rfl rfl 18 (by decide) (hts _ kw_829) (fun _ h9 => h9) rfl hdg kk
theorem gf_R_141 (hx : p.tables.exec = Jvm.exec) (hb : c.code = cc) (hts : ∀ w ∈ AW_, w.before args s = true) (hown : s.vm.findClass "StagedParsersModel" = some m.cls) (hK : va_K (dC, dI) cls_ (tyR cA) s) (hP : va_P (dC, dI) cls_ (wR q cA σ) H) (hdg : decode cc pc = .ok (.getfield 141, 3)) (kk : W p l e R s m args below meth c H locs cells slots Q (F0 m (pc + 3) ls (.int (σ 36 0) :: rest))) : W p l e R s m args below meth c H locs cells slots Q (F0 m pc ls (.ref (q 0) :: rest)) :=
  va_get (D := (dC, dI)) (cl := cls_) (ci := 7) (v := .int (σ 36 0)) (ws := wR q cA σ) (tys := tyR cA) (C := Rz_R) (T := Tz_R) (N := 34) hx hb hts uz_R hown hK hP 0 rfl rfl 23 (by decide) (hts _ kw_834) (fun _ h9 => h9) rfl hdg kk
theorem gf_R_53 (hx : p.tables.exec = Jvm.exec) (hb : c.code = cc) (hts : ∀ w ∈ AW_, w.before args s = true) (hown : s.vm.findClass "StagedParsersModel" = some m.cls) (hK : va_K (dC, dI) cls_ (tyR cA) s) (hP : va_P (dC, dI) cls_ (wR q cA σ) H) (hdg : decode cc pc = .ok (.getfield 53, 3)) (kk : W p l e R s m args below meth c H locs cells slots Q (F0 m (pc + 3) ls (.ref (q 15) :: rest))) : W p l e R s m args below meth c H locs cells slots Q (F0 m pc ls (.ref (q 0) :: rest)) :=
  va_get (D := (dC, dI)) (cl := cls_) (ci := 7) (v := .ref (q 15)) (ws := wR q cA σ) (tys := tyR cA) (C := Rz_R) (T := Tz_R) (N := 34) hx hb hts uz_R hown hK hP 0 rfl rfl 19 (by decide) (hts _ kw_830) (fun _ h9 => h9) rfl hdg kk
theorem gf_R_56 (hx : p.tables.exec = Jvm.exec) (hb : c.code = cc) (hts : ∀ w ∈ AW_, w.before args s = true) (hown : s.vm.findClass "StagedParsersModel" = some m.cls) (hK : va_K (dC, dI) cls_ (tyR cA) s) (hP : va_P (dC, dI) cls_ (wR q cA σ) H) (hdg : decode cc pc = .ok (.getfield 56, 3)) (kk : W p l e R s m args below meth c H locs cells slots Q (F0 m (pc + 3) ls (.ref (q 16) :: rest))) : W p l e R s m args below meth c H locs cells slots Q (F0 m pc ls (.ref (q 0) :: rest)) :=
  va_get (D := (dC, dI)) (cl := cls_) (ci := 7) (v := .ref (q 16)) (ws := wR q cA σ) (tys := tyR cA) (C := Rz_R) (T := Tz_R) (N := 34) hx hb hts uz_R hown hK hP 0 rfl rfl 20 (by decide) (hts _ kw_831) (fun _ h9 => h9) rfl hdg kk
theorem gf_R_59 (hx : p.tables.exec = Jvm.exec) (hb : c.code = cc) (hts : ∀ w ∈ AW_, w.before args s = true) (hown : s.vm.findClass "StagedParsersModel" = some m.cls) (hK : va_K (dC, dI) cls_ (tyR cA) s) (hP : va_P (dC, dI) cls_ (wR q cA σ) H) (hdg : decode cc pc = .ok (.getfield 59, 3)) (kk : W p l e R s m args below meth c H locs cells slots Q (F0 m (pc + 3) ls (.ref (q 17) :: rest))) : W p l e R s m args below meth c H locs cells slots Q (F0 m pc ls (.ref (q 0) :: rest)) :=
  va_get (D := (dC, dI)) (cl := cls_) (ci := 7) (v := .ref (q 17)) (ws := wR q cA σ) (tys := tyR cA) (C := Rz_R) (T := Tz_R) (N := 34) hx hb hts uz_R hown hK hP 0 rfl rfl 21 (by decide) (hts _ kw_832) (fun _ h9 => h9) rfl hdg kk
theorem pf_R_138 (hx : p.tables.exec = Jvm.exec) (hb : c.code = cc) (hts : ∀ w ∈ AW_, w.before args s = true) (hown : s.vm.findClass "StagedParsersModel" = some m.cls) (hK : va_K (dC, dI) cls_ (tyR cA) s) (hP : va_P (dC, dI) cls_ (wR q cA σ) H) (hD : va_D A (wR q cA σ)) (hS : va_S A H0 H locs) {v : Int32} (hdg : decode cc pc = .ok (.putfield 138, 3)) (kk : ∀ (H1 : Heap) (locs1 : List Loc), va_P (dC, dI) cls_ (wR q cA (va_up σ 34 (fun _ => v))) H1 → va_S A H0 H1 locs1 → W p l e R s m args below meth c H1 locs1 cells slots Q (F0 m (pc + 3) ls rest)) : W p l e R s m args below meth c H locs cells slots Q (F0 m pc ls (.int v :: .ref (q 0) :: rest)) :=
  va_put (D := (dC, dI)) (cl := cls_) (ci := 7) (v := .int v) (ty := .int) (ws := wR q cA σ) (tys := tyR cA) (C := Rz_R) (T := Tz_R) (N := 34) hx hb hts uz_R tz_R tz_R_ok nz_R hown hK hP hD hS 0 rfl rfl 15 (by decide) (hts _ kw_826) (fun _ h9 => h9) rfl (by decide +kernel) rfl rfl (Nat.le_of_ble_eq_true rfl) hdg (fun H1 locs1 hP _ hS => kk H1 locs1 hP hS)
end RW
def f_R_enter (σ : MZ_) (a1 : Int32) : Option (MZ_) :=
  gd_ (σ 34 0) 400 (st_ (va_up σ 12 (upd (σ 12) (σ 34 0).toNatClampNeg a1)) fun σ1 => gd_ (σ1 34 0) 400 (st_ (va_up σ1 13 (upd (σ1 13) (σ1 34 0).toNatClampNeg 0)) fun σ2 => gd_ (σ2 34 0) 400 (st_ (va_up σ2 14 (upd (σ2 14) (σ2 34 0).toNatClampNeg (σ2 36 0))) fun σ3 => gd_ (σ3 34 0) 400 (st_ (va_up σ3 15 (upd (σ3 15) (σ3 34 0).toNatClampNeg 0)) fun σ4 => gd_ (σ4 34 0) 400 (st_ (va_up σ4 16 (upd (σ4 16) (σ4 34 0).toNatClampNeg (σ4 36 0))) fun σ5 => gd_ (σ5 34 0) 400 (st_ (va_up σ5 17 (upd (σ5 17) (σ5 34 0).toNatClampNeg 0)) fun σ6 => st_ (va_up σ6 34 (fun _ => (σ6 34 0) + 1)) fun σ7 => some σ7))))))
set_option maxHeartbeats 4000000 in
set_option maxRecDepth 100000 in
theorem c_R_enter (l : Launch) (dC : Nat → ClassId) (dI : Nat → Nat → Nat) (q : Nat → Nat) (cA : Nat → ClassId) (σ : MZ_) (a1 : Int32) (u : MZ_) (h : f_R_enter σ a1 = some u) : Met l y_R_enter w_R_enter rm_R_enter (va_Pc [.ref (q 0), .int a1] (PRx_ dC dI q cA σ)) (QW_ none (fun H => va_P (dC, dI) cls_ (wR q cA u) H) (AR q)) 0 0 (AR q) := by
  refine Met.ofW (cc := prog_9_method_28_code) (maxL := 2) (ret := none) (by decide) rfl ?_
  intro p e s m args below meth c s₁ B hml hv
  obtain ⟨rfl, hP, hK, hD, hN, hZ⟩ := hv
  have hx := B.exec
  have hb := B.bytes
  have hr := B.returns
  have hts : ∀ w ∈ AW_, w.before _ s = true := fun w h => atoms_spec (ws := w_R_enter) B.pre w (List.mem_cons_of_mem _ h)
  have hown : s.vm.findClass "StagedParsersModel" = some m.cls := findClass_of_methodNamed B.named
  have hlocks := B.notSynchronized
  have hS : va_S (AR q) s.heap s.heap [] := va_S.rf
  have hl := lv_entry ([.ref (q 0), .int a1]) (n := 2) (Nat.le_of_ble_eq_true rfl)
  rw [lg_entry_eq]
  generalize (lg_sl ([.ref (q 0), .int a1]) ++ List.replicate (2 - (lg_sl ([.ref (q 0), .int a1])).length) Slot.unset).toArray = ls at hl ⊢
  have hl : lv_has ls 2 [(0, .ref (q 0)), (1, .int a1)] := hl
  rw [f_R_enter] at h
  refine lv_aload_n hx hb d_R_enter_0 rfl (lv_at hl 0 rfl) ?_
  refine gf_R_44 hx hb hts hown hK hP d_R_enter_1 ?_
  refine lv_aload_n hx hb d_R_enter_4 rfl (lv_at hl 0 rfl) ?_
  refine gf_R_138 hx hb hts hown hK hP d_R_enter_5 ?_
  refine lv_iload_n hx hb d_R_enter_8 rfl (lv_at hl 1 rfl) ?_
  obtain ⟨hgd, h⟩ := gd_some h
  refine as_R_12 hx hb hK hP hD hS hgd d_R_enter_9 (fun H locs hP hS => ?_)
  obtain ⟨σ1, eσ1, h⟩ := st_some h
  rw [← eσ1] at hP
  have hD : va_D (AR q) (wR q cA σ1) := dd_re (wR_f _ _ _ _) hD
  refine lv_aload_n hx hb d_R_enter_10 rfl (lv_at hl 0 rfl) ?_
  refine gf_R_47 hx hb hts hown hK hP d_R_enter_11 ?_
  refine lv_aload_n hx hb d_R_enter_14 rfl (lv_at hl 0 rfl) ?_
  refine gf_R_138 hx hb hts hown hK hP d_R_enter_15 ?_
  refine lv_iconst (v := 0) hx hb d_R_enter_18 (by decide) ?_
  obtain ⟨hgd, h⟩ := gd_some h
  refine as_R_13 hx hb hK hP hD hS hgd d_R_enter_19 (fun H locs hP hS => ?_)
  obtain ⟨σ2, eσ2, h⟩ := st_some h
  rw [← eσ2] at hP
  have hD : va_D (AR q) (wR q cA σ2) := dd_re (wR_f _ _ _ _) hD
  refine lv_aload_n hx hb d_R_enter_20 rfl (lv_at hl 0 rfl) ?_
  refine gf_R_50 hx hb hts hown hK hP d_R_enter_21 ?_
  refine lv_aload_n hx hb d_R_enter_24 rfl (lv_at hl 0 rfl) ?_
  refine gf_R_138 hx hb hts hown hK hP d_R_enter_25 ?_
  refine lv_aload_n hx hb d_R_enter_28 rfl (lv_at hl 0 rfl) ?_
  refine gf_R_141 hx hb hts hown hK hP d_R_enter_29 ?_
  obtain ⟨hgd, h⟩ := gd_some h
  refine as_R_14 hx hb hK hP hD hS hgd d_R_enter_32 (fun H locs hP hS => ?_)
  obtain ⟨σ3, eσ3, h⟩ := st_some h
  rw [← eσ3] at hP
  have hD : va_D (AR q) (wR q cA σ3) := dd_re (wR_f _ _ _ _) hD
  refine lv_aload_n hx hb d_R_enter_33 rfl (lv_at hl 0 rfl) ?_
  refine gf_R_53 hx hb hts hown hK hP d_R_enter_34 ?_
  refine lv_aload_n hx hb d_R_enter_37 rfl (lv_at hl 0 rfl) ?_
  refine gf_R_138 hx hb hts hown hK hP d_R_enter_38 ?_
  refine lv_iconst (v := 0) hx hb d_R_enter_41 (by decide) ?_
  obtain ⟨hgd, h⟩ := gd_some h
  refine as_R_15 hx hb hK hP hD hS hgd d_R_enter_42 (fun H locs hP hS => ?_)
  obtain ⟨σ4, eσ4, h⟩ := st_some h
  rw [← eσ4] at hP
  have hD : va_D (AR q) (wR q cA σ4) := dd_re (wR_f _ _ _ _) hD
  refine lv_aload_n hx hb d_R_enter_43 rfl (lv_at hl 0 rfl) ?_
  refine gf_R_56 hx hb hts hown hK hP d_R_enter_44 ?_
  refine lv_aload_n hx hb d_R_enter_47 rfl (lv_at hl 0 rfl) ?_
  refine gf_R_138 hx hb hts hown hK hP d_R_enter_48 ?_
  refine lv_aload_n hx hb d_R_enter_51 rfl (lv_at hl 0 rfl) ?_
  refine gf_R_141 hx hb hts hown hK hP d_R_enter_52 ?_
  obtain ⟨hgd, h⟩ := gd_some h
  refine as_R_16 hx hb hK hP hD hS hgd d_R_enter_55 (fun H locs hP hS => ?_)
  obtain ⟨σ5, eσ5, h⟩ := st_some h
  rw [← eσ5] at hP
  have hD : va_D (AR q) (wR q cA σ5) := dd_re (wR_f _ _ _ _) hD
  refine lv_aload_n hx hb d_R_enter_56 rfl (lv_at hl 0 rfl) ?_
  refine gf_R_59 hx hb hts hown hK hP d_R_enter_57 ?_
  refine lv_aload_n hx hb d_R_enter_60 rfl (lv_at hl 0 rfl) ?_
  refine gf_R_138 hx hb hts hown hK hP d_R_enter_61 ?_
  refine lv_iconst (v := 0) hx hb d_R_enter_64 (by decide) ?_
  obtain ⟨hgd, h⟩ := gd_some h
  refine as_R_17 hx hb hK hP hD hS hgd d_R_enter_65 (fun H locs hP hS => ?_)
  obtain ⟨σ6, eσ6, h⟩ := st_some h
  rw [← eσ6] at hP
  have hD : va_D (AR q) (wR q cA σ6) := dd_re (wR_f _ _ _ _) hD
  refine lv_aload_n hx hb d_R_enter_66 rfl (lv_at hl 0 rfl) ?_
  refine lv_dup hx hb d_R_enter_67 rfl ?_
  refine gf_R_138 hx hb hts hown hK hP d_R_enter_68 ?_
  refine lv_iconst (v := 1) hx hb d_R_enter_71 (by decide) ?_
  refine lv_iadd hx hb d_R_enter_72 ?_
  refine pf_R_138 hx hb hts hown hK hP hD hS d_R_enter_73 (fun H locs hP hS => ?_)
  obtain ⟨σ7, eσ7, h⟩ := st_some h
  rw [← eσ7] at hP
  have hD : va_D (AR q) (wR q cA σ7) := dd_re (wR_f _ _ _ _) hD
  obtain rfl := Option.some.inj h
  exact W.vret hx hb hr (fun t ht hW => ⟨rfl, by rw [ht]; exact hP, hS.F ht⟩) hS.2.2 d_R_enter_76
def y_R_succeed : MethodName := ⟨"StagedParsersModel", "succeed", "(I)V"⟩
def w_R_succeed : List Cond := .code y_R_succeed prog_9_method_29_code 2 none :: AW_
def rm_R_succeed : Room := { frames := 0, cells := 0, slots := 0, locals := 0 }
theorem d_R_succeed_0 : decode prog_9_method_29_code 0 = .ok (.aload_n 0, 1) := by decide +kernel
theorem d_R_succeed_1 : decode prog_9_method_29_code 1 = .ok (.iconst 1, 1) := by decide +kernel
theorem d_R_succeed_2 : decode prog_9_method_29_code 2 = .ok (.putfield 144, 3) := by decide +kernel
theorem d_R_succeed_5 : decode prog_9_method_29_code 5 = .ok (.aload_n 0, 1) := by decide +kernel
theorem d_R_succeed_6 : decode prog_9_method_29_code 6 = .ok (.iload_n 1, 1) := by decide +kernel
theorem d_R_succeed_7 : decode prog_9_method_29_code 7 = .ok (.putfield 147, 3) := by decide +kernel
theorem d_R_succeed_10 : decode prog_9_method_29_code 10 = .ok (.aload_n 0, 1) := by decide +kernel
theorem d_R_succeed_11 : decode prog_9_method_29_code 11 = .ok (.dup, 1) := by decide +kernel
theorem d_R_succeed_12 : decode prog_9_method_29_code 12 = .ok (.getfield 138, 3) := by decide +kernel
theorem d_R_succeed_15 : decode prog_9_method_29_code 15 = .ok (.iconst 1, 1) := by decide +kernel
theorem d_R_succeed_16 : decode prog_9_method_29_code 16 = .ok (.isub, 1) := by decide +kernel
theorem d_R_succeed_17 : decode prog_9_method_29_code 17 = .ok (.putfield 138, 3) := by decide +kernel
theorem d_R_succeed_20 : decode prog_9_method_29_code 20 = .ok (.return_, 1) := by decide +kernel
section RW
variable {p : Program} {l : Launch} {e : Env} {R : Room} {s : State} {m : MethodId} {args : Array Value} {below : List Frame} {meth : Method} {c : Code} {H : Heap} {locs : List Loc} {cells slots : Nat} {Q : State → Prop}
variable {cc : ByteArray} {pc : Nat} {ls : Array Slot} {rest : List Value} {dC : Nat → ClassId} {dI : Nat → Nat → Nat} {q : Nat → Nat} {cA : Nat → ClassId} {σ : MZ_} {H0 : Heap} {A : Nat → Prop}

theorem pf_R_144 (hx : p.tables.exec = Jvm.exec) (hb : c.code = cc) (hts : ∀ w ∈ AW_, w.before args s = true) (hown : s.vm.findClass "StagedParsersModel" = some m.cls) (hK : va_K (dC, dI) cls_ (tyR cA) s) (hP : va_P (dC, dI) cls_ (wR q cA σ) H) (hD : va_D A (wR q cA σ)) (hS : va_S A H0 H locs) {v : Int32} (hbo : v = 0 ∨ v = 1) (hdg : decode cc pc = .ok (.putfield 144, 3)) (kk : ∀ (H1 : Heap) (locs1 : List Loc), va_P (dC, dI) cls_ (wR q cA (va_up σ 35 (fun _ => v))) H1 → va_S A H0 H1 locs1 → W p l e R s m args below meth c H1 locs1 cells slots Q (F0 m (pc + 3) ls rest)) : W p l e R s m args below meth c H locs cells slots Q (F0 m pc ls (.int v :: .ref (q 0) :: rest)) :=
  va_put (D := (dC, dI)) (cl := cls_) (ci := 7) (v := .int v) (ty := .boolean) (ws := wR q cA σ) (tys := tyR cA) (C := Rz_R) (T := Tz_R) (N := 34) hx hb hts uz_R tz_R tz_R_ok nz_R hown hK hP hD hS 0 rfl rfl 22 (by decide) (hts _ kw_833) (fun _ h9 => h9) rfl (by decide +kernel) (bo_nar hbo) (bo_fit hbo) (Nat.le_of_ble_eq_true rfl) hdg (fun H1 locs1 hP _ hS => kk H1 locs1 hP hS)
theorem pf_R_147 (hx : p.tables.exec = Jvm.exec) (hb : c.code = cc) (hts : ∀ w ∈ AW_, w.before args s = true) (hown : s.vm.findClass "StagedParsersModel" = some m.cls) (hK : va_K (dC, dI) cls_ (tyR cA) s) (hP : va_P (dC, dI) cls_ (wR q cA σ) H) (hD : va_D A (wR q cA σ)) (hS : va_S A H0 H locs) {v : Int32} (hdg : decode cc pc = .ok (.putfield 147, 3)) (kk : ∀ (H1 : Heap) (locs1 : List Loc), va_P (dC, dI) cls_ (wR q cA (va_up σ 37 (fun _ => v))) H1 → va_S A H0 H1 locs1 → W p l e R s m args below meth c H1 locs1 cells slots Q (F0 m (pc + 3) ls rest)) : W p l e R s m args below meth c H locs cells slots Q (F0 m pc ls (.int v :: .ref (q 0) :: rest)) :=
  va_put (D := (dC, dI)) (cl := cls_) (ci := 7) (v := .int v) (ty := .int) (ws := wR q cA σ) (tys := tyR cA) (C := Rz_R) (T := Tz_R) (N := 34) hx hb hts uz_R tz_R tz_R_ok nz_R hown hK hP hD hS 0 rfl rfl 24 (by decide) (hts _ kw_835) (fun _ h9 => h9) rfl (by decide +kernel) rfl rfl (Nat.le_of_ble_eq_true rfl) hdg (fun H1 locs1 hP _ hS => kk H1 locs1 hP hS)
end RW
def f_R_succeed (σ : MZ_) (a1 : Int32) : Option (MZ_) :=
  st_ (va_up σ 35 (fun _ => 1)) fun σ1 => st_ (va_up σ1 37 (fun _ => a1)) fun σ2 => st_ (va_up σ2 34 (fun _ => (σ2 34 0) - 1)) fun σ3 => some σ3
set_option maxHeartbeats 4000000 in
set_option maxRecDepth 100000 in
theorem c_R_succeed (l : Launch) (dC : Nat → ClassId) (dI : Nat → Nat → Nat) (q : Nat → Nat) (cA : Nat → ClassId) (σ : MZ_) (a1 : Int32) (u : MZ_) (h : f_R_succeed σ a1 = some u) : Met l y_R_succeed w_R_succeed rm_R_succeed (va_Pc [.ref (q 0), .int a1] (PRx_ dC dI q cA σ)) (QW_ none (fun H => va_P (dC, dI) cls_ (wR q cA u) H) (AR q)) 0 0 (AR q) := by
  refine Met.ofW (cc := prog_9_method_29_code) (maxL := 2) (ret := none) (by decide) rfl ?_
  intro p e s m args below meth c s₁ B hml hv
  obtain ⟨rfl, hP, hK, hD, hN, hZ⟩ := hv
  have hx := B.exec
  have hb := B.bytes
  have hr := B.returns
  have hts : ∀ w ∈ AW_, w.before _ s = true := fun w h => atoms_spec (ws := w_R_succeed) B.pre w (List.mem_cons_of_mem _ h)
  have hown : s.vm.findClass "StagedParsersModel" = some m.cls := findClass_of_methodNamed B.named
  have hlocks := B.notSynchronized
  have hS : va_S (AR q) s.heap s.heap [] := va_S.rf
  have hl := lv_entry ([.ref (q 0), .int a1]) (n := 2) (Nat.le_of_ble_eq_true rfl)
  rw [lg_entry_eq]
  generalize (lg_sl ([.ref (q 0), .int a1]) ++ List.replicate (2 - (lg_sl ([.ref (q 0), .int a1])).length) Slot.unset).toArray = ls at hl ⊢
  have hl : lv_has ls 2 [(0, .ref (q 0)), (1, .int a1)] := hl
  rw [f_R_succeed] at h
  refine lv_aload_n hx hb d_R_succeed_0 rfl (lv_at hl 0 rfl) ?_
  refine lv_iconst (v := 1) hx hb d_R_succeed_1 (by decide) ?_
  refine pf_R_144 hx hb hts hown hK hP hD hS (Or.inr rfl) d_R_succeed_2 (fun H locs hP hS => ?_)
  obtain ⟨σ1, eσ1, h⟩ := st_some h
  rw [← eσ1] at hP
  have hD : va_D (AR q) (wR q cA σ1) := dd_re (wR_f _ _ _ _) hD
  refine lv_aload_n hx hb d_R_succeed_5 rfl (lv_at hl 0 rfl) ?_
  refine lv_iload_n hx hb d_R_succeed_6 rfl (lv_at hl 1 rfl) ?_
  refine pf_R_147 hx hb hts hown hK hP hD hS d_R_succeed_7 (fun H locs hP hS => ?_)
  obtain ⟨σ2, eσ2, h⟩ := st_some h
  rw [← eσ2] at hP
  have hD : va_D (AR q) (wR q cA σ2) := dd_re (wR_f _ _ _ _) hD
  refine lv_aload_n hx hb d_R_succeed_10 rfl (lv_at hl 0 rfl) ?_
  refine lv_dup hx hb d_R_succeed_11 rfl ?_
  refine gf_R_138 hx hb hts hown hK hP d_R_succeed_12 ?_
  refine lv_iconst (v := 1) hx hb d_R_succeed_15 (by decide) ?_
  refine lv_isub hx hb d_R_succeed_16 ?_
  refine pf_R_138 hx hb hts hown hK hP hD hS d_R_succeed_17 (fun H locs hP hS => ?_)
  obtain ⟨σ3, eσ3, h⟩ := st_some h
  rw [← eσ3] at hP
  have hD : va_D (AR q) (wR q cA σ3) := dd_re (wR_f _ _ _ _) hD
  obtain rfl := Option.some.inj h
  exact W.vret hx hb hr (fun t ht hW => ⟨rfl, by rw [ht]; exact hP, hS.F ht⟩) hS.2.2 d_R_succeed_20
def y_R_fail : MethodName := ⟨"StagedParsersModel", "fail", "()V"⟩
def w_R_fail : List Cond := .code y_R_fail prog_9_method_30_code 1 none :: AW_
def rm_R_fail : Room := { frames := 0, cells := 0, slots := 0, locals := 0 }
theorem d_R_fail_0 : decode prog_9_method_30_code 0 = .ok (.aload_n 0, 1) := by decide +kernel
theorem d_R_fail_1 : decode prog_9_method_30_code 1 = .ok (.iconst 0, 1) := by decide +kernel
theorem d_R_fail_2 : decode prog_9_method_30_code 2 = .ok (.putfield 144, 3) := by decide +kernel
theorem d_R_fail_5 : decode prog_9_method_30_code 5 = .ok (.aload_n 0, 1) := by decide +kernel
theorem d_R_fail_6 : decode prog_9_method_30_code 6 = .ok (.dup, 1) := by decide +kernel
theorem d_R_fail_7 : decode prog_9_method_30_code 7 = .ok (.getfield 138, 3) := by decide +kernel
theorem d_R_fail_10 : decode prog_9_method_30_code 10 = .ok (.iconst 1, 1) := by decide +kernel
theorem d_R_fail_11 : decode prog_9_method_30_code 11 = .ok (.isub, 1) := by decide +kernel
theorem d_R_fail_12 : decode prog_9_method_30_code 12 = .ok (.putfield 138, 3) := by decide +kernel
theorem d_R_fail_15 : decode prog_9_method_30_code 15 = .ok (.return_, 1) := by decide +kernel
def f_R_fail (σ : MZ_) : Option (MZ_) :=
  st_ (va_up σ 35 (fun _ => 0)) fun σ1 => st_ (va_up σ1 34 (fun _ => (σ1 34 0) - 1)) fun σ2 => some σ2
set_option maxHeartbeats 4000000 in
set_option maxRecDepth 100000 in
theorem c_R_fail (l : Launch) (dC : Nat → ClassId) (dI : Nat → Nat → Nat) (q : Nat → Nat) (cA : Nat → ClassId) (σ : MZ_) (u : MZ_) (h : f_R_fail σ = some u) : Met l y_R_fail w_R_fail rm_R_fail (va_Pc [.ref (q 0)] (PRx_ dC dI q cA σ)) (QW_ none (fun H => va_P (dC, dI) cls_ (wR q cA u) H) (AR q)) 0 0 (AR q) := by
  refine Met.ofW (cc := prog_9_method_30_code) (maxL := 1) (ret := none) (by decide) rfl ?_
  intro p e s m args below meth c s₁ B hml hv
  obtain ⟨rfl, hP, hK, hD, hN, hZ⟩ := hv
  have hx := B.exec
  have hb := B.bytes
  have hr := B.returns
  have hts : ∀ w ∈ AW_, w.before _ s = true := fun w h => atoms_spec (ws := w_R_fail) B.pre w (List.mem_cons_of_mem _ h)
  have hown : s.vm.findClass "StagedParsersModel" = some m.cls := findClass_of_methodNamed B.named
  have hlocks := B.notSynchronized
  have hS : va_S (AR q) s.heap s.heap [] := va_S.rf
  have hl := lv_entry ([.ref (q 0)]) (n := 1) (Nat.le_of_ble_eq_true rfl)
  rw [lg_entry_eq]
  generalize (lg_sl ([.ref (q 0)]) ++ List.replicate (1 - (lg_sl ([.ref (q 0)])).length) Slot.unset).toArray = ls at hl ⊢
  have hl : lv_has ls 1 [(0, .ref (q 0))] := hl
  rw [f_R_fail] at h
  refine lv_aload_n hx hb d_R_fail_0 rfl (lv_at hl 0 rfl) ?_
  refine lv_iconst (v := 0) hx hb d_R_fail_1 (by decide) ?_
  refine pf_R_144 hx hb hts hown hK hP hD hS (Or.inl rfl) d_R_fail_2 (fun H locs hP hS => ?_)
  obtain ⟨σ1, eσ1, h⟩ := st_some h
  rw [← eσ1] at hP
  have hD : va_D (AR q) (wR q cA σ1) := dd_re (wR_f _ _ _ _) hD
  refine lv_aload_n hx hb d_R_fail_5 rfl (lv_at hl 0 rfl) ?_
  refine lv_dup hx hb d_R_fail_6 rfl ?_
  refine gf_R_138 hx hb hts hown hK hP d_R_fail_7 ?_
  refine lv_iconst (v := 1) hx hb d_R_fail_10 (by decide) ?_
  refine lv_isub hx hb d_R_fail_11 ?_
  refine pf_R_138 hx hb hts hown hK hP hD hS d_R_fail_12 (fun H locs hP hS => ?_)
  obtain ⟨σ2, eσ2, h⟩ := st_some h
  rw [← eσ2] at hP
  have hD : va_D (AR q) (wR q cA σ2) := dd_re (wR_f _ _ _ _) hD
  obtain rfl := Option.some.inj h
  exact W.vret hx hb hr (fun t ht hW => ⟨rfl, by rw [ht]; exact hP, hS.F ht⟩) hS.2.2 d_R_fail_15
def y_R_joined : MethodName := ⟨"StagedParsersModel", "joined", "(III)I"⟩
def w_R_joined : List Cond := .code y_R_joined prog_9_method_31_code 3 (some .int) :: AW_
def rm_R_joined : Room := { frames := 0, cells := 0, slots := 0, locals := 0 }
theorem d_R_joined_0 : decode prog_9_method_31_code 0 = .ok (.iload_n 0, 1) := by decide +kernel
theorem d_R_joined_1 : decode prog_9_method_31_code 1 = .ok (.tableswitch 80 0 6 #[43, 45, 47, 51, 55, 59, 69], 43) := by decide +kernel
theorem d_R_joined_44 : decode prog_9_method_31_code 44 = .ok (.iload_n 1, 1) := by decide +kernel
theorem d_R_joined_45 : decode prog_9_method_31_code 45 = .ok (.ireturn, 1) := by decide +kernel
theorem d_R_joined_46 : decode prog_9_method_31_code 46 = .ok (.iload_n 2, 1) := by decide +kernel
theorem d_R_joined_47 : decode prog_9_method_31_code 47 = .ok (.ireturn, 1) := by decide +kernel
theorem d_R_joined_48 : decode prog_9_method_31_code 48 = .ok (.iload_n 1, 1) := by decide +kernel
theorem d_R_joined_49 : decode prog_9_method_31_code 49 = .ok (.iload_n 2, 1) := by decide +kernel
theorem d_R_joined_50 : decode prog_9_method_31_code 50 = .ok (.iadd, 1) := by decide +kernel
theorem d_R_joined_51 : decode prog_9_method_31_code 51 = .ok (.ireturn, 1) := by decide +kernel
theorem d_R_joined_52 : decode prog_9_method_31_code 52 = .ok (.iload_n 1, 1) := by decide +kernel
theorem d_R_joined_53 : decode prog_9_method_31_code 53 = .ok (.iload_n 2, 1) := by decide +kernel
theorem d_R_joined_54 : decode prog_9_method_31_code 54 = .ok (.isub, 1) := by decide +kernel
theorem d_R_joined_55 : decode prog_9_method_31_code 55 = .ok (.ireturn, 1) := by decide +kernel
theorem d_R_joined_56 : decode prog_9_method_31_code 56 = .ok (.iload_n 1, 1) := by decide +kernel
theorem d_R_joined_57 : decode prog_9_method_31_code 57 = .ok (.iload_n 2, 1) := by decide +kernel
theorem d_R_joined_58 : decode prog_9_method_31_code 58 = .ok (.imul, 1) := by decide +kernel
theorem d_R_joined_59 : decode prog_9_method_31_code 59 = .ok (.ireturn, 1) := by decide +kernel
theorem d_R_joined_60 : decode prog_9_method_31_code 60 = .ok (.bipush 10, 2) := by decide +kernel
theorem d_R_joined_62 : decode prog_9_method_31_code 62 = .ok (.iload_n 1, 1) := by decide +kernel
theorem d_R_joined_63 : decode prog_9_method_31_code 63 = .ok (.imul, 1) := by decide +kernel
theorem d_R_joined_64 : decode prog_9_method_31_code 64 = .ok (.iload_n 2, 1) := by decide +kernel
theorem d_R_joined_65 : decode prog_9_method_31_code 65 = .ok (.iadd, 1) := by decide +kernel
theorem d_R_joined_66 : decode prog_9_method_31_code 66 = .ok (.bipush 48, 2) := by decide +kernel
theorem d_R_joined_68 : decode prog_9_method_31_code 68 = .ok (.isub, 1) := by decide +kernel
theorem d_R_joined_69 : decode prog_9_method_31_code 69 = .ok (.ireturn, 1) := by decide +kernel
theorem d_R_joined_70 : decode prog_9_method_31_code 70 = .ok (.iload_n 1, 1) := by decide +kernel
theorem d_R_joined_71 : decode prog_9_method_31_code 71 = .ok (.iload_n 2, 1) := by decide +kernel
theorem d_R_joined_72 : decode prog_9_method_31_code 72 = .ok (.if_icmp .le 7, 3) := by decide +kernel
theorem d_R_joined_75 : decode prog_9_method_31_code 75 = .ok (.iload_n 1, 1) := by decide +kernel
theorem d_R_joined_76 : decode prog_9_method_31_code 76 = .ok (.goto 4, 3) := by decide +kernel
theorem d_R_joined_79 : decode prog_9_method_31_code 79 = .ok (.iload_n 2, 1) := by decide +kernel
theorem d_R_joined_80 : decode prog_9_method_31_code 80 = .ok (.ireturn, 1) := by decide +kernel
theorem d_R_joined_81 : decode prog_9_method_31_code 81 = .ok (.iload_n 1, 1) := by decide +kernel
theorem d_R_joined_82 : decode prog_9_method_31_code 82 = .ok (.iload_n 2, 1) := by decide +kernel
theorem d_R_joined_83 : decode prog_9_method_31_code 83 = .ok (.if_icmp .ne 7, 3) := by decide +kernel
theorem d_R_joined_86 : decode prog_9_method_31_code 86 = .ok (.iconst 1, 1) := by decide +kernel
theorem d_R_joined_87 : decode prog_9_method_31_code 87 = .ok (.goto 4, 3) := by decide +kernel
theorem d_R_joined_90 : decode prog_9_method_31_code 90 = .ok (.iconst 0, 1) := by decide +kernel
theorem d_R_joined_91 : decode prog_9_method_31_code 91 = .ok (.ireturn, 1) := by decide +kernel
def f_R_joined (a0 : Int32) (a1 : Int32) (a2 : Int32) : Option (Int32) :=
  if a0 = 0 then some a1
  else if a0 = 1 then some a2
  else if a0 = 2 then some (a1 + a2)
  else if a0 = 3 then some (a1 - a2)
  else if a0 = 4 then some (a1 * a2)
  else if a0 = 5 then some (((10 * a1) + a2) - 48)
  else if a0 = 6 then if a1 ≤ a2 then some a2
    else some a1
  else if a1 = a2 then some 1
  else some 0
set_option maxHeartbeats 4000000 in
set_option maxRecDepth 100000 in
theorem c_R_joined (l : Launch) (dC : Nat → ClassId) (dI : Nat → Nat → Nat) (q : Nat → Nat) (cA : Nat → ClassId) (σ : MZ_) (a0 : Int32) (a1 : Int32) (a2 : Int32) (u : Int32) (h : f_R_joined a0 a1 a2 = some u) : Met l y_R_joined w_R_joined rm_R_joined (va_Pc [.int a0, .int a1, .int a2] (PRx_ dC dI q cA σ)) (QcRead u) 0 0 (fun _ => False) := by
  refine Met.ofW (cc := prog_9_method_31_code) (maxL := 3) (ret := (some .int)) (by decide) rfl ?_
  intro p e s m args below meth c s₁ B hml hv
  obtain ⟨rfl, hP, hK, hD, hN, hZ⟩ := hv
  have hx := B.exec
  have hb := B.bytes
  have hr := B.returns
  have hts : ∀ w ∈ AW_, w.before _ s = true := fun w h => atoms_spec (ws := w_R_joined) B.pre w (List.mem_cons_of_mem _ h)
  have hown : s.vm.findClass "StagedParsersModel" = some m.cls := findClass_of_methodNamed B.named
  have hlocks := B.notSynchronized
  have hS : va_S (AR q) s.heap s.heap [] := va_S.rf
  have hl := lv_entry ([.int a0, .int a1, .int a2]) (n := 3) (Nat.le_of_ble_eq_true rfl)
  rw [lg_entry_eq]
  generalize (lg_sl ([.int a0, .int a1, .int a2]) ++ List.replicate (3 - (lg_sl ([.int a0, .int a1, .int a2])).length) Slot.unset).toArray = ls at hl ⊢
  have hl : lv_has ls 3 [(0, .int a0), (1, .int a1), (2, .int a2)] := hl
  rw [f_R_joined] at h
  refine lv_iload_n hx hb d_R_joined_0 rfl (lv_at hl 0 rfl) ?_
  by_cases hc0 : a0 = 0
  · have h := if_t hc0 h
    refine sw_in (tgt := 44) hx hb d_R_joined_1 hc0 (by decide) (by decide) rfl rfl ?_
    refine lv_iload_n hx hb d_R_joined_44 rfl (lv_at hl 1 rfl) ?_
    obtain rfl := Option.some.inj h
    exact W.iret hx hb hr (fun t ht hW => ⟨rfl, ht⟩) (fun _ h9 => nomatch h9) d_R_joined_45
  have h := if_f hc0 h
  by_cases hc1 : a0 = 1
  · have h := if_t hc1 h
    refine sw_in (tgt := 46) hx hb d_R_joined_1 hc1 (by decide) (by decide) rfl rfl ?_
    refine lv_iload_n hx hb d_R_joined_46 rfl (lv_at hl 2 rfl) ?_
    obtain rfl := Option.some.inj h
    exact W.iret hx hb hr (fun t ht hW => ⟨rfl, ht⟩) (fun _ h9 => nomatch h9) d_R_joined_47
  have h := if_f hc1 h
  by_cases hc2 : a0 = 2
  · have h := if_t hc2 h
    refine sw_in (tgt := 48) hx hb d_R_joined_1 hc2 (by decide) (by decide) rfl rfl ?_
    refine lv_iload_n hx hb d_R_joined_48 rfl (lv_at hl 1 rfl) ?_
    refine lv_iload_n hx hb d_R_joined_49 rfl (lv_at hl 2 rfl) ?_
    refine lv_iadd hx hb d_R_joined_50 ?_
    obtain rfl := Option.some.inj h
    exact W.iret hx hb hr (fun t ht hW => ⟨rfl, ht⟩) (fun _ h9 => nomatch h9) d_R_joined_51
  have h := if_f hc2 h
  by_cases hc3 : a0 = 3
  · have h := if_t hc3 h
    refine sw_in (tgt := 52) hx hb d_R_joined_1 hc3 (by decide) (by decide) rfl rfl ?_
    refine lv_iload_n hx hb d_R_joined_52 rfl (lv_at hl 1 rfl) ?_
    refine lv_iload_n hx hb d_R_joined_53 rfl (lv_at hl 2 rfl) ?_
    refine lv_isub hx hb d_R_joined_54 ?_
    obtain rfl := Option.some.inj h
    exact W.iret hx hb hr (fun t ht hW => ⟨rfl, ht⟩) (fun _ h9 => nomatch h9) d_R_joined_55
  have h := if_f hc3 h
  by_cases hc4 : a0 = 4
  · have h := if_t hc4 h
    refine sw_in (tgt := 56) hx hb d_R_joined_1 hc4 (by decide) (by decide) rfl rfl ?_
    refine lv_iload_n hx hb d_R_joined_56 rfl (lv_at hl 1 rfl) ?_
    refine lv_iload_n hx hb d_R_joined_57 rfl (lv_at hl 2 rfl) ?_
    refine lv_imul hx hb d_R_joined_58 ?_
    obtain rfl := Option.some.inj h
    exact W.iret hx hb hr (fun t ht hW => ⟨rfl, ht⟩) (fun _ h9 => nomatch h9) d_R_joined_59
  have h := if_f hc4 h
  by_cases hc5 : a0 = 5
  · have h := if_t hc5 h
    refine sw_in (tgt := 60) hx hb d_R_joined_1 hc5 (by decide) (by decide) rfl rfl ?_
    refine lv_bipush (v := 10) hx hb d_R_joined_60 (by decide) ?_
    refine lv_iload_n hx hb d_R_joined_62 rfl (lv_at hl 1 rfl) ?_
    refine lv_imul hx hb d_R_joined_63 ?_
    refine lv_iload_n hx hb d_R_joined_64 rfl (lv_at hl 2 rfl) ?_
    refine lv_iadd hx hb d_R_joined_65 ?_
    refine lv_bipush (v := 48) hx hb d_R_joined_66 (by decide) ?_
    refine lv_isub hx hb d_R_joined_68 ?_
    obtain rfl := Option.some.inj h
    exact W.iret hx hb hr (fun t ht hW => ⟨rfl, ht⟩) (fun _ h9 => nomatch h9) d_R_joined_69
  have h := if_f hc5 h
  by_cases hc6 : a0 = 6
  · have h := if_t hc6 h
    refine sw_in (tgt := 70) hx hb d_R_joined_1 hc6 (by decide) (by decide) rfl rfl ?_
    refine lv_iload_n hx hb d_R_joined_70 rfl (lv_at hl 1 rfl) ?_
    refine lv_iload_n hx hb d_R_joined_71 rfl (lv_at hl 2 rfl) ?_
    refine lv_icmp_le (tgt := 79) hx hb d_R_joined_72 rfl (fun hc => ?_) (fun hc => ?_)
    · have h := if_t hc h
      refine lv_iload_n hx hb d_R_joined_79 rfl (lv_at hl 2 rfl) ?_
      obtain rfl := Option.some.inj h
      exact W.iret hx hb hr (fun t ht hW => ⟨rfl, ht⟩) (fun _ h9 => nomatch h9) d_R_joined_80
    · have h := if_f hc h
      refine lv_iload_n hx hb d_R_joined_75 rfl (lv_at hl 1 rfl) ?_
      refine lv_goto (tgt := 80) hx hb d_R_joined_76 rfl ?_
      obtain rfl := Option.some.inj h
      exact W.iret hx hb hr (fun t ht hW => ⟨rfl, ht⟩) (fun _ h9 => nomatch h9) d_R_joined_80
  have h := if_f hc6 h
  refine lv_tableOut (tgt := 81) hx hb d_R_joined_1 (by have q0 := lv_neT hc0 (a := 0) (by decide); have q1 := lv_neT hc1 (a := 1) (by decide); have q2 := lv_neT hc2 (a := 2) (by decide); have q3 := lv_neT hc3 (a := 3) (by decide); have q4 := lv_neT hc4 (a := 4) (by decide); have q5 := lv_neT hc5 (a := 5) (by decide); have q6 := lv_neT hc6 (a := 6) (by decide); omega) rfl ?_
  refine lv_iload_n hx hb d_R_joined_81 rfl (lv_at hl 1 rfl) ?_
  refine lv_iload_n hx hb d_R_joined_82 rfl (lv_at hl 2 rfl) ?_
  refine lv_icmp_ne (tgt := 90) hx hb d_R_joined_83 rfl (fun hc => ?_) (fun hc => ?_)
  · have h := if_f hc h
    refine lv_iconst (v := 0) hx hb d_R_joined_90 (by decide) ?_
    obtain rfl := Option.some.inj h
    exact W.iret hx hb hr (fun t ht hW => ⟨rfl, ht⟩) (fun _ h9 => nomatch h9) d_R_joined_91
  · have h := if_t hc h
    refine lv_iconst (v := 1) hx hb d_R_joined_86 (by decide) ?_
    refine lv_goto (tgt := 91) hx hb d_R_joined_87 rfl ?_
    obtain rfl := Option.some.inj h
    exact W.iret hx hb hr (fun t ht hW => ⟨rfl, ht⟩) (fun _ h9 => nomatch h9) d_R_joined_91
def y_R_looked : MethodName := ⟨"StagedParsersModel", "looked", "(II)V"⟩
def w_R_looked : List Cond := .code y_R_looked prog_9_method_32_code 4 none :: AW_
def rm_R_looked : Room := { frames := 1, cells := 0, slots := 0, locals := 22 }
theorem d_R_looked_0 : decode prog_9_method_32_code 0 = .ok (.aload_n 0, 1) := by decide +kernel
theorem d_R_looked_1 : decode prog_9_method_32_code 1 = .ok (.getfield 150, 3) := by decide +kernel
theorem d_R_looked_4 : decode prog_9_method_32_code 4 = .ok (.sipush 1500, 3) := by decide +kernel
theorem d_R_looked_7 : decode prog_9_method_32_code 7 = .ok (.if_icmp .ne 9, 3) := by decide +kernel
theorem d_R_looked_10 : decode prog_9_method_32_code 10 = .ok (.aload_n 0, 1) := by decide +kernel
theorem d_R_looked_11 : decode prog_9_method_32_code 11 = .ok (.iconst 1, 1) := by decide +kernel
theorem d_R_looked_12 : decode prog_9_method_32_code 12 = .ok (.putfield 153, 3) := by decide +kernel
theorem d_R_looked_15 : decode prog_9_method_32_code 15 = .ok (.return_, 1) := by decide +kernel
theorem d_R_looked_16 : decode prog_9_method_32_code 16 = .ok (.aload_n 0, 1) := by decide +kernel
theorem d_R_looked_17 : decode prog_9_method_32_code 17 = .ok (.dup, 1) := by decide +kernel
theorem d_R_looked_18 : decode prog_9_method_32_code 18 = .ok (.getfield 150, 3) := by decide +kernel
theorem d_R_looked_21 : decode prog_9_method_32_code 21 = .ok (.iconst 1, 1) := by decide +kernel
theorem d_R_looked_22 : decode prog_9_method_32_code 22 = .ok (.iadd, 1) := by decide +kernel
theorem d_R_looked_23 : decode prog_9_method_32_code 23 = .ok (.putfield 150, 3) := by decide +kernel
theorem d_R_looked_26 : decode prog_9_method_32_code 26 = .ok (.aload_n 0, 1) := by decide +kernel
theorem d_R_looked_27 : decode prog_9_method_32_code 27 = .ok (.getfield 141, 3) := by decide +kernel
theorem d_R_looked_30 : decode prog_9_method_32_code 30 = .ok (.aload_n 0, 1) := by decide +kernel
theorem d_R_looked_31 : decode prog_9_method_32_code 31 = .ok (.getfield 135, 3) := by decide +kernel
theorem d_R_looked_34 : decode prog_9_method_32_code 34 = .ok (.if_icmp .ge 15, 3) := by decide +kernel
theorem d_R_looked_37 : decode prog_9_method_32_code 37 = .ok (.aload_n 0, 1) := by decide +kernel
theorem d_R_looked_38 : decode prog_9_method_32_code 38 = .ok (.getfield 28, 3) := by decide +kernel
theorem d_R_looked_41 : decode prog_9_method_32_code 41 = .ok (.aload_n 0, 1) := by decide +kernel
theorem d_R_looked_42 : decode prog_9_method_32_code 42 = .ok (.getfield 141, 3) := by decide +kernel
theorem d_R_looked_45 : decode prog_9_method_32_code 45 = .ok (.iaload, 1) := by decide +kernel
theorem d_R_looked_46 : decode prog_9_method_32_code 46 = .ok (.goto 4, 3) := by decide +kernel
theorem d_R_looked_49 : decode prog_9_method_32_code 49 = .ok (.iconst (-1), 1) := by decide +kernel
theorem d_R_looked_50 : decode prog_9_method_32_code 50 = .ok (.istore_n 3, 1) := by decide +kernel
theorem d_R_looked_51 : decode prog_9_method_32_code 51 = .ok (.iload_n 3, 1) := by decide +kernel
theorem d_R_looked_52 : decode prog_9_method_32_code 52 = .ok (.iload_n 1, 1) := by decide +kernel
theorem d_R_looked_53 : decode prog_9_method_32_code 53 = .ok (.iload_n 2, 1) := by decide +kernel
theorem d_R_looked_54 : decode prog_9_method_32_code 54 = .ok (.invokestatic 72, 3) := by decide +kernel
theorem d_R_looked_57 : decode prog_9_method_32_code 57 = .ok (.ifCond .eq 21, 3) := by decide +kernel
theorem d_R_looked_60 : decode prog_9_method_32_code 60 = .ok (.aload_n 0, 1) := by decide +kernel
theorem d_R_looked_61 : decode prog_9_method_32_code 61 = .ok (.dup, 1) := by decide +kernel
theorem d_R_looked_62 : decode prog_9_method_32_code 62 = .ok (.getfield 141, 3) := by decide +kernel
theorem d_R_looked_65 : decode prog_9_method_32_code 65 = .ok (.iconst 1, 1) := by decide +kernel
theorem d_R_looked_66 : decode prog_9_method_32_code 66 = .ok (.iadd, 1) := by decide +kernel
theorem d_R_looked_67 : decode prog_9_method_32_code 67 = .ok (.putfield 141, 3) := by decide +kernel
theorem d_R_looked_70 : decode prog_9_method_32_code 70 = .ok (.aload_n 0, 1) := by decide +kernel
theorem d_R_looked_71 : decode prog_9_method_32_code 71 = .ok (.iload_n 3, 1) := by decide +kernel
theorem d_R_looked_72 : decode prog_9_method_32_code 72 = .ok (.invokevirtual 156, 3) := by decide +kernel
theorem d_R_looked_75 : decode prog_9_method_32_code 75 = .ok (.goto 33, 3) := by decide +kernel
theorem d_R_looked_78 : decode prog_9_method_32_code 78 = .ok (.aload_n 0, 1) := by decide +kernel
theorem d_R_looked_79 : decode prog_9_method_32_code 79 = .ok (.aload_n 0, 1) := by decide +kernel
theorem d_R_looked_80 : decode prog_9_method_32_code 80 = .ok (.getfield 141, 3) := by decide +kernel
theorem d_R_looked_83 : decode prog_9_method_32_code 83 = .ok (.aload_n 0, 1) := by decide +kernel
theorem d_R_looked_84 : decode prog_9_method_32_code 84 = .ok (.getfield 159, 3) := by decide +kernel
theorem d_R_looked_87 : decode prog_9_method_32_code 87 = .ok (.if_icmp .le 10, 3) := by decide +kernel
theorem d_R_looked_90 : decode prog_9_method_32_code 90 = .ok (.aload_n 0, 1) := by decide +kernel
theorem d_R_looked_91 : decode prog_9_method_32_code 91 = .ok (.getfield 141, 3) := by decide +kernel
theorem d_R_looked_94 : decode prog_9_method_32_code 94 = .ok (.goto 7, 3) := by decide +kernel
theorem d_R_looked_97 : decode prog_9_method_32_code 97 = .ok (.aload_n 0, 1) := by decide +kernel
theorem d_R_looked_98 : decode prog_9_method_32_code 98 = .ok (.getfield 159, 3) := by decide +kernel
theorem d_R_looked_101 : decode prog_9_method_32_code 101 = .ok (.putfield 159, 3) := by decide +kernel
theorem d_R_looked_104 : decode prog_9_method_32_code 104 = .ok (.aload_n 0, 1) := by decide +kernel
theorem d_R_looked_105 : decode prog_9_method_32_code 105 = .ok (.invokevirtual 162, 3) := by decide +kernel
theorem d_R_looked_108 : decode prog_9_method_32_code 108 = .ok (.return_, 1) := by decide +kernel
section RW
variable {p : Program} {l : Launch} {e : Env} {R : Room} {s : State} {m : MethodId} {args : Array Value} {below : List Frame} {meth : Method} {c : Code} {H : Heap} {locs : List Loc} {cells slots : Nat} {Q : State → Prop}
variable {cc : ByteArray} {pc : Nat} {ls : Array Slot} {rest : List Value} {dC : Nat → ClassId} {dI : Nat → Nat → Nat} {q : Nat → Nat} {cA : Nat → ClassId} {σ : MZ_} {H0 : Heap} {A : Nat → Prop}

theorem gf_R_150 (hx : p.tables.exec = Jvm.exec) (hb : c.code = cc) (hts : ∀ w ∈ AW_, w.before args s = true) (hown : s.vm.findClass "StagedParsersModel" = some m.cls) (hK : va_K (dC, dI) cls_ (tyR cA) s) (hP : va_P (dC, dI) cls_ (wR q cA σ) H) (hdg : decode cc pc = .ok (.getfield 150, 3)) (kk : W p l e R s m args below meth c H locs cells slots Q (F0 m (pc + 3) ls (.int (σ 41 0) :: rest))) : W p l e R s m args below meth c H locs cells slots Q (F0 m pc ls (.ref (q 0) :: rest)) :=
  va_get (D := (dC, dI)) (cl := cls_) (ci := 7) (v := .int (σ 41 0)) (ws := wR q cA σ) (tys := tyR cA) (C := Rz_R) (T := Tz_R) (N := 34) hx hb hts uz_R hown hK hP 0 rfl rfl 28 (by decide) (hts _ kw_839) (fun _ h9 => h9) rfl hdg kk
theorem pf_R_150 (hx : p.tables.exec = Jvm.exec) (hb : c.code = cc) (hts : ∀ w ∈ AW_, w.before args s = true) (hown : s.vm.findClass "StagedParsersModel" = some m.cls) (hK : va_K (dC, dI) cls_ (tyR cA) s) (hP : va_P (dC, dI) cls_ (wR q cA σ) H) (hD : va_D A (wR q cA σ)) (hS : va_S A H0 H locs) {v : Int32} (hdg : decode cc pc = .ok (.putfield 150, 3)) (kk : ∀ (H1 : Heap) (locs1 : List Loc), va_P (dC, dI) cls_ (wR q cA (va_up σ 41 (fun _ => v))) H1 → va_S A H0 H1 locs1 → W p l e R s m args below meth c H1 locs1 cells slots Q (F0 m (pc + 3) ls rest)) : W p l e R s m args below meth c H locs cells slots Q (F0 m pc ls (.int v :: .ref (q 0) :: rest)) :=
  va_put (D := (dC, dI)) (cl := cls_) (ci := 7) (v := .int v) (ty := .int) (ws := wR q cA σ) (tys := tyR cA) (C := Rz_R) (T := Tz_R) (N := 34) hx hb hts uz_R tz_R tz_R_ok nz_R hown hK hP hD hS 0 rfl rfl 28 (by decide) (hts _ kw_839) (fun _ h9 => h9) rfl (by decide +kernel) rfl rfl (Nat.le_of_ble_eq_true rfl) hdg (fun H1 locs1 hP _ hS => kk H1 locs1 hP hS)
theorem gf_R_159 (hx : p.tables.exec = Jvm.exec) (hb : c.code = cc) (hts : ∀ w ∈ AW_, w.before args s = true) (hown : s.vm.findClass "StagedParsersModel" = some m.cls) (hK : va_K (dC, dI) cls_ (tyR cA) s) (hP : va_P (dC, dI) cls_ (wR q cA σ) H) (hdg : decode cc pc = .ok (.getfield 159, 3)) (kk : W p l e R s m args below meth c H locs cells slots Q (F0 m (pc + 3) ls (.int (σ 42 0) :: rest))) : W p l e R s m args below meth c H locs cells slots Q (F0 m pc ls (.ref (q 0) :: rest)) :=
  va_get (D := (dC, dI)) (cl := cls_) (ci := 7) (v := .int (σ 42 0)) (ws := wR q cA σ) (tys := tyR cA) (C := Rz_R) (T := Tz_R) (N := 34) hx hb hts uz_R hown hK hP 0 rfl rfl 29 (by decide) (hts _ kw_840) (fun _ h9 => h9) rfl hdg kk
theorem pf_R_159 (hx : p.tables.exec = Jvm.exec) (hb : c.code = cc) (hts : ∀ w ∈ AW_, w.before args s = true) (hown : s.vm.findClass "StagedParsersModel" = some m.cls) (hK : va_K (dC, dI) cls_ (tyR cA) s) (hP : va_P (dC, dI) cls_ (wR q cA σ) H) (hD : va_D A (wR q cA σ)) (hS : va_S A H0 H locs) {v : Int32} (hdg : decode cc pc = .ok (.putfield 159, 3)) (kk : ∀ (H1 : Heap) (locs1 : List Loc), va_P (dC, dI) cls_ (wR q cA (va_up σ 42 (fun _ => v))) H1 → va_S A H0 H1 locs1 → W p l e R s m args below meth c H1 locs1 cells slots Q (F0 m (pc + 3) ls rest)) : W p l e R s m args below meth c H locs cells slots Q (F0 m pc ls (.int v :: .ref (q 0) :: rest)) :=
  va_put (D := (dC, dI)) (cl := cls_) (ci := 7) (v := .int v) (ty := .int) (ws := wR q cA σ) (tys := tyR cA) (C := Rz_R) (T := Tz_R) (N := 34) hx hb hts uz_R tz_R tz_R_ok nz_R hown hK hP hD hS 0 rfl rfl 29 (by decide) (hts _ kw_840) (fun _ h9 => h9) rfl (by decide +kernel) rfl rfl (Nat.le_of_ble_eq_true rfl) hdg (fun H1 locs1 hP _ hS => kk H1 locs1 hP hS)
theorem cw_R_162 (hts : ∀ w ∈ AW_, w.before args s = true) (hR : rm_R_fail.frames + 1 ≤ R.frames ∧ 8 + (1 + 11) + rm_R_fail.locals ≤ R.locals) : CallW R s args "StagedParsersModel" "StagedParsersModel" 162 y_R_fail prog_9_method_30_code 1 none w_R_fail rm_R_fail 0 0 0 :=
  ⟨callB_of 0 hts (aw_in kw_1042) rfl rfl rfl (hts _ kw_9) (hts _ kw_1039) ⟨by decide, by decide, by decide +kernel⟩ hR, hts _ kw_1041, hts _ ks_59⟩
theorem pf_R_141 (hx : p.tables.exec = Jvm.exec) (hb : c.code = cc) (hts : ∀ w ∈ AW_, w.before args s = true) (hown : s.vm.findClass "StagedParsersModel" = some m.cls) (hK : va_K (dC, dI) cls_ (tyR cA) s) (hP : va_P (dC, dI) cls_ (wR q cA σ) H) (hD : va_D A (wR q cA σ)) (hS : va_S A H0 H locs) {v : Int32} (hdg : decode cc pc = .ok (.putfield 141, 3)) (kk : ∀ (H1 : Heap) (locs1 : List Loc), va_P (dC, dI) cls_ (wR q cA (va_up σ 36 (fun _ => v))) H1 → va_S A H0 H1 locs1 → W p l e R s m args below meth c H1 locs1 cells slots Q (F0 m (pc + 3) ls rest)) : W p l e R s m args below meth c H locs cells slots Q (F0 m pc ls (.int v :: .ref (q 0) :: rest)) :=
  va_put (D := (dC, dI)) (cl := cls_) (ci := 7) (v := .int v) (ty := .int) (ws := wR q cA σ) (tys := tyR cA) (C := Rz_R) (T := Tz_R) (N := 34) hx hb hts uz_R tz_R tz_R_ok nz_R hown hK hP hD hS 0 rfl rfl 23 (by decide) (hts _ kw_834) (fun _ h9 => h9) rfl (by decide +kernel) rfl rfl (Nat.le_of_ble_eq_true rfl) hdg (fun H1 locs1 hP _ hS => kk H1 locs1 hP hS)
theorem cw_R_156 (hts : ∀ w ∈ AW_, w.before args s = true) (hR : rm_R_succeed.frames + 1 ≤ R.frames ∧ 8 + (2 + 11) + rm_R_succeed.locals ≤ R.locals) : CallW R s args "StagedParsersModel" "StagedParsersModel" 156 y_R_succeed prog_9_method_29_code 2 none w_R_succeed rm_R_succeed 0 0 1 :=
  ⟨callB_of 1 hts (aw_in kw_1034) rfl rfl rfl (hts _ kw_9) (hts _ kw_1031) ⟨by decide, by decide, by decide +kernel⟩ hR, hts _ kw_1033, hts _ ks_57⟩
theorem pf_R_153 (hx : p.tables.exec = Jvm.exec) (hb : c.code = cc) (hts : ∀ w ∈ AW_, w.before args s = true) (hown : s.vm.findClass "StagedParsersModel" = some m.cls) (hK : va_K (dC, dI) cls_ (tyR cA) s) (hP : va_P (dC, dI) cls_ (wR q cA σ) H) (hD : va_D A (wR q cA σ)) (hS : va_S A H0 H locs) {v : Int32} (hbo : v = 0 ∨ v = 1) (hdg : decode cc pc = .ok (.putfield 153, 3)) (kk : ∀ (H1 : Heap) (locs1 : List Loc), va_P (dC, dI) cls_ (wR q cA (va_up σ 38 (fun _ => v))) H1 → va_S A H0 H1 locs1 → W p l e R s m args below meth c H1 locs1 cells slots Q (F0 m (pc + 3) ls rest)) : W p l e R s m args below meth c H locs cells slots Q (F0 m pc ls (.int v :: .ref (q 0) :: rest)) :=
  va_put (D := (dC, dI)) (cl := cls_) (ci := 7) (v := .int v) (ty := .boolean) (ws := wR q cA σ) (tys := tyR cA) (C := Rz_R) (T := Tz_R) (N := 34) hx hb hts uz_R tz_R tz_R_ok nz_R hown hK hP hD hS 0 rfl rfl 25 (by decide) (hts _ kw_836) (fun _ h9 => h9) rfl (by decide +kernel) (bo_nar hbo) (bo_fit hbo) (Nat.le_of_ble_eq_true rfl) hdg (fun H1 locs1 hP _ hS => kk H1 locs1 hP hS)
end RW
def f_R_looked (σ : MZ_) (a1 : Int32) (a2 : Int32) : Option (MZ_) :=
  if (σ 41 0) = 1500 then st_ (va_up σ 38 (fun _ => 1)) fun σ8 => some σ8
  else st_ (va_up σ 41 (fun _ => (σ 41 0) + 1)) fun σ1 => if (σ1 33 0) ≤ (σ1 36 0) then (f_R_in (-1) a1 a2).bind fun r1 => if r1 = 0 then if (σ1 36 0) ≤ (σ1 42 0) then st_ (va_up σ1 42 (fun _ => σ1 42 0)) fun σ2 => (f_R_fail σ2).bind fun u2 => some u2
      else st_ (va_up σ1 42 (fun _ => σ1 36 0)) fun σ3 => (f_R_fail σ3).bind fun u3 => some u3
    else st_ (va_up σ1 36 (fun _ => (σ1 36 0) + 1)) fun σ4 => (f_R_succeed σ4 (-1)).bind fun u4 => some u4
  else gd_ (σ1 36 0) 40 ((f_R_in (σ1 7 (σ1 36 0).toNatClampNeg) a1 a2).bind fun r5 => if r5 = 0 then if (σ1 36 0) ≤ (σ1 42 0) then st_ (va_up σ1 42 (fun _ => σ1 42 0)) fun σ5 => (f_R_fail σ5).bind fun u6 => some u6
    else st_ (va_up σ1 42 (fun _ => σ1 36 0)) fun σ6 => (f_R_fail σ6).bind fun u7 => some u7
  else st_ (va_up σ1 36 (fun _ => (σ1 36 0) + 1)) fun σ7 => (f_R_succeed σ7 (σ1 7 (σ1 36 0).toNatClampNeg)).bind fun u8 => some u8)
set_option maxHeartbeats 4000000 in
set_option maxRecDepth 100000 in
theorem c_R_looked (l : Launch) (dC : Nat → ClassId) (dI : Nat → Nat → Nat) (q : Nat → Nat) (cA : Nat → ClassId) (σ : MZ_) (a1 : Int32) (a2 : Int32) (u : MZ_) (h : f_R_looked σ a1 a2 = some u) : Met l y_R_looked w_R_looked rm_R_looked (va_Pc [.ref (q 0), .int a1, .int a2] (PRx_ dC dI q cA σ)) (QW_ none (fun H => va_P (dC, dI) cls_ (wR q cA u) H) (AR q)) 0 0 (AR q) := by
  refine Met.ofW (cc := prog_9_method_32_code) (maxL := 4) (ret := none) (by decide) rfl ?_
  intro p e s m args below meth c s₁ B hml hv
  obtain ⟨rfl, hP, hK, hD, hN, hZ⟩ := hv
  have hx := B.exec
  have hb := B.bytes
  have hr := B.returns
  have hts : ∀ w ∈ AW_, w.before _ s = true := fun w h => atoms_spec (ws := w_R_looked) B.pre w (List.mem_cons_of_mem _ h)
  have hown : s.vm.findClass "StagedParsersModel" = some m.cls := findClass_of_methodNamed B.named
  have hlocks := B.notSynchronized
  have hS : va_S (AR q) s.heap s.heap [] := va_S.rf
  have hl := lv_entry ([.ref (q 0), .int a1, .int a2]) (n := 4) (Nat.le_of_ble_eq_true rfl)
  rw [lg_entry_eq]
  generalize (lg_sl ([.ref (q 0), .int a1, .int a2]) ++ List.replicate (4 - (lg_sl ([.ref (q 0), .int a1, .int a2])).length) Slot.unset).toArray = ls at hl ⊢
  have hl : lv_has ls 4 [(0, .ref (q 0)), (1, .int a1), (2, .int a2)] := hl
  rw [f_R_looked] at h
  refine lv_aload_n hx hb d_R_looked_0 rfl (lv_at hl 0 rfl) ?_
  refine gf_R_150 hx hb hts hown hK hP d_R_looked_1 ?_
  refine lv_sipush (v := 1500) hx hb d_R_looked_4 (by decide) ?_
  refine lv_icmp_ne (tgt := 16) hx hb d_R_looked_7 rfl (fun hc => ?_) (fun hc => ?_)
  · have h := if_f hc h
    refine lv_aload_n hx hb d_R_looked_16 rfl (lv_at hl 0 rfl) ?_
    refine lv_dup hx hb d_R_looked_17 rfl ?_
    refine gf_R_150 hx hb hts hown hK hP d_R_looked_18 ?_
    refine lv_iconst (v := 1) hx hb d_R_looked_21 (by decide) ?_
    refine lv_iadd hx hb d_R_looked_22 ?_
    refine pf_R_150 hx hb hts hown hK hP hD hS d_R_looked_23 (fun H locs hP hS => ?_)
    obtain ⟨σ1, eσ1, h⟩ := st_some h
    rw [← eσ1] at hP
    have hD : va_D (AR q) (wR q cA σ1) := dd_re (wR_f _ _ _ _) hD
    refine lv_aload_n hx hb d_R_looked_26 rfl (lv_at hl 0 rfl) ?_
    refine gf_R_141 hx hb hts hown hK hP d_R_looked_27 ?_
    refine lv_aload_n hx hb d_R_looked_30 rfl (lv_at hl 0 rfl) ?_
    refine gf_R_135 hx hb hts hown hK hP d_R_looked_31 ?_
    refine lv_icmp_ge (tgt := 49) hx hb d_R_looked_34 rfl (fun hc => ?_) (fun hc => ?_)
    · have h := if_t hc h
      refine lv_iconst (v := (-1)) hx hb d_R_looked_49 (by decide) ?_
      refine lv_istore_n hx hb d_R_looked_50 rfl hl (by decide) rfl (fun ls hl => ?_)
      have hl : lv_has ls 4 [(3, .int (-1)), (0, .ref (q 0)), (1, .int a1), (2, .int a2)] := hl
      refine lv_iload_n hx hb d_R_looked_51 rfl (lv_at hl 0 rfl) ?_
      refine lv_iload_n hx hb d_R_looked_52 rfl (lv_at hl 2 rfl) ?_
      refine lv_iload_n hx hb d_R_looked_53 rfl (lv_at hl 3 rfl) ?_
      obtain ⟨r1, hcl, h⟩ := bd_some h
      refine cx_read (va_runS (As := [.int (-1), .int a1, .int a2]) (rest := []) ⟨hx, hb, hml, hown, hts⟩ (c_R_in l dC dI q cA σ1 (-1) a1 a2 _ hcl) (cw_R_72 hts ⟨Nat.le_of_ble_eq_true rfl, Nat.le_of_ble_eq_true rfl⟩) ⟨pxR_B, pxR_U hP hK hD hN hZ hS⟩ rfl rfl hl.1 rfl (lv_room (Nat.le_of_ble_eq_true rfl)) d_R_looked_54 ⟨Nat.zero_le _, Nat.zero_le _⟩) ?_
      refine lv_if_eq (tgt := 78) hx hb d_R_looked_57 rfl (fun hc => ?_) (fun hc => ?_)
      · have h := if_t hc h
        refine lv_aload_n hx hb d_R_looked_78 rfl (lv_at hl 1 rfl) ?_
        refine lv_aload_n hx hb d_R_looked_79 rfl (lv_at hl 1 rfl) ?_
        refine gf_R_141 hx hb hts hown hK hP d_R_looked_80 ?_
        refine lv_aload_n hx hb d_R_looked_83 rfl (lv_at hl 1 rfl) ?_
        refine gf_R_159 hx hb hts hown hK hP d_R_looked_84 ?_
        refine lv_icmp_le (tgt := 97) hx hb d_R_looked_87 rfl (fun hc => ?_) (fun hc => ?_)
        · have h := if_t hc h
          refine lv_aload_n hx hb d_R_looked_97 rfl (lv_at hl 1 rfl) ?_
          refine gf_R_159 hx hb hts hown hK hP d_R_looked_98 ?_
          refine pf_R_159 hx hb hts hown hK hP hD hS d_R_looked_101 (fun H locs hP hS => ?_)
          obtain ⟨σ2, eσ2, h⟩ := st_some h
          rw [← eσ2] at hP
          have hD : va_D (AR q) (wR q cA σ2) := dd_re (wR_f _ _ _ _) hD
          refine lv_aload_n hx hb d_R_looked_104 rfl (lv_at hl 1 rfl) ?_
          obtain ⟨u2, hcl, h⟩ := bd_some h
          refine cx_wrv (va_runV (As := []) (rest := []) ⟨hx, hb, hml, hown, hts⟩ (c_R_fail l dC dI q cA σ2 _ hcl) (cw_R_162 hts ⟨Nat.le_of_ble_eq_true rfl, Nat.le_of_ble_eq_true rfl⟩) ⟨pxR_B, va_recv hK hP (ci := 7) (q0 := 0) rfl rfl, pxR_U hP hK hD hN hZ hS⟩ rfl rfl hl.1 rfl (lv_room (Nat.le_of_ble_eq_true rfl)) d_R_looked_105 ⟨Nat.zero_le _, Nat.zero_le _⟩) hS (fun _ h => h) (fun H locs hP hS => ?_)
          have hD : va_D (AR q) (wR q cA u2) := dd_re (wR_f _ _ _ _) hD
          obtain rfl := Option.some.inj h
          exact W.vret hx hb hr (fun t ht hW => ⟨rfl, by rw [ht]; exact hP, hS.F ht⟩) hS.2.2 d_R_looked_108
        · have h := if_f hc h
          refine lv_aload_n hx hb d_R_looked_90 rfl (lv_at hl 1 rfl) ?_
          refine gf_R_141 hx hb hts hown hK hP d_R_looked_91 ?_
          refine lv_goto (tgt := 101) hx hb d_R_looked_94 rfl ?_
          refine pf_R_159 hx hb hts hown hK hP hD hS d_R_looked_101 (fun H locs hP hS => ?_)
          obtain ⟨σ3, eσ3, h⟩ := st_some h
          rw [← eσ3] at hP
          have hD : va_D (AR q) (wR q cA σ3) := dd_re (wR_f _ _ _ _) hD
          refine lv_aload_n hx hb d_R_looked_104 rfl (lv_at hl 1 rfl) ?_
          obtain ⟨u3, hcl, h⟩ := bd_some h
          refine cx_wrv (va_runV (As := []) (rest := []) ⟨hx, hb, hml, hown, hts⟩ (c_R_fail l dC dI q cA σ3 _ hcl) (cw_R_162 hts ⟨Nat.le_of_ble_eq_true rfl, Nat.le_of_ble_eq_true rfl⟩) ⟨pxR_B, va_recv hK hP (ci := 7) (q0 := 0) rfl rfl, pxR_U hP hK hD hN hZ hS⟩ rfl rfl hl.1 rfl (lv_room (Nat.le_of_ble_eq_true rfl)) d_R_looked_105 ⟨Nat.zero_le _, Nat.zero_le _⟩) hS (fun _ h => h) (fun H locs hP hS => ?_)
          have hD : va_D (AR q) (wR q cA u3) := dd_re (wR_f _ _ _ _) hD
          obtain rfl := Option.some.inj h
          exact W.vret hx hb hr (fun t ht hW => ⟨rfl, by rw [ht]; exact hP, hS.F ht⟩) hS.2.2 d_R_looked_108
      · have h := if_f hc h
        refine lv_aload_n hx hb d_R_looked_60 rfl (lv_at hl 1 rfl) ?_
        refine lv_dup hx hb d_R_looked_61 rfl ?_
        refine gf_R_141 hx hb hts hown hK hP d_R_looked_62 ?_
        refine lv_iconst (v := 1) hx hb d_R_looked_65 (by decide) ?_
        refine lv_iadd hx hb d_R_looked_66 ?_
        refine pf_R_141 hx hb hts hown hK hP hD hS d_R_looked_67 (fun H locs hP hS => ?_)
        obtain ⟨σ4, eσ4, h⟩ := st_some h
        rw [← eσ4] at hP
        have hD : va_D (AR q) (wR q cA σ4) := dd_re (wR_f _ _ _ _) hD
        refine lv_aload_n hx hb d_R_looked_70 rfl (lv_at hl 1 rfl) ?_
        refine lv_iload_n hx hb d_R_looked_71 rfl (lv_at hl 0 rfl) ?_
        obtain ⟨u4, hcl, h⟩ := bd_some h
        refine cx_wrv (va_runV (As := [.int (-1)]) (rest := []) ⟨hx, hb, hml, hown, hts⟩ (c_R_succeed l dC dI q cA σ4 (-1) _ hcl) (cw_R_156 hts ⟨Nat.le_of_ble_eq_true rfl, Nat.le_of_ble_eq_true rfl⟩) ⟨pxR_B, va_recv hK hP (ci := 7) (q0 := 0) rfl rfl, pxR_U hP hK hD hN hZ hS⟩ rfl rfl hl.1 rfl (lv_room (Nat.le_of_ble_eq_true rfl)) d_R_looked_72 ⟨Nat.zero_le _, Nat.zero_le _⟩) hS (fun _ h => h) (fun H locs hP hS => ?_)
        have hD : va_D (AR q) (wR q cA u4) := dd_re (wR_f _ _ _ _) hD
        refine lv_goto (tgt := 108) hx hb d_R_looked_75 rfl ?_
        obtain rfl := Option.some.inj h
        exact W.vret hx hb hr (fun t ht hW => ⟨rfl, by rw [ht]; exact hP, hS.F ht⟩) hS.2.2 d_R_looked_108
    · have h := if_f hc h
      refine lv_aload_n hx hb d_R_looked_37 rfl (lv_at hl 0 rfl) ?_
      refine gf_R_28 hx hb hts hown hK hP d_R_looked_38 ?_
      refine lv_aload_n hx hb d_R_looked_41 rfl (lv_at hl 0 rfl) ?_
      refine gf_R_141 hx hb hts hown hK hP d_R_looked_42 ?_
      obtain ⟨hgd, h⟩ := gd_some h
      refine al_R_7 hx hb hK hP hgd d_R_looked_45 ?_
      refine lv_goto (tgt := 50) hx hb d_R_looked_46 rfl ?_
      refine lv_istore_n hx hb d_R_looked_50 rfl hl (by decide) rfl (fun ls hl => ?_)
      have hl : lv_has ls 4 [(3, .int (σ1 7 (σ1 36 0).toNatClampNeg)), (0, .ref (q 0)), (1, .int a1), (2, .int a2)] := hl
      refine lv_iload_n hx hb d_R_looked_51 rfl (lv_at hl 0 rfl) ?_
      refine lv_iload_n hx hb d_R_looked_52 rfl (lv_at hl 2 rfl) ?_
      refine lv_iload_n hx hb d_R_looked_53 rfl (lv_at hl 3 rfl) ?_
      obtain ⟨r5, hcl, h⟩ := bd_some h
      refine cx_read (va_runS (As := [.int (σ1 7 (σ1 36 0).toNatClampNeg), .int a1, .int a2]) (rest := []) ⟨hx, hb, hml, hown, hts⟩ (c_R_in l dC dI q cA σ1 (σ1 7 (σ1 36 0).toNatClampNeg) a1 a2 _ hcl) (cw_R_72 hts ⟨Nat.le_of_ble_eq_true rfl, Nat.le_of_ble_eq_true rfl⟩) ⟨pxR_B, pxR_U hP hK hD hN hZ hS⟩ rfl rfl hl.1 rfl (lv_room (Nat.le_of_ble_eq_true rfl)) d_R_looked_54 ⟨Nat.zero_le _, Nat.zero_le _⟩) ?_
      refine lv_if_eq (tgt := 78) hx hb d_R_looked_57 rfl (fun hc => ?_) (fun hc => ?_)
      · have h := if_t hc h
        refine lv_aload_n hx hb d_R_looked_78 rfl (lv_at hl 1 rfl) ?_
        refine lv_aload_n hx hb d_R_looked_79 rfl (lv_at hl 1 rfl) ?_
        refine gf_R_141 hx hb hts hown hK hP d_R_looked_80 ?_
        refine lv_aload_n hx hb d_R_looked_83 rfl (lv_at hl 1 rfl) ?_
        refine gf_R_159 hx hb hts hown hK hP d_R_looked_84 ?_
        refine lv_icmp_le (tgt := 97) hx hb d_R_looked_87 rfl (fun hc => ?_) (fun hc => ?_)
        · have h := if_t hc h
          refine lv_aload_n hx hb d_R_looked_97 rfl (lv_at hl 1 rfl) ?_
          refine gf_R_159 hx hb hts hown hK hP d_R_looked_98 ?_
          refine pf_R_159 hx hb hts hown hK hP hD hS d_R_looked_101 (fun H locs hP hS => ?_)
          obtain ⟨σ5, eσ5, h⟩ := st_some h
          rw [← eσ5] at hP
          have hD : va_D (AR q) (wR q cA σ5) := dd_re (wR_f _ _ _ _) hD
          refine lv_aload_n hx hb d_R_looked_104 rfl (lv_at hl 1 rfl) ?_
          obtain ⟨u6, hcl, h⟩ := bd_some h
          refine cx_wrv (va_runV (As := []) (rest := []) ⟨hx, hb, hml, hown, hts⟩ (c_R_fail l dC dI q cA σ5 _ hcl) (cw_R_162 hts ⟨Nat.le_of_ble_eq_true rfl, Nat.le_of_ble_eq_true rfl⟩) ⟨pxR_B, va_recv hK hP (ci := 7) (q0 := 0) rfl rfl, pxR_U hP hK hD hN hZ hS⟩ rfl rfl hl.1 rfl (lv_room (Nat.le_of_ble_eq_true rfl)) d_R_looked_105 ⟨Nat.zero_le _, Nat.zero_le _⟩) hS (fun _ h => h) (fun H locs hP hS => ?_)
          have hD : va_D (AR q) (wR q cA u6) := dd_re (wR_f _ _ _ _) hD
          obtain rfl := Option.some.inj h
          exact W.vret hx hb hr (fun t ht hW => ⟨rfl, by rw [ht]; exact hP, hS.F ht⟩) hS.2.2 d_R_looked_108
        · have h := if_f hc h
          refine lv_aload_n hx hb d_R_looked_90 rfl (lv_at hl 1 rfl) ?_
          refine gf_R_141 hx hb hts hown hK hP d_R_looked_91 ?_
          refine lv_goto (tgt := 101) hx hb d_R_looked_94 rfl ?_
          refine pf_R_159 hx hb hts hown hK hP hD hS d_R_looked_101 (fun H locs hP hS => ?_)
          obtain ⟨σ6, eσ6, h⟩ := st_some h
          rw [← eσ6] at hP
          have hD : va_D (AR q) (wR q cA σ6) := dd_re (wR_f _ _ _ _) hD
          refine lv_aload_n hx hb d_R_looked_104 rfl (lv_at hl 1 rfl) ?_
          obtain ⟨u7, hcl, h⟩ := bd_some h
          refine cx_wrv (va_runV (As := []) (rest := []) ⟨hx, hb, hml, hown, hts⟩ (c_R_fail l dC dI q cA σ6 _ hcl) (cw_R_162 hts ⟨Nat.le_of_ble_eq_true rfl, Nat.le_of_ble_eq_true rfl⟩) ⟨pxR_B, va_recv hK hP (ci := 7) (q0 := 0) rfl rfl, pxR_U hP hK hD hN hZ hS⟩ rfl rfl hl.1 rfl (lv_room (Nat.le_of_ble_eq_true rfl)) d_R_looked_105 ⟨Nat.zero_le _, Nat.zero_le _⟩) hS (fun _ h => h) (fun H locs hP hS => ?_)
          have hD : va_D (AR q) (wR q cA u7) := dd_re (wR_f _ _ _ _) hD
          obtain rfl := Option.some.inj h
          exact W.vret hx hb hr (fun t ht hW => ⟨rfl, by rw [ht]; exact hP, hS.F ht⟩) hS.2.2 d_R_looked_108
      · have h := if_f hc h
        refine lv_aload_n hx hb d_R_looked_60 rfl (lv_at hl 1 rfl) ?_
        refine lv_dup hx hb d_R_looked_61 rfl ?_
        refine gf_R_141 hx hb hts hown hK hP d_R_looked_62 ?_
        refine lv_iconst (v := 1) hx hb d_R_looked_65 (by decide) ?_
        refine lv_iadd hx hb d_R_looked_66 ?_
        refine pf_R_141 hx hb hts hown hK hP hD hS d_R_looked_67 (fun H locs hP hS => ?_)
        obtain ⟨σ7, eσ7, h⟩ := st_some h
        rw [← eσ7] at hP
        have hD : va_D (AR q) (wR q cA σ7) := dd_re (wR_f _ _ _ _) hD
        refine lv_aload_n hx hb d_R_looked_70 rfl (lv_at hl 1 rfl) ?_
        refine lv_iload_n hx hb d_R_looked_71 rfl (lv_at hl 0 rfl) ?_
        obtain ⟨u8, hcl, h⟩ := bd_some h
        refine cx_wrv (va_runV (As := [.int (σ1 7 (σ1 36 0).toNatClampNeg)]) (rest := []) ⟨hx, hb, hml, hown, hts⟩ (c_R_succeed l dC dI q cA σ7 (σ1 7 (σ1 36 0).toNatClampNeg) _ hcl) (cw_R_156 hts ⟨Nat.le_of_ble_eq_true rfl, Nat.le_of_ble_eq_true rfl⟩) ⟨pxR_B, va_recv hK hP (ci := 7) (q0 := 0) rfl rfl, pxR_U hP hK hD hN hZ hS⟩ rfl rfl hl.1 rfl (lv_room (Nat.le_of_ble_eq_true rfl)) d_R_looked_72 ⟨Nat.zero_le _, Nat.zero_le _⟩) hS (fun _ h => h) (fun H locs hP hS => ?_)
        have hD : va_D (AR q) (wR q cA u8) := dd_re (wR_f _ _ _ _) hD
        refine lv_goto (tgt := 108) hx hb d_R_looked_75 rfl ?_
        obtain rfl := Option.some.inj h
        exact W.vret hx hb hr (fun t ht hW => ⟨rfl, by rw [ht]; exact hP, hS.F ht⟩) hS.2.2 d_R_looked_108
  · have h := if_t hc h
    refine lv_aload_n hx hb d_R_looked_10 rfl (lv_at hl 0 rfl) ?_
    refine lv_iconst (v := 1) hx hb d_R_looked_11 (by decide) ?_
    refine pf_R_153 hx hb hts hown hK hP hD hS (Or.inr rfl) d_R_looked_12 (fun H locs hP hS => ?_)
    obtain ⟨σ8, eσ8, h⟩ := st_some h
    rw [← eσ8] at hP
    have hD : va_D (AR q) (wR q cA σ8) := dd_re (wR_f _ _ _ _) hD
    obtain rfl := Option.some.inj h
    exact W.vret hx hb hr (fun t ht hW => ⟨rfl, by rw [ht]; exact hP, hS.F ht⟩) hS.2.2 d_R_looked_15
def y_R_begin : MethodName := ⟨"StagedParsersModel", "begin", "(I)V"⟩
def w_R_begin : List Cond := .code y_R_begin prog_9_method_33_code 3 none :: AW_
def rm_R_begin : Room := { frames := 2, cells := 0, slots := 0, locals := 45 }
theorem d_R_begin_0 : decode prog_9_method_33_code 0 = .ok (.aload_n 0, 1) := by decide +kernel
theorem d_R_begin_1 : decode prog_9_method_33_code 1 = .ok (.getfield 44, 3) := by decide +kernel
theorem d_R_begin_4 : decode prog_9_method_33_code 4 = .ok (.iload_n 1, 1) := by decide +kernel
theorem d_R_begin_5 : decode prog_9_method_33_code 5 = .ok (.iaload, 1) := by decide +kernel
theorem d_R_begin_6 : decode prog_9_method_33_code 6 = .ok (.istore_n 2, 1) := by decide +kernel
theorem d_R_begin_7 : decode prog_9_method_33_code 7 = .ok (.aload_n 0, 1) := by decide +kernel
theorem d_R_begin_8 : decode prog_9_method_33_code 8 = .ok (.getfield 47, 3) := by decide +kernel
theorem d_R_begin_11 : decode prog_9_method_33_code 11 = .ok (.iload_n 1, 1) := by decide +kernel
theorem d_R_begin_12 : decode prog_9_method_33_code 12 = .ok (.iconst 1, 1) := by decide +kernel
theorem d_R_begin_13 : decode prog_9_method_33_code 13 = .ok (.iastore, 1) := by decide +kernel
theorem d_R_begin_14 : decode prog_9_method_33_code 14 = .ok (.aload_n 0, 1) := by decide +kernel
theorem d_R_begin_15 : decode prog_9_method_33_code 15 = .ok (.getfield 7, 3) := by decide +kernel
theorem d_R_begin_18 : decode prog_9_method_33_code 18 = .ok (.iload_n 2, 1) := by decide +kernel
theorem d_R_begin_19 : decode prog_9_method_33_code 19 = .ok (.iaload, 1) := by decide +kernel
theorem d_R_begin_20 : decode prog_9_method_33_code 20 = .ok (.tableswitch 204 0 13 #[72, 83, 100, 117, 204, 204, 204, 204, 204, 204, 204, 138, 204, 122], 72) := by decide +kernel
theorem d_R_begin_92 : decode prog_9_method_33_code 92 = .ok (.aload_n 0, 1) := by decide +kernel
theorem d_R_begin_93 : decode prog_9_method_33_code 93 = .ok (.aload_n 0, 1) := by decide +kernel
theorem d_R_begin_94 : decode prog_9_method_33_code 94 = .ok (.getfield 13, 3) := by decide +kernel
theorem d_R_begin_97 : decode prog_9_method_33_code 97 = .ok (.iload_n 2, 1) := by decide +kernel
theorem d_R_begin_98 : decode prog_9_method_33_code 98 = .ok (.iaload, 1) := by decide +kernel
theorem d_R_begin_99 : decode prog_9_method_33_code 99 = .ok (.invokevirtual 156, 3) := by decide +kernel
theorem d_R_begin_102 : decode prog_9_method_33_code 102 = .ok (.return_, 1) := by decide +kernel
theorem d_R_begin_103 : decode prog_9_method_33_code 103 = .ok (.aload_n 0, 1) := by decide +kernel
theorem d_R_begin_104 : decode prog_9_method_33_code 104 = .ok (.aload_n 0, 1) := by decide +kernel
theorem d_R_begin_105 : decode prog_9_method_33_code 105 = .ok (.getfield 13, 3) := by decide +kernel
theorem d_R_begin_108 : decode prog_9_method_33_code 108 = .ok (.iload_n 2, 1) := by decide +kernel
theorem d_R_begin_109 : decode prog_9_method_33_code 109 = .ok (.iaload, 1) := by decide +kernel
theorem d_R_begin_110 : decode prog_9_method_33_code 110 = .ok (.aload_n 0, 1) := by decide +kernel
theorem d_R_begin_111 : decode prog_9_method_33_code 111 = .ok (.getfield 13, 3) := by decide +kernel
theorem d_R_begin_114 : decode prog_9_method_33_code 114 = .ok (.iload_n 2, 1) := by decide +kernel
theorem d_R_begin_115 : decode prog_9_method_33_code 115 = .ok (.iaload, 1) := by decide +kernel
theorem d_R_begin_116 : decode prog_9_method_33_code 116 = .ok (.invokevirtual 165, 3) := by decide +kernel
theorem d_R_begin_119 : decode prog_9_method_33_code 119 = .ok (.return_, 1) := by decide +kernel
theorem d_R_begin_120 : decode prog_9_method_33_code 120 = .ok (.aload_n 0, 1) := by decide +kernel
theorem d_R_begin_121 : decode prog_9_method_33_code 121 = .ok (.aload_n 0, 1) := by decide +kernel
theorem d_R_begin_122 : decode prog_9_method_33_code 122 = .ok (.getfield 13, 3) := by decide +kernel
theorem d_R_begin_125 : decode prog_9_method_33_code 125 = .ok (.iload_n 2, 1) := by decide +kernel
theorem d_R_begin_126 : decode prog_9_method_33_code 126 = .ok (.iaload, 1) := by decide +kernel
theorem d_R_begin_127 : decode prog_9_method_33_code 127 = .ok (.aload_n 0, 1) := by decide +kernel
theorem d_R_begin_128 : decode prog_9_method_33_code 128 = .ok (.getfield 16, 3) := by decide +kernel
theorem d_R_begin_131 : decode prog_9_method_33_code 131 = .ok (.iload_n 2, 1) := by decide +kernel
theorem d_R_begin_132 : decode prog_9_method_33_code 132 = .ok (.iaload, 1) := by decide +kernel
theorem d_R_begin_133 : decode prog_9_method_33_code 133 = .ok (.invokevirtual 165, 3) := by decide +kernel
theorem d_R_begin_136 : decode prog_9_method_33_code 136 = .ok (.return_, 1) := by decide +kernel
theorem d_R_begin_137 : decode prog_9_method_33_code 137 = .ok (.aload_n 0, 1) := by decide +kernel
theorem d_R_begin_138 : decode prog_9_method_33_code 138 = .ok (.invokevirtual 162, 3) := by decide +kernel
theorem d_R_begin_141 : decode prog_9_method_33_code 141 = .ok (.return_, 1) := by decide +kernel
theorem d_R_begin_142 : decode prog_9_method_33_code 142 = .ok (.aload_n 0, 1) := by decide +kernel
theorem d_R_begin_143 : decode prog_9_method_33_code 143 = .ok (.aload_n 0, 1) := by decide +kernel
theorem d_R_begin_144 : decode prog_9_method_33_code 144 = .ok (.getfield 62, 3) := by decide +kernel
theorem d_R_begin_147 : decode prog_9_method_33_code 147 = .ok (.aload_n 0, 1) := by decide +kernel
theorem d_R_begin_148 : decode prog_9_method_33_code 148 = .ok (.getfield 13, 3) := by decide +kernel
theorem d_R_begin_151 : decode prog_9_method_33_code 151 = .ok (.iload_n 2, 1) := by decide +kernel
theorem d_R_begin_152 : decode prog_9_method_33_code 152 = .ok (.iaload, 1) := by decide +kernel
theorem d_R_begin_153 : decode prog_9_method_33_code 153 = .ok (.iaload, 1) := by decide +kernel
theorem d_R_begin_154 : decode prog_9_method_33_code 154 = .ok (.invokevirtual 156, 3) := by decide +kernel
theorem d_R_begin_157 : decode prog_9_method_33_code 157 = .ok (.return_, 1) := by decide +kernel
theorem d_R_begin_158 : decode prog_9_method_33_code 158 = .ok (.aload_n 0, 1) := by decide +kernel
theorem d_R_begin_159 : decode prog_9_method_33_code 159 = .ok (.aload_n 0, 1) := by decide +kernel
theorem d_R_begin_160 : decode prog_9_method_33_code 160 = .ok (.getfield 169, 3) := by decide +kernel
theorem d_R_begin_163 : decode prog_9_method_33_code 163 = .ok (.bipush 40, 2) := by decide +kernel
theorem d_R_begin_165 : decode prog_9_method_33_code 165 = .ok (.if_icmp .eq 13, 3) := by decide +kernel
theorem d_R_begin_168 : decode prog_9_method_33_code 168 = .ok (.aload_n 0, 1) := by decide +kernel
theorem d_R_begin_169 : decode prog_9_method_33_code 169 = .ok (.getfield 172, 3) := by decide +kernel
theorem d_R_begin_172 : decode prog_9_method_33_code 172 = .ok (.sipush 300, 3) := by decide +kernel
theorem d_R_begin_175 : decode prog_9_method_33_code 175 = .ok (.if_icmp .ne 7, 3) := by decide +kernel
theorem d_R_begin_178 : decode prog_9_method_33_code 178 = .ok (.iconst 1, 1) := by decide +kernel
theorem d_R_begin_179 : decode prog_9_method_33_code 179 = .ok (.goto 4, 3) := by decide +kernel
theorem d_R_begin_182 : decode prog_9_method_33_code 182 = .ok (.iconst 0, 1) := by decide +kernel
theorem d_R_begin_183 : decode prog_9_method_33_code 183 = .ok (.putfield 153, 3) := by decide +kernel
theorem d_R_begin_186 : decode prog_9_method_33_code 186 = .ok (.aload_n 0, 1) := by decide +kernel
theorem d_R_begin_187 : decode prog_9_method_33_code 187 = .ok (.dup, 1) := by decide +kernel
theorem d_R_begin_188 : decode prog_9_method_33_code 188 = .ok (.getfield 169, 3) := by decide +kernel
theorem d_R_begin_191 : decode prog_9_method_33_code 191 = .ok (.iconst 1, 1) := by decide +kernel
theorem d_R_begin_192 : decode prog_9_method_33_code 192 = .ok (.iadd, 1) := by decide +kernel
theorem d_R_begin_193 : decode prog_9_method_33_code 193 = .ok (.putfield 169, 3) := by decide +kernel
theorem d_R_begin_196 : decode prog_9_method_33_code 196 = .ok (.aload_n 0, 1) := by decide +kernel
theorem d_R_begin_197 : decode prog_9_method_33_code 197 = .ok (.dup, 1) := by decide +kernel
theorem d_R_begin_198 : decode prog_9_method_33_code 198 = .ok (.getfield 172, 3) := by decide +kernel
theorem d_R_begin_201 : decode prog_9_method_33_code 201 = .ok (.iconst 1, 1) := by decide +kernel
theorem d_R_begin_202 : decode prog_9_method_33_code 202 = .ok (.iadd, 1) := by decide +kernel
theorem d_R_begin_203 : decode prog_9_method_33_code 203 = .ok (.putfield 172, 3) := by decide +kernel
theorem d_R_begin_206 : decode prog_9_method_33_code 206 = .ok (.aload_n 0, 1) := by decide +kernel
theorem d_R_begin_207 : decode prog_9_method_33_code 207 = .ok (.aload_n 0, 1) := by decide +kernel
theorem d_R_begin_208 : decode prog_9_method_33_code 208 = .ok (.getfield 25, 3) := by decide +kernel
theorem d_R_begin_211 : decode prog_9_method_33_code 211 = .ok (.aload_n 0, 1) := by decide +kernel
theorem d_R_begin_212 : decode prog_9_method_33_code 212 = .ok (.getfield 13, 3) := by decide +kernel
theorem d_R_begin_215 : decode prog_9_method_33_code 215 = .ok (.iload_n 2, 1) := by decide +kernel
theorem d_R_begin_216 : decode prog_9_method_33_code 216 = .ok (.iaload, 1) := by decide +kernel
theorem d_R_begin_217 : decode prog_9_method_33_code 217 = .ok (.iaload, 1) := by decide +kernel
theorem d_R_begin_218 : decode prog_9_method_33_code 218 = .ok (.iconst 1, 1) := by decide +kernel
theorem d_R_begin_219 : decode prog_9_method_33_code 219 = .ok (.isub, 1) := by decide +kernel
theorem d_R_begin_220 : decode prog_9_method_33_code 220 = .ok (.invokevirtual 175, 3) := by decide +kernel
theorem d_R_begin_223 : decode prog_9_method_33_code 223 = .ok (.return_, 1) := by decide +kernel
theorem d_R_begin_224 : decode prog_9_method_33_code 224 = .ok (.aload_n 0, 1) := by decide +kernel
theorem d_R_begin_225 : decode prog_9_method_33_code 225 = .ok (.aload_n 0, 1) := by decide +kernel
theorem d_R_begin_226 : decode prog_9_method_33_code 226 = .ok (.getfield 13, 3) := by decide +kernel
theorem d_R_begin_229 : decode prog_9_method_33_code 229 = .ok (.iload_n 2, 1) := by decide +kernel
theorem d_R_begin_230 : decode prog_9_method_33_code 230 = .ok (.iaload, 1) := by decide +kernel
theorem d_R_begin_231 : decode prog_9_method_33_code 231 = .ok (.invokevirtual 175, 3) := by decide +kernel
theorem d_R_begin_234 : decode prog_9_method_33_code 234 = .ok (.return_, 1) := by decide +kernel
section RW
variable {p : Program} {l : Launch} {e : Env} {R : Room} {s : State} {m : MethodId} {args : Array Value} {below : List Frame} {meth : Method} {c : Code} {H : Heap} {locs : List Loc} {cells slots : Nat} {Q : State → Prop}
variable {cc : ByteArray} {pc : Nat} {ls : Array Slot} {rest : List Value} {dC : Nat → ClassId} {dI : Nat → Nat → Nat} {q : Nat → Nat} {cA : Nat → ClassId} {σ : MZ_} {H0 : Heap} {A : Nat → Prop}

theorem cw_R_165 (hts : ∀ w ∈ AW_, w.before args s = true) (hR : rm_R_looked.frames + 1 ≤ R.frames ∧ 8 + (4 + 11) + rm_R_looked.locals ≤ R.locals) : CallW R s args "StagedParsersModel" "StagedParsersModel" 165 y_R_looked prog_9_method_32_code 4 none w_R_looked rm_R_looked 0 0 2 :=
  ⟨callB_of 2 hts (aw_in kw_1038) rfl rfl rfl (hts _ kw_9) (hts _ kw_1035) ⟨by decide, by decide, by decide +kernel⟩ hR, hts _ kw_1037, hts _ ks_58⟩
theorem cw_R_175 (hts : ∀ w ∈ AW_, w.before args s = true) (hR : rm_R_enter.frames + 1 ≤ R.frames ∧ 8 + (2 + 11) + rm_R_enter.locals ≤ R.locals) : CallW R s args "StagedParsersModel" "StagedParsersModel" 175 y_R_enter prog_9_method_28_code 2 none w_R_enter rm_R_enter 0 0 1 :=
  ⟨callB_of 1 hts (aw_in kw_1026) rfl rfl rfl (hts _ kw_9) (hts _ kw_1023) ⟨by decide, by decide, by decide +kernel⟩ hR, hts _ kw_1025, hts _ ks_55⟩
theorem gf_R_169 (hx : p.tables.exec = Jvm.exec) (hb : c.code = cc) (hts : ∀ w ∈ AW_, w.before args s = true) (hown : s.vm.findClass "StagedParsersModel" = some m.cls) (hK : va_K (dC, dI) cls_ (tyR cA) s) (hP : va_P (dC, dI) cls_ (wR q cA σ) H) (hdg : decode cc pc = .ok (.getfield 169, 3)) (kk : W p l e R s m args below meth c H locs cells slots Q (F0 m (pc + 3) ls (.int (σ 39 0) :: rest))) : W p l e R s m args below meth c H locs cells slots Q (F0 m pc ls (.ref (q 0) :: rest)) :=
  va_get (D := (dC, dI)) (cl := cls_) (ci := 7) (v := .int (σ 39 0)) (ws := wR q cA σ) (tys := tyR cA) (C := Rz_R) (T := Tz_R) (N := 34) hx hb hts uz_R hown hK hP 0 rfl rfl 26 (by decide) (hts _ kw_837) (fun _ h9 => h9) rfl hdg kk
theorem pf_R_169 (hx : p.tables.exec = Jvm.exec) (hb : c.code = cc) (hts : ∀ w ∈ AW_, w.before args s = true) (hown : s.vm.findClass "StagedParsersModel" = some m.cls) (hK : va_K (dC, dI) cls_ (tyR cA) s) (hP : va_P (dC, dI) cls_ (wR q cA σ) H) (hD : va_D A (wR q cA σ)) (hS : va_S A H0 H locs) {v : Int32} (hdg : decode cc pc = .ok (.putfield 169, 3)) (kk : ∀ (H1 : Heap) (locs1 : List Loc), va_P (dC, dI) cls_ (wR q cA (va_up σ 39 (fun _ => v))) H1 → va_S A H0 H1 locs1 → W p l e R s m args below meth c H1 locs1 cells slots Q (F0 m (pc + 3) ls rest)) : W p l e R s m args below meth c H locs cells slots Q (F0 m pc ls (.int v :: .ref (q 0) :: rest)) :=
  va_put (D := (dC, dI)) (cl := cls_) (ci := 7) (v := .int v) (ty := .int) (ws := wR q cA σ) (tys := tyR cA) (C := Rz_R) (T := Tz_R) (N := 34) hx hb hts uz_R tz_R tz_R_ok nz_R hown hK hP hD hS 0 rfl rfl 26 (by decide) (hts _ kw_837) (fun _ h9 => h9) rfl (by decide +kernel) rfl rfl (Nat.le_of_ble_eq_true rfl) hdg (fun H1 locs1 hP _ hS => kk H1 locs1 hP hS)
theorem gf_R_172 (hx : p.tables.exec = Jvm.exec) (hb : c.code = cc) (hts : ∀ w ∈ AW_, w.before args s = true) (hown : s.vm.findClass "StagedParsersModel" = some m.cls) (hK : va_K (dC, dI) cls_ (tyR cA) s) (hP : va_P (dC, dI) cls_ (wR q cA σ) H) (hdg : decode cc pc = .ok (.getfield 172, 3)) (kk : W p l e R s m args below meth c H locs cells slots Q (F0 m (pc + 3) ls (.int (σ 40 0) :: rest))) : W p l e R s m args below meth c H locs cells slots Q (F0 m pc ls (.ref (q 0) :: rest)) :=
  va_get (D := (dC, dI)) (cl := cls_) (ci := 7) (v := .int (σ 40 0)) (ws := wR q cA σ) (tys := tyR cA) (C := Rz_R) (T := Tz_R) (N := 34) hx hb hts uz_R hown hK hP 0 rfl rfl 27 (by decide) (hts _ kw_838) (fun _ h9 => h9) rfl hdg kk
theorem pf_R_172 (hx : p.tables.exec = Jvm.exec) (hb : c.code = cc) (hts : ∀ w ∈ AW_, w.before args s = true) (hown : s.vm.findClass "StagedParsersModel" = some m.cls) (hK : va_K (dC, dI) cls_ (tyR cA) s) (hP : va_P (dC, dI) cls_ (wR q cA σ) H) (hD : va_D A (wR q cA σ)) (hS : va_S A H0 H locs) {v : Int32} (hdg : decode cc pc = .ok (.putfield 172, 3)) (kk : ∀ (H1 : Heap) (locs1 : List Loc), va_P (dC, dI) cls_ (wR q cA (va_up σ 40 (fun _ => v))) H1 → va_S A H0 H1 locs1 → W p l e R s m args below meth c H1 locs1 cells slots Q (F0 m (pc + 3) ls rest)) : W p l e R s m args below meth c H locs cells slots Q (F0 m pc ls (.int v :: .ref (q 0) :: rest)) :=
  va_put (D := (dC, dI)) (cl := cls_) (ci := 7) (v := .int v) (ty := .int) (ws := wR q cA σ) (tys := tyR cA) (C := Rz_R) (T := Tz_R) (N := 34) hx hb hts uz_R tz_R tz_R_ok nz_R hown hK hP hD hS 0 rfl rfl 27 (by decide) (hts _ kw_838) (fun _ h9 => h9) rfl (by decide +kernel) rfl rfl (Nat.le_of_ble_eq_true rfl) hdg (fun H1 locs1 hP _ hS => kk H1 locs1 hP hS)
theorem gf_R_62 (hx : p.tables.exec = Jvm.exec) (hb : c.code = cc) (hts : ∀ w ∈ AW_, w.before args s = true) (hown : s.vm.findClass "StagedParsersModel" = some m.cls) (hK : va_K (dC, dI) cls_ (tyR cA) s) (hP : va_P (dC, dI) cls_ (wR q cA σ) H) (hdg : decode cc pc = .ok (.getfield 62, 3)) (kk : W p l e R s m args below meth c H locs cells slots Q (F0 m (pc + 3) ls (.ref (q 18) :: rest))) : W p l e R s m args below meth c H locs cells slots Q (F0 m pc ls (.ref (q 0) :: rest)) :=
  va_get (D := (dC, dI)) (cl := cls_) (ci := 7) (v := .ref (q 18)) (ws := wR q cA σ) (tys := tyR cA) (C := Rz_R) (T := Tz_R) (N := 34) hx hb hts uz_R hown hK hP 0 rfl rfl 30 (by decide) (hts _ kw_841) (fun _ h9 => h9) rfl hdg kk
end RW
def f_R_begin (σ : MZ_) (a1 : Int32) : Option (MZ_) :=
  gd_ a1 400 (gd_ a1 400 (st_ (va_up σ 13 (upd (σ 13) a1.toNatClampNeg 1)) fun σ1 => gd_ (σ 12 a1.toNatClampNeg) 80 (if (σ1 1 (σ 12 a1.toNatClampNeg).toNatClampNeg) = 0 then gd_ (σ 12 a1.toNatClampNeg) 80 ((f_R_succeed σ1 (σ1 2 (σ 12 a1.toNatClampNeg).toNatClampNeg)).bind fun u1 => some u1)
  else if (σ1 1 (σ 12 a1.toNatClampNeg).toNatClampNeg) = 1 then gd_ (σ 12 a1.toNatClampNeg) 80 (gd_ (σ 12 a1.toNatClampNeg) 80 ((f_R_looked σ1 (σ1 2 (σ 12 a1.toNatClampNeg).toNatClampNeg) (σ1 2 (σ 12 a1.toNatClampNeg).toNatClampNeg)).bind fun u2 => some u2))
  else if (σ1 1 (σ 12 a1.toNatClampNeg).toNatClampNeg) = 2 then gd_ (σ 12 a1.toNatClampNeg) 80 (gd_ (σ 12 a1.toNatClampNeg) 80 ((f_R_looked σ1 (σ1 2 (σ 12 a1.toNatClampNeg).toNatClampNeg) (σ1 3 (σ 12 a1.toNatClampNeg).toNatClampNeg)).bind fun u3 => some u3))
  else if (σ1 1 (σ 12 a1.toNatClampNeg).toNatClampNeg) = 3 then (f_R_fail σ1).bind fun u4 => some u4
  else if (σ1 1 (σ 12 a1.toNatClampNeg).toNatClampNeg) = 4 then gd_ (σ 12 a1.toNatClampNeg) 80 ((f_R_enter σ1 (σ1 2 (σ 12 a1.toNatClampNeg).toNatClampNeg)).bind fun u5 => some u5)
  else if (σ1 1 (σ 12 a1.toNatClampNeg).toNatClampNeg) = 5 then gd_ (σ 12 a1.toNatClampNeg) 80 ((f_R_enter σ1 (σ1 2 (σ 12 a1.toNatClampNeg).toNatClampNeg)).bind fun u6 => some u6)
  else if (σ1 1 (σ 12 a1.toNatClampNeg).toNatClampNeg) = 6 then gd_ (σ 12 a1.toNatClampNeg) 80 ((f_R_enter σ1 (σ1 2 (σ 12 a1.toNatClampNeg).toNatClampNeg)).bind fun u7 => some u7)
  else if (σ1 1 (σ 12 a1.toNatClampNeg).toNatClampNeg) = 7 then gd_ (σ 12 a1.toNatClampNeg) 80 ((f_R_enter σ1 (σ1 2 (σ 12 a1.toNatClampNeg).toNatClampNeg)).bind fun u8 => some u8)
  else if (σ1 1 (σ 12 a1.toNatClampNeg).toNatClampNeg) = 8 then gd_ (σ 12 a1.toNatClampNeg) 80 ((f_R_enter σ1 (σ1 2 (σ 12 a1.toNatClampNeg).toNatClampNeg)).bind fun u9 => some u9)
  else if (σ1 1 (σ 12 a1.toNatClampNeg).toNatClampNeg) = 9 then gd_ (σ 12 a1.toNatClampNeg) 80 ((f_R_enter σ1 (σ1 2 (σ 12 a1.toNatClampNeg).toNatClampNeg)).bind fun u10 => some u10)
  else if (σ1 1 (σ 12 a1.toNatClampNeg).toNatClampNeg) = 10 then gd_ (σ 12 a1.toNatClampNeg) 80 ((f_R_enter σ1 (σ1 2 (σ 12 a1.toNatClampNeg).toNatClampNeg)).bind fun u11 => some u11)
  else if (σ1 1 (σ 12 a1.toNatClampNeg).toNatClampNeg) = 11 then if (σ1 39 0) = 40 then st_ (va_up σ1 38 (fun _ => 1)) fun σ2 => st_ (va_up σ2 39 (fun _ => (σ2 39 0) + 1)) fun σ3 => st_ (va_up σ3 40 (fun _ => (σ3 40 0) + 1)) fun σ4 => gd_ (σ 12 a1.toNatClampNeg) 80 (gd_ (σ4 2 (σ 12 a1.toNatClampNeg).toNatClampNeg) 6 ((f_R_enter σ4 ((σ4 6 (σ4 2 (σ 12 a1.toNatClampNeg).toNatClampNeg).toNatClampNeg) - 1)).bind fun u12 => some u12))
    else if (σ1 40 0) = 300 then st_ (va_up σ1 38 (fun _ => 1)) fun σ8 => st_ (va_up σ8 39 (fun _ => (σ8 39 0) + 1)) fun σ9 => st_ (va_up σ9 40 (fun _ => (σ9 40 0) + 1)) fun σ10 => gd_ (σ 12 a1.toNatClampNeg) 80 (gd_ (σ10 2 (σ 12 a1.toNatClampNeg).toNatClampNeg) 6 ((f_R_enter σ10 ((σ10 6 (σ10 2 (σ 12 a1.toNatClampNeg).toNatClampNeg).toNatClampNeg) - 1)).bind fun u14 => some u14))
    else st_ (va_up σ1 38 (fun _ => 0)) fun σ5 => st_ (va_up σ5 39 (fun _ => (σ5 39 0) + 1)) fun σ6 => st_ (va_up σ6 40 (fun _ => (σ6 40 0) + 1)) fun σ7 => gd_ (σ 12 a1.toNatClampNeg) 80 (gd_ (σ7 2 (σ 12 a1.toNatClampNeg).toNatClampNeg) 6 ((f_R_enter σ7 ((σ7 6 (σ7 2 (σ 12 a1.toNatClampNeg).toNatClampNeg).toNatClampNeg) - 1)).bind fun u13 => some u13))
  else if (σ1 1 (σ 12 a1.toNatClampNeg).toNatClampNeg) = 12 then gd_ (σ 12 a1.toNatClampNeg) 80 ((f_R_enter σ1 (σ1 2 (σ 12 a1.toNatClampNeg).toNatClampNeg)).bind fun u15 => some u15)
  else if (σ1 1 (σ 12 a1.toNatClampNeg).toNatClampNeg) = 13 then gd_ (σ 12 a1.toNatClampNeg) 80 (gd_ (σ1 2 (σ 12 a1.toNatClampNeg).toNatClampNeg) 4 ((f_R_succeed σ1 (σ1 18 (σ1 2 (σ 12 a1.toNatClampNeg).toNatClampNeg).toNatClampNeg)).bind fun u16 => some u16))
  else gd_ (σ 12 a1.toNatClampNeg) 80 ((f_R_enter σ1 (σ1 2 (σ 12 a1.toNatClampNeg).toNatClampNeg)).bind fun u17 => some u17))))
set_option maxHeartbeats 4000000 in
set_option maxRecDepth 100000 in
theorem c_R_begin (l : Launch) (dC : Nat → ClassId) (dI : Nat → Nat → Nat) (q : Nat → Nat) (cA : Nat → ClassId) (σ : MZ_) (a1 : Int32) (u : MZ_) (h : f_R_begin σ a1 = some u) : Met l y_R_begin w_R_begin rm_R_begin (va_Pc [.ref (q 0), .int a1] (PRx_ dC dI q cA σ)) (QW_ none (fun H => va_P (dC, dI) cls_ (wR q cA u) H) (AR q)) 0 0 (AR q) := by
  refine Met.ofW (cc := prog_9_method_33_code) (maxL := 3) (ret := none) (by decide) rfl ?_
  intro p e s m args below meth c s₁ B hml hv
  obtain ⟨rfl, hP, hK, hD, hN, hZ⟩ := hv
  have hx := B.exec
  have hb := B.bytes
  have hr := B.returns
  have hts : ∀ w ∈ AW_, w.before _ s = true := fun w h => atoms_spec (ws := w_R_begin) B.pre w (List.mem_cons_of_mem _ h)
  have hown : s.vm.findClass "StagedParsersModel" = some m.cls := findClass_of_methodNamed B.named
  have hlocks := B.notSynchronized
  have hS : va_S (AR q) s.heap s.heap [] := va_S.rf
  have hl := lv_entry ([.ref (q 0), .int a1]) (n := 3) (Nat.le_of_ble_eq_true rfl)
  rw [lg_entry_eq]
  generalize (lg_sl ([.ref (q 0), .int a1]) ++ List.replicate (3 - (lg_sl ([.ref (q 0), .int a1])).length) Slot.unset).toArray = ls at hl ⊢
  have hl : lv_has ls 3 [(0, .ref (q 0)), (1, .int a1)] := hl
  rw [f_R_begin] at h
  refine lv_aload_n hx hb d_R_begin_0 rfl (lv_at hl 0 rfl) ?_
  refine gf_R_44 hx hb hts hown hK hP d_R_begin_1 ?_
  refine lv_iload_n hx hb d_R_begin_4 rfl (lv_at hl 1 rfl) ?_
  obtain ⟨hgd, h⟩ := gd_some h
  refine al_R_12 hx hb hK hP hgd d_R_begin_5 ?_
  refine lv_istore_n hx hb d_R_begin_6 rfl hl (by decide) rfl (fun ls hl => ?_)
  have hl : lv_has ls 3 [(2, .int (σ 12 a1.toNatClampNeg)), (0, .ref (q 0)), (1, .int a1)] := hl
  refine lv_aload_n hx hb d_R_begin_7 rfl (lv_at hl 1 rfl) ?_
  refine gf_R_47 hx hb hts hown hK hP d_R_begin_8 ?_
  refine lv_iload_n hx hb d_R_begin_11 rfl (lv_at hl 2 rfl) ?_
  refine lv_iconst (v := 1) hx hb d_R_begin_12 (by decide) ?_
  obtain ⟨hgd, h⟩ := gd_some h
  refine as_R_13 hx hb hK hP hD hS hgd d_R_begin_13 (fun H locs hP hS => ?_)
  obtain ⟨σ1, eσ1, h⟩ := st_some h
  rw [← eσ1] at hP
  have hD : va_D (AR q) (wR q cA σ1) := dd_re (wR_f _ _ _ _) hD
  refine lv_aload_n hx hb d_R_begin_14 rfl (lv_at hl 1 rfl) ?_
  refine gf_R_7 hx hb hts hown hK hP d_R_begin_15 ?_
  refine lv_iload_n hx hb d_R_begin_18 rfl (lv_at hl 0 rfl) ?_
  obtain ⟨hgd, h⟩ := gd_some h
  refine al_R_1 hx hb hK hP hgd d_R_begin_19 ?_
  by_cases hc0 : (σ1 1 (σ 12 a1.toNatClampNeg).toNatClampNeg) = 0
  · have h := if_t hc0 h
    refine sw_in (tgt := 92) hx hb d_R_begin_20 hc0 (by decide) (by decide) rfl rfl ?_
    refine lv_aload_n hx hb d_R_begin_92 rfl (lv_at hl 1 rfl) ?_
    refine lv_aload_n hx hb d_R_begin_93 rfl (lv_at hl 1 rfl) ?_
    refine gf_R_13 hx hb hts hown hK hP d_R_begin_94 ?_
    refine lv_iload_n hx hb d_R_begin_97 rfl (lv_at hl 0 rfl) ?_
    obtain ⟨hgd, h⟩ := gd_some h
    refine al_R_2 hx hb hK hP hgd d_R_begin_98 ?_
    obtain ⟨u1, hcl, h⟩ := bd_some h
    refine cx_wrv (va_runV (As := [.int (σ1 2 (σ 12 a1.toNatClampNeg).toNatClampNeg)]) (rest := []) ⟨hx, hb, hml, hown, hts⟩ (c_R_succeed l dC dI q cA σ1 (σ1 2 (σ 12 a1.toNatClampNeg).toNatClampNeg) _ hcl) (cw_R_156 hts ⟨Nat.le_of_ble_eq_true rfl, Nat.le_of_ble_eq_true rfl⟩) ⟨pxR_B, va_recv hK hP (ci := 7) (q0 := 0) rfl rfl, pxR_U hP hK hD hN hZ hS⟩ rfl rfl hl.1 rfl (lv_room (Nat.le_of_ble_eq_true rfl)) d_R_begin_99 ⟨Nat.zero_le _, Nat.zero_le _⟩) hS (fun _ h => h) (fun H locs hP hS => ?_)
    have hD : va_D (AR q) (wR q cA u1) := dd_re (wR_f _ _ _ _) hD
    obtain rfl := Option.some.inj h
    exact W.vret hx hb hr (fun t ht hW => ⟨rfl, by rw [ht]; exact hP, hS.F ht⟩) hS.2.2 d_R_begin_102
  have h := if_f hc0 h
  by_cases hc1 : (σ1 1 (σ 12 a1.toNatClampNeg).toNatClampNeg) = 1
  · have h := if_t hc1 h
    refine sw_in (tgt := 103) hx hb d_R_begin_20 hc1 (by decide) (by decide) rfl rfl ?_
    refine lv_aload_n hx hb d_R_begin_103 rfl (lv_at hl 1 rfl) ?_
    refine lv_aload_n hx hb d_R_begin_104 rfl (lv_at hl 1 rfl) ?_
    refine gf_R_13 hx hb hts hown hK hP d_R_begin_105 ?_
    refine lv_iload_n hx hb d_R_begin_108 rfl (lv_at hl 0 rfl) ?_
    obtain ⟨hgd, h⟩ := gd_some h
    refine al_R_2 hx hb hK hP hgd d_R_begin_109 ?_
    refine lv_aload_n hx hb d_R_begin_110 rfl (lv_at hl 1 rfl) ?_
    refine gf_R_13 hx hb hts hown hK hP d_R_begin_111 ?_
    refine lv_iload_n hx hb d_R_begin_114 rfl (lv_at hl 0 rfl) ?_
    obtain ⟨hgd, h⟩ := gd_some h
    refine al_R_2 hx hb hK hP hgd d_R_begin_115 ?_
    obtain ⟨u2, hcl, h⟩ := bd_some h
    refine cx_wrv (va_runV (As := [.int (σ1 2 (σ 12 a1.toNatClampNeg).toNatClampNeg), .int (σ1 2 (σ 12 a1.toNatClampNeg).toNatClampNeg)]) (rest := []) ⟨hx, hb, hml, hown, hts⟩ (c_R_looked l dC dI q cA σ1 (σ1 2 (σ 12 a1.toNatClampNeg).toNatClampNeg) (σ1 2 (σ 12 a1.toNatClampNeg).toNatClampNeg) _ hcl) (cw_R_165 hts ⟨Nat.le_of_ble_eq_true rfl, Nat.le_of_ble_eq_true rfl⟩) ⟨pxR_B, va_recv hK hP (ci := 7) (q0 := 0) rfl rfl, pxR_U hP hK hD hN hZ hS⟩ rfl rfl hl.1 rfl (lv_room (Nat.le_of_ble_eq_true rfl)) d_R_begin_116 ⟨Nat.zero_le _, Nat.zero_le _⟩) hS (fun _ h => h) (fun H locs hP hS => ?_)
    have hD : va_D (AR q) (wR q cA u2) := dd_re (wR_f _ _ _ _) hD
    obtain rfl := Option.some.inj h
    exact W.vret hx hb hr (fun t ht hW => ⟨rfl, by rw [ht]; exact hP, hS.F ht⟩) hS.2.2 d_R_begin_119
  have h := if_f hc1 h
  by_cases hc2 : (σ1 1 (σ 12 a1.toNatClampNeg).toNatClampNeg) = 2
  · have h := if_t hc2 h
    refine sw_in (tgt := 120) hx hb d_R_begin_20 hc2 (by decide) (by decide) rfl rfl ?_
    refine lv_aload_n hx hb d_R_begin_120 rfl (lv_at hl 1 rfl) ?_
    refine lv_aload_n hx hb d_R_begin_121 rfl (lv_at hl 1 rfl) ?_
    refine gf_R_13 hx hb hts hown hK hP d_R_begin_122 ?_
    refine lv_iload_n hx hb d_R_begin_125 rfl (lv_at hl 0 rfl) ?_
    obtain ⟨hgd, h⟩ := gd_some h
    refine al_R_2 hx hb hK hP hgd d_R_begin_126 ?_
    refine lv_aload_n hx hb d_R_begin_127 rfl (lv_at hl 1 rfl) ?_
    refine gf_R_16 hx hb hts hown hK hP d_R_begin_128 ?_
    refine lv_iload_n hx hb d_R_begin_131 rfl (lv_at hl 0 rfl) ?_
    obtain ⟨hgd, h⟩ := gd_some h
    refine al_R_3 hx hb hK hP hgd d_R_begin_132 ?_
    obtain ⟨u3, hcl, h⟩ := bd_some h
    refine cx_wrv (va_runV (As := [.int (σ1 2 (σ 12 a1.toNatClampNeg).toNatClampNeg), .int (σ1 3 (σ 12 a1.toNatClampNeg).toNatClampNeg)]) (rest := []) ⟨hx, hb, hml, hown, hts⟩ (c_R_looked l dC dI q cA σ1 (σ1 2 (σ 12 a1.toNatClampNeg).toNatClampNeg) (σ1 3 (σ 12 a1.toNatClampNeg).toNatClampNeg) _ hcl) (cw_R_165 hts ⟨Nat.le_of_ble_eq_true rfl, Nat.le_of_ble_eq_true rfl⟩) ⟨pxR_B, va_recv hK hP (ci := 7) (q0 := 0) rfl rfl, pxR_U hP hK hD hN hZ hS⟩ rfl rfl hl.1 rfl (lv_room (Nat.le_of_ble_eq_true rfl)) d_R_begin_133 ⟨Nat.zero_le _, Nat.zero_le _⟩) hS (fun _ h => h) (fun H locs hP hS => ?_)
    have hD : va_D (AR q) (wR q cA u3) := dd_re (wR_f _ _ _ _) hD
    obtain rfl := Option.some.inj h
    exact W.vret hx hb hr (fun t ht hW => ⟨rfl, by rw [ht]; exact hP, hS.F ht⟩) hS.2.2 d_R_begin_136
  have h := if_f hc2 h
  by_cases hc3 : (σ1 1 (σ 12 a1.toNatClampNeg).toNatClampNeg) = 3
  · have h := if_t hc3 h
    refine sw_in (tgt := 137) hx hb d_R_begin_20 hc3 (by decide) (by decide) rfl rfl ?_
    refine lv_aload_n hx hb d_R_begin_137 rfl (lv_at hl 1 rfl) ?_
    obtain ⟨u4, hcl, h⟩ := bd_some h
    refine cx_wrv (va_runV (As := []) (rest := []) ⟨hx, hb, hml, hown, hts⟩ (c_R_fail l dC dI q cA σ1 _ hcl) (cw_R_162 hts ⟨Nat.le_of_ble_eq_true rfl, Nat.le_of_ble_eq_true rfl⟩) ⟨pxR_B, va_recv hK hP (ci := 7) (q0 := 0) rfl rfl, pxR_U hP hK hD hN hZ hS⟩ rfl rfl hl.1 rfl (lv_room (Nat.le_of_ble_eq_true rfl)) d_R_begin_138 ⟨Nat.zero_le _, Nat.zero_le _⟩) hS (fun _ h => h) (fun H locs hP hS => ?_)
    have hD : va_D (AR q) (wR q cA u4) := dd_re (wR_f _ _ _ _) hD
    obtain rfl := Option.some.inj h
    exact W.vret hx hb hr (fun t ht hW => ⟨rfl, by rw [ht]; exact hP, hS.F ht⟩) hS.2.2 d_R_begin_141
  have h := if_f hc3 h
  by_cases hc4 : (σ1 1 (σ 12 a1.toNatClampNeg).toNatClampNeg) = 4
  · have h := if_t hc4 h
    refine sw_in (tgt := 224) hx hb d_R_begin_20 hc4 (by decide) (by decide) rfl rfl ?_
    refine lv_aload_n hx hb d_R_begin_224 rfl (lv_at hl 1 rfl) ?_
    refine lv_aload_n hx hb d_R_begin_225 rfl (lv_at hl 1 rfl) ?_
    refine gf_R_13 hx hb hts hown hK hP d_R_begin_226 ?_
    refine lv_iload_n hx hb d_R_begin_229 rfl (lv_at hl 0 rfl) ?_
    obtain ⟨hgd, h⟩ := gd_some h
    refine al_R_2 hx hb hK hP hgd d_R_begin_230 ?_
    obtain ⟨u5, hcl, h⟩ := bd_some h
    refine cx_wrv (va_runV (As := [.int (σ1 2 (σ 12 a1.toNatClampNeg).toNatClampNeg)]) (rest := []) ⟨hx, hb, hml, hown, hts⟩ (c_R_enter l dC dI q cA σ1 (σ1 2 (σ 12 a1.toNatClampNeg).toNatClampNeg) _ hcl) (cw_R_175 hts ⟨Nat.le_of_ble_eq_true rfl, Nat.le_of_ble_eq_true rfl⟩) ⟨pxR_B, va_recv hK hP (ci := 7) (q0 := 0) rfl rfl, pxR_U hP hK hD hN hZ hS⟩ rfl rfl hl.1 rfl (lv_room (Nat.le_of_ble_eq_true rfl)) d_R_begin_231 ⟨Nat.zero_le _, Nat.zero_le _⟩) hS (fun _ h => h) (fun H locs hP hS => ?_)
    have hD : va_D (AR q) (wR q cA u5) := dd_re (wR_f _ _ _ _) hD
    obtain rfl := Option.some.inj h
    exact W.vret hx hb hr (fun t ht hW => ⟨rfl, by rw [ht]; exact hP, hS.F ht⟩) hS.2.2 d_R_begin_234
  have h := if_f hc4 h
  by_cases hc5 : (σ1 1 (σ 12 a1.toNatClampNeg).toNatClampNeg) = 5
  · have h := if_t hc5 h
    refine sw_in (tgt := 224) hx hb d_R_begin_20 hc5 (by decide) (by decide) rfl rfl ?_
    refine lv_aload_n hx hb d_R_begin_224 rfl (lv_at hl 1 rfl) ?_
    refine lv_aload_n hx hb d_R_begin_225 rfl (lv_at hl 1 rfl) ?_
    refine gf_R_13 hx hb hts hown hK hP d_R_begin_226 ?_
    refine lv_iload_n hx hb d_R_begin_229 rfl (lv_at hl 0 rfl) ?_
    obtain ⟨hgd, h⟩ := gd_some h
    refine al_R_2 hx hb hK hP hgd d_R_begin_230 ?_
    obtain ⟨u6, hcl, h⟩ := bd_some h
    refine cx_wrv (va_runV (As := [.int (σ1 2 (σ 12 a1.toNatClampNeg).toNatClampNeg)]) (rest := []) ⟨hx, hb, hml, hown, hts⟩ (c_R_enter l dC dI q cA σ1 (σ1 2 (σ 12 a1.toNatClampNeg).toNatClampNeg) _ hcl) (cw_R_175 hts ⟨Nat.le_of_ble_eq_true rfl, Nat.le_of_ble_eq_true rfl⟩) ⟨pxR_B, va_recv hK hP (ci := 7) (q0 := 0) rfl rfl, pxR_U hP hK hD hN hZ hS⟩ rfl rfl hl.1 rfl (lv_room (Nat.le_of_ble_eq_true rfl)) d_R_begin_231 ⟨Nat.zero_le _, Nat.zero_le _⟩) hS (fun _ h => h) (fun H locs hP hS => ?_)
    have hD : va_D (AR q) (wR q cA u6) := dd_re (wR_f _ _ _ _) hD
    obtain rfl := Option.some.inj h
    exact W.vret hx hb hr (fun t ht hW => ⟨rfl, by rw [ht]; exact hP, hS.F ht⟩) hS.2.2 d_R_begin_234
  have h := if_f hc5 h
  by_cases hc6 : (σ1 1 (σ 12 a1.toNatClampNeg).toNatClampNeg) = 6
  · have h := if_t hc6 h
    refine sw_in (tgt := 224) hx hb d_R_begin_20 hc6 (by decide) (by decide) rfl rfl ?_
    refine lv_aload_n hx hb d_R_begin_224 rfl (lv_at hl 1 rfl) ?_
    refine lv_aload_n hx hb d_R_begin_225 rfl (lv_at hl 1 rfl) ?_
    refine gf_R_13 hx hb hts hown hK hP d_R_begin_226 ?_
    refine lv_iload_n hx hb d_R_begin_229 rfl (lv_at hl 0 rfl) ?_
    obtain ⟨hgd, h⟩ := gd_some h
    refine al_R_2 hx hb hK hP hgd d_R_begin_230 ?_
    obtain ⟨u7, hcl, h⟩ := bd_some h
    refine cx_wrv (va_runV (As := [.int (σ1 2 (σ 12 a1.toNatClampNeg).toNatClampNeg)]) (rest := []) ⟨hx, hb, hml, hown, hts⟩ (c_R_enter l dC dI q cA σ1 (σ1 2 (σ 12 a1.toNatClampNeg).toNatClampNeg) _ hcl) (cw_R_175 hts ⟨Nat.le_of_ble_eq_true rfl, Nat.le_of_ble_eq_true rfl⟩) ⟨pxR_B, va_recv hK hP (ci := 7) (q0 := 0) rfl rfl, pxR_U hP hK hD hN hZ hS⟩ rfl rfl hl.1 rfl (lv_room (Nat.le_of_ble_eq_true rfl)) d_R_begin_231 ⟨Nat.zero_le _, Nat.zero_le _⟩) hS (fun _ h => h) (fun H locs hP hS => ?_)
    have hD : va_D (AR q) (wR q cA u7) := dd_re (wR_f _ _ _ _) hD
    obtain rfl := Option.some.inj h
    exact W.vret hx hb hr (fun t ht hW => ⟨rfl, by rw [ht]; exact hP, hS.F ht⟩) hS.2.2 d_R_begin_234
  have h := if_f hc6 h
  by_cases hc7 : (σ1 1 (σ 12 a1.toNatClampNeg).toNatClampNeg) = 7
  · have h := if_t hc7 h
    refine sw_in (tgt := 224) hx hb d_R_begin_20 hc7 (by decide) (by decide) rfl rfl ?_
    refine lv_aload_n hx hb d_R_begin_224 rfl (lv_at hl 1 rfl) ?_
    refine lv_aload_n hx hb d_R_begin_225 rfl (lv_at hl 1 rfl) ?_
    refine gf_R_13 hx hb hts hown hK hP d_R_begin_226 ?_
    refine lv_iload_n hx hb d_R_begin_229 rfl (lv_at hl 0 rfl) ?_
    obtain ⟨hgd, h⟩ := gd_some h
    refine al_R_2 hx hb hK hP hgd d_R_begin_230 ?_
    obtain ⟨u8, hcl, h⟩ := bd_some h
    refine cx_wrv (va_runV (As := [.int (σ1 2 (σ 12 a1.toNatClampNeg).toNatClampNeg)]) (rest := []) ⟨hx, hb, hml, hown, hts⟩ (c_R_enter l dC dI q cA σ1 (σ1 2 (σ 12 a1.toNatClampNeg).toNatClampNeg) _ hcl) (cw_R_175 hts ⟨Nat.le_of_ble_eq_true rfl, Nat.le_of_ble_eq_true rfl⟩) ⟨pxR_B, va_recv hK hP (ci := 7) (q0 := 0) rfl rfl, pxR_U hP hK hD hN hZ hS⟩ rfl rfl hl.1 rfl (lv_room (Nat.le_of_ble_eq_true rfl)) d_R_begin_231 ⟨Nat.zero_le _, Nat.zero_le _⟩) hS (fun _ h => h) (fun H locs hP hS => ?_)
    have hD : va_D (AR q) (wR q cA u8) := dd_re (wR_f _ _ _ _) hD
    obtain rfl := Option.some.inj h
    exact W.vret hx hb hr (fun t ht hW => ⟨rfl, by rw [ht]; exact hP, hS.F ht⟩) hS.2.2 d_R_begin_234
  have h := if_f hc7 h
  by_cases hc8 : (σ1 1 (σ 12 a1.toNatClampNeg).toNatClampNeg) = 8
  · have h := if_t hc8 h
    refine sw_in (tgt := 224) hx hb d_R_begin_20 hc8 (by decide) (by decide) rfl rfl ?_
    refine lv_aload_n hx hb d_R_begin_224 rfl (lv_at hl 1 rfl) ?_
    refine lv_aload_n hx hb d_R_begin_225 rfl (lv_at hl 1 rfl) ?_
    refine gf_R_13 hx hb hts hown hK hP d_R_begin_226 ?_
    refine lv_iload_n hx hb d_R_begin_229 rfl (lv_at hl 0 rfl) ?_
    obtain ⟨hgd, h⟩ := gd_some h
    refine al_R_2 hx hb hK hP hgd d_R_begin_230 ?_
    obtain ⟨u9, hcl, h⟩ := bd_some h
    refine cx_wrv (va_runV (As := [.int (σ1 2 (σ 12 a1.toNatClampNeg).toNatClampNeg)]) (rest := []) ⟨hx, hb, hml, hown, hts⟩ (c_R_enter l dC dI q cA σ1 (σ1 2 (σ 12 a1.toNatClampNeg).toNatClampNeg) _ hcl) (cw_R_175 hts ⟨Nat.le_of_ble_eq_true rfl, Nat.le_of_ble_eq_true rfl⟩) ⟨pxR_B, va_recv hK hP (ci := 7) (q0 := 0) rfl rfl, pxR_U hP hK hD hN hZ hS⟩ rfl rfl hl.1 rfl (lv_room (Nat.le_of_ble_eq_true rfl)) d_R_begin_231 ⟨Nat.zero_le _, Nat.zero_le _⟩) hS (fun _ h => h) (fun H locs hP hS => ?_)
    have hD : va_D (AR q) (wR q cA u9) := dd_re (wR_f _ _ _ _) hD
    obtain rfl := Option.some.inj h
    exact W.vret hx hb hr (fun t ht hW => ⟨rfl, by rw [ht]; exact hP, hS.F ht⟩) hS.2.2 d_R_begin_234
  have h := if_f hc8 h
  by_cases hc9 : (σ1 1 (σ 12 a1.toNatClampNeg).toNatClampNeg) = 9
  · have h := if_t hc9 h
    refine sw_in (tgt := 224) hx hb d_R_begin_20 hc9 (by decide) (by decide) rfl rfl ?_
    refine lv_aload_n hx hb d_R_begin_224 rfl (lv_at hl 1 rfl) ?_
    refine lv_aload_n hx hb d_R_begin_225 rfl (lv_at hl 1 rfl) ?_
    refine gf_R_13 hx hb hts hown hK hP d_R_begin_226 ?_
    refine lv_iload_n hx hb d_R_begin_229 rfl (lv_at hl 0 rfl) ?_
    obtain ⟨hgd, h⟩ := gd_some h
    refine al_R_2 hx hb hK hP hgd d_R_begin_230 ?_
    obtain ⟨u10, hcl, h⟩ := bd_some h
    refine cx_wrv (va_runV (As := [.int (σ1 2 (σ 12 a1.toNatClampNeg).toNatClampNeg)]) (rest := []) ⟨hx, hb, hml, hown, hts⟩ (c_R_enter l dC dI q cA σ1 (σ1 2 (σ 12 a1.toNatClampNeg).toNatClampNeg) _ hcl) (cw_R_175 hts ⟨Nat.le_of_ble_eq_true rfl, Nat.le_of_ble_eq_true rfl⟩) ⟨pxR_B, va_recv hK hP (ci := 7) (q0 := 0) rfl rfl, pxR_U hP hK hD hN hZ hS⟩ rfl rfl hl.1 rfl (lv_room (Nat.le_of_ble_eq_true rfl)) d_R_begin_231 ⟨Nat.zero_le _, Nat.zero_le _⟩) hS (fun _ h => h) (fun H locs hP hS => ?_)
    have hD : va_D (AR q) (wR q cA u10) := dd_re (wR_f _ _ _ _) hD
    obtain rfl := Option.some.inj h
    exact W.vret hx hb hr (fun t ht hW => ⟨rfl, by rw [ht]; exact hP, hS.F ht⟩) hS.2.2 d_R_begin_234
  have h := if_f hc9 h
  by_cases hc10 : (σ1 1 (σ 12 a1.toNatClampNeg).toNatClampNeg) = 10
  · have h := if_t hc10 h
    refine sw_in (tgt := 224) hx hb d_R_begin_20 hc10 (by decide) (by decide) rfl rfl ?_
    refine lv_aload_n hx hb d_R_begin_224 rfl (lv_at hl 1 rfl) ?_
    refine lv_aload_n hx hb d_R_begin_225 rfl (lv_at hl 1 rfl) ?_
    refine gf_R_13 hx hb hts hown hK hP d_R_begin_226 ?_
    refine lv_iload_n hx hb d_R_begin_229 rfl (lv_at hl 0 rfl) ?_
    obtain ⟨hgd, h⟩ := gd_some h
    refine al_R_2 hx hb hK hP hgd d_R_begin_230 ?_
    obtain ⟨u11, hcl, h⟩ := bd_some h
    refine cx_wrv (va_runV (As := [.int (σ1 2 (σ 12 a1.toNatClampNeg).toNatClampNeg)]) (rest := []) ⟨hx, hb, hml, hown, hts⟩ (c_R_enter l dC dI q cA σ1 (σ1 2 (σ 12 a1.toNatClampNeg).toNatClampNeg) _ hcl) (cw_R_175 hts ⟨Nat.le_of_ble_eq_true rfl, Nat.le_of_ble_eq_true rfl⟩) ⟨pxR_B, va_recv hK hP (ci := 7) (q0 := 0) rfl rfl, pxR_U hP hK hD hN hZ hS⟩ rfl rfl hl.1 rfl (lv_room (Nat.le_of_ble_eq_true rfl)) d_R_begin_231 ⟨Nat.zero_le _, Nat.zero_le _⟩) hS (fun _ h => h) (fun H locs hP hS => ?_)
    have hD : va_D (AR q) (wR q cA u11) := dd_re (wR_f _ _ _ _) hD
    obtain rfl := Option.some.inj h
    exact W.vret hx hb hr (fun t ht hW => ⟨rfl, by rw [ht]; exact hP, hS.F ht⟩) hS.2.2 d_R_begin_234
  have h := if_f hc10 h
  by_cases hc11 : (σ1 1 (σ 12 a1.toNatClampNeg).toNatClampNeg) = 11
  · have h := if_t hc11 h
    refine sw_in (tgt := 158) hx hb d_R_begin_20 hc11 (by decide) (by decide) rfl rfl ?_
    refine lv_aload_n hx hb d_R_begin_158 rfl (lv_at hl 1 rfl) ?_
    refine lv_aload_n hx hb d_R_begin_159 rfl (lv_at hl 1 rfl) ?_
    refine gf_R_169 hx hb hts hown hK hP d_R_begin_160 ?_
    refine lv_bipush (v := 40) hx hb d_R_begin_163 (by decide) ?_
    refine lv_icmp_eq (tgt := 178) hx hb d_R_begin_165 rfl (fun hc => ?_) (fun hc => ?_)
    · have h := if_t hc h
      refine lv_iconst (v := 1) hx hb d_R_begin_178 (by decide) ?_
      refine lv_goto (tgt := 183) hx hb d_R_begin_179 rfl ?_
      refine pf_R_153 hx hb hts hown hK hP hD hS (Or.inr rfl) d_R_begin_183 (fun H locs hP hS => ?_)
      obtain ⟨σ2, eσ2, h⟩ := st_some h
      rw [← eσ2] at hP
      have hD : va_D (AR q) (wR q cA σ2) := dd_re (wR_f _ _ _ _) hD
      refine lv_aload_n hx hb d_R_begin_186 rfl (lv_at hl 1 rfl) ?_
      refine lv_dup hx hb d_R_begin_187 rfl ?_
      refine gf_R_169 hx hb hts hown hK hP d_R_begin_188 ?_
      refine lv_iconst (v := 1) hx hb d_R_begin_191 (by decide) ?_
      refine lv_iadd hx hb d_R_begin_192 ?_
      refine pf_R_169 hx hb hts hown hK hP hD hS d_R_begin_193 (fun H locs hP hS => ?_)
      obtain ⟨σ3, eσ3, h⟩ := st_some h
      rw [← eσ3] at hP
      have hD : va_D (AR q) (wR q cA σ3) := dd_re (wR_f _ _ _ _) hD
      refine lv_aload_n hx hb d_R_begin_196 rfl (lv_at hl 1 rfl) ?_
      refine lv_dup hx hb d_R_begin_197 rfl ?_
      refine gf_R_172 hx hb hts hown hK hP d_R_begin_198 ?_
      refine lv_iconst (v := 1) hx hb d_R_begin_201 (by decide) ?_
      refine lv_iadd hx hb d_R_begin_202 ?_
      refine pf_R_172 hx hb hts hown hK hP hD hS d_R_begin_203 (fun H locs hP hS => ?_)
      obtain ⟨σ4, eσ4, h⟩ := st_some h
      rw [← eσ4] at hP
      have hD : va_D (AR q) (wR q cA σ4) := dd_re (wR_f _ _ _ _) hD
      refine lv_aload_n hx hb d_R_begin_206 rfl (lv_at hl 1 rfl) ?_
      refine lv_aload_n hx hb d_R_begin_207 rfl (lv_at hl 1 rfl) ?_
      refine gf_R_25 hx hb hts hown hK hP d_R_begin_208 ?_
      refine lv_aload_n hx hb d_R_begin_211 rfl (lv_at hl 1 rfl) ?_
      refine gf_R_13 hx hb hts hown hK hP d_R_begin_212 ?_
      refine lv_iload_n hx hb d_R_begin_215 rfl (lv_at hl 0 rfl) ?_
      obtain ⟨hgd, h⟩ := gd_some h
      refine al_R_2 hx hb hK hP hgd d_R_begin_216 ?_
      obtain ⟨hgd, h⟩ := gd_some h
      refine al_R_6 hx hb hK hP hgd d_R_begin_217 ?_
      refine lv_iconst (v := 1) hx hb d_R_begin_218 (by decide) ?_
      refine lv_isub hx hb d_R_begin_219 ?_
      obtain ⟨u12, hcl, h⟩ := bd_some h
      refine cx_wrv (va_runV (As := [.int ((σ4 6 (σ4 2 (σ 12 a1.toNatClampNeg).toNatClampNeg).toNatClampNeg) - 1)]) (rest := []) ⟨hx, hb, hml, hown, hts⟩ (c_R_enter l dC dI q cA σ4 ((σ4 6 (σ4 2 (σ 12 a1.toNatClampNeg).toNatClampNeg).toNatClampNeg) - 1) _ hcl) (cw_R_175 hts ⟨Nat.le_of_ble_eq_true rfl, Nat.le_of_ble_eq_true rfl⟩) ⟨pxR_B, va_recv hK hP (ci := 7) (q0 := 0) rfl rfl, pxR_U hP hK hD hN hZ hS⟩ rfl rfl hl.1 rfl (lv_room (Nat.le_of_ble_eq_true rfl)) d_R_begin_220 ⟨Nat.zero_le _, Nat.zero_le _⟩) hS (fun _ h => h) (fun H locs hP hS => ?_)
      have hD : va_D (AR q) (wR q cA u12) := dd_re (wR_f _ _ _ _) hD
      obtain rfl := Option.some.inj h
      exact W.vret hx hb hr (fun t ht hW => ⟨rfl, by rw [ht]; exact hP, hS.F ht⟩) hS.2.2 d_R_begin_223
    · have h := if_f hc h
      refine lv_aload_n hx hb d_R_begin_168 rfl (lv_at hl 1 rfl) ?_
      refine gf_R_172 hx hb hts hown hK hP d_R_begin_169 ?_
      refine lv_sipush (v := 300) hx hb d_R_begin_172 (by decide) ?_
      refine lv_icmp_ne (tgt := 182) hx hb d_R_begin_175 rfl (fun hc => ?_) (fun hc => ?_)
      · have h := if_f hc h
        refine lv_iconst (v := 0) hx hb d_R_begin_182 (by decide) ?_
        refine pf_R_153 hx hb hts hown hK hP hD hS (Or.inl rfl) d_R_begin_183 (fun H locs hP hS => ?_)
        obtain ⟨σ5, eσ5, h⟩ := st_some h
        rw [← eσ5] at hP
        have hD : va_D (AR q) (wR q cA σ5) := dd_re (wR_f _ _ _ _) hD
        refine lv_aload_n hx hb d_R_begin_186 rfl (lv_at hl 1 rfl) ?_
        refine lv_dup hx hb d_R_begin_187 rfl ?_
        refine gf_R_169 hx hb hts hown hK hP d_R_begin_188 ?_
        refine lv_iconst (v := 1) hx hb d_R_begin_191 (by decide) ?_
        refine lv_iadd hx hb d_R_begin_192 ?_
        refine pf_R_169 hx hb hts hown hK hP hD hS d_R_begin_193 (fun H locs hP hS => ?_)
        obtain ⟨σ6, eσ6, h⟩ := st_some h
        rw [← eσ6] at hP
        have hD : va_D (AR q) (wR q cA σ6) := dd_re (wR_f _ _ _ _) hD
        refine lv_aload_n hx hb d_R_begin_196 rfl (lv_at hl 1 rfl) ?_
        refine lv_dup hx hb d_R_begin_197 rfl ?_
        refine gf_R_172 hx hb hts hown hK hP d_R_begin_198 ?_
        refine lv_iconst (v := 1) hx hb d_R_begin_201 (by decide) ?_
        refine lv_iadd hx hb d_R_begin_202 ?_
        refine pf_R_172 hx hb hts hown hK hP hD hS d_R_begin_203 (fun H locs hP hS => ?_)
        obtain ⟨σ7, eσ7, h⟩ := st_some h
        rw [← eσ7] at hP
        have hD : va_D (AR q) (wR q cA σ7) := dd_re (wR_f _ _ _ _) hD
        refine lv_aload_n hx hb d_R_begin_206 rfl (lv_at hl 1 rfl) ?_
        refine lv_aload_n hx hb d_R_begin_207 rfl (lv_at hl 1 rfl) ?_
        refine gf_R_25 hx hb hts hown hK hP d_R_begin_208 ?_
        refine lv_aload_n hx hb d_R_begin_211 rfl (lv_at hl 1 rfl) ?_
        refine gf_R_13 hx hb hts hown hK hP d_R_begin_212 ?_
        refine lv_iload_n hx hb d_R_begin_215 rfl (lv_at hl 0 rfl) ?_
        obtain ⟨hgd, h⟩ := gd_some h
        refine al_R_2 hx hb hK hP hgd d_R_begin_216 ?_
        obtain ⟨hgd, h⟩ := gd_some h
        refine al_R_6 hx hb hK hP hgd d_R_begin_217 ?_
        refine lv_iconst (v := 1) hx hb d_R_begin_218 (by decide) ?_
        refine lv_isub hx hb d_R_begin_219 ?_
        obtain ⟨u13, hcl, h⟩ := bd_some h
        refine cx_wrv (va_runV (As := [.int ((σ7 6 (σ7 2 (σ 12 a1.toNatClampNeg).toNatClampNeg).toNatClampNeg) - 1)]) (rest := []) ⟨hx, hb, hml, hown, hts⟩ (c_R_enter l dC dI q cA σ7 ((σ7 6 (σ7 2 (σ 12 a1.toNatClampNeg).toNatClampNeg).toNatClampNeg) - 1) _ hcl) (cw_R_175 hts ⟨Nat.le_of_ble_eq_true rfl, Nat.le_of_ble_eq_true rfl⟩) ⟨pxR_B, va_recv hK hP (ci := 7) (q0 := 0) rfl rfl, pxR_U hP hK hD hN hZ hS⟩ rfl rfl hl.1 rfl (lv_room (Nat.le_of_ble_eq_true rfl)) d_R_begin_220 ⟨Nat.zero_le _, Nat.zero_le _⟩) hS (fun _ h => h) (fun H locs hP hS => ?_)
        have hD : va_D (AR q) (wR q cA u13) := dd_re (wR_f _ _ _ _) hD
        obtain rfl := Option.some.inj h
        exact W.vret hx hb hr (fun t ht hW => ⟨rfl, by rw [ht]; exact hP, hS.F ht⟩) hS.2.2 d_R_begin_223
      · have h := if_t hc h
        refine lv_iconst (v := 1) hx hb d_R_begin_178 (by decide) ?_
        refine lv_goto (tgt := 183) hx hb d_R_begin_179 rfl ?_
        refine pf_R_153 hx hb hts hown hK hP hD hS (Or.inr rfl) d_R_begin_183 (fun H locs hP hS => ?_)
        obtain ⟨σ8, eσ8, h⟩ := st_some h
        rw [← eσ8] at hP
        have hD : va_D (AR q) (wR q cA σ8) := dd_re (wR_f _ _ _ _) hD
        refine lv_aload_n hx hb d_R_begin_186 rfl (lv_at hl 1 rfl) ?_
        refine lv_dup hx hb d_R_begin_187 rfl ?_
        refine gf_R_169 hx hb hts hown hK hP d_R_begin_188 ?_
        refine lv_iconst (v := 1) hx hb d_R_begin_191 (by decide) ?_
        refine lv_iadd hx hb d_R_begin_192 ?_
        refine pf_R_169 hx hb hts hown hK hP hD hS d_R_begin_193 (fun H locs hP hS => ?_)
        obtain ⟨σ9, eσ9, h⟩ := st_some h
        rw [← eσ9] at hP
        have hD : va_D (AR q) (wR q cA σ9) := dd_re (wR_f _ _ _ _) hD
        refine lv_aload_n hx hb d_R_begin_196 rfl (lv_at hl 1 rfl) ?_
        refine lv_dup hx hb d_R_begin_197 rfl ?_
        refine gf_R_172 hx hb hts hown hK hP d_R_begin_198 ?_
        refine lv_iconst (v := 1) hx hb d_R_begin_201 (by decide) ?_
        refine lv_iadd hx hb d_R_begin_202 ?_
        refine pf_R_172 hx hb hts hown hK hP hD hS d_R_begin_203 (fun H locs hP hS => ?_)
        obtain ⟨σ10, eσ10, h⟩ := st_some h
        rw [← eσ10] at hP
        have hD : va_D (AR q) (wR q cA σ10) := dd_re (wR_f _ _ _ _) hD
        refine lv_aload_n hx hb d_R_begin_206 rfl (lv_at hl 1 rfl) ?_
        refine lv_aload_n hx hb d_R_begin_207 rfl (lv_at hl 1 rfl) ?_
        refine gf_R_25 hx hb hts hown hK hP d_R_begin_208 ?_
        refine lv_aload_n hx hb d_R_begin_211 rfl (lv_at hl 1 rfl) ?_
        refine gf_R_13 hx hb hts hown hK hP d_R_begin_212 ?_
        refine lv_iload_n hx hb d_R_begin_215 rfl (lv_at hl 0 rfl) ?_
        obtain ⟨hgd, h⟩ := gd_some h
        refine al_R_2 hx hb hK hP hgd d_R_begin_216 ?_
        obtain ⟨hgd, h⟩ := gd_some h
        refine al_R_6 hx hb hK hP hgd d_R_begin_217 ?_
        refine lv_iconst (v := 1) hx hb d_R_begin_218 (by decide) ?_
        refine lv_isub hx hb d_R_begin_219 ?_
        obtain ⟨u14, hcl, h⟩ := bd_some h
        refine cx_wrv (va_runV (As := [.int ((σ10 6 (σ10 2 (σ 12 a1.toNatClampNeg).toNatClampNeg).toNatClampNeg) - 1)]) (rest := []) ⟨hx, hb, hml, hown, hts⟩ (c_R_enter l dC dI q cA σ10 ((σ10 6 (σ10 2 (σ 12 a1.toNatClampNeg).toNatClampNeg).toNatClampNeg) - 1) _ hcl) (cw_R_175 hts ⟨Nat.le_of_ble_eq_true rfl, Nat.le_of_ble_eq_true rfl⟩) ⟨pxR_B, va_recv hK hP (ci := 7) (q0 := 0) rfl rfl, pxR_U hP hK hD hN hZ hS⟩ rfl rfl hl.1 rfl (lv_room (Nat.le_of_ble_eq_true rfl)) d_R_begin_220 ⟨Nat.zero_le _, Nat.zero_le _⟩) hS (fun _ h => h) (fun H locs hP hS => ?_)
        have hD : va_D (AR q) (wR q cA u14) := dd_re (wR_f _ _ _ _) hD
        obtain rfl := Option.some.inj h
        exact W.vret hx hb hr (fun t ht hW => ⟨rfl, by rw [ht]; exact hP, hS.F ht⟩) hS.2.2 d_R_begin_223
  have h := if_f hc11 h
  by_cases hc12 : (σ1 1 (σ 12 a1.toNatClampNeg).toNatClampNeg) = 12
  · have h := if_t hc12 h
    refine sw_in (tgt := 224) hx hb d_R_begin_20 hc12 (by decide) (by decide) rfl rfl ?_
    refine lv_aload_n hx hb d_R_begin_224 rfl (lv_at hl 1 rfl) ?_
    refine lv_aload_n hx hb d_R_begin_225 rfl (lv_at hl 1 rfl) ?_
    refine gf_R_13 hx hb hts hown hK hP d_R_begin_226 ?_
    refine lv_iload_n hx hb d_R_begin_229 rfl (lv_at hl 0 rfl) ?_
    obtain ⟨hgd, h⟩ := gd_some h
    refine al_R_2 hx hb hK hP hgd d_R_begin_230 ?_
    obtain ⟨u15, hcl, h⟩ := bd_some h
    refine cx_wrv (va_runV (As := [.int (σ1 2 (σ 12 a1.toNatClampNeg).toNatClampNeg)]) (rest := []) ⟨hx, hb, hml, hown, hts⟩ (c_R_enter l dC dI q cA σ1 (σ1 2 (σ 12 a1.toNatClampNeg).toNatClampNeg) _ hcl) (cw_R_175 hts ⟨Nat.le_of_ble_eq_true rfl, Nat.le_of_ble_eq_true rfl⟩) ⟨pxR_B, va_recv hK hP (ci := 7) (q0 := 0) rfl rfl, pxR_U hP hK hD hN hZ hS⟩ rfl rfl hl.1 rfl (lv_room (Nat.le_of_ble_eq_true rfl)) d_R_begin_231 ⟨Nat.zero_le _, Nat.zero_le _⟩) hS (fun _ h => h) (fun H locs hP hS => ?_)
    have hD : va_D (AR q) (wR q cA u15) := dd_re (wR_f _ _ _ _) hD
    obtain rfl := Option.some.inj h
    exact W.vret hx hb hr (fun t ht hW => ⟨rfl, by rw [ht]; exact hP, hS.F ht⟩) hS.2.2 d_R_begin_234
  have h := if_f hc12 h
  by_cases hc13 : (σ1 1 (σ 12 a1.toNatClampNeg).toNatClampNeg) = 13
  · have h := if_t hc13 h
    refine sw_in (tgt := 142) hx hb d_R_begin_20 hc13 (by decide) (by decide) rfl rfl ?_
    refine lv_aload_n hx hb d_R_begin_142 rfl (lv_at hl 1 rfl) ?_
    refine lv_aload_n hx hb d_R_begin_143 rfl (lv_at hl 1 rfl) ?_
    refine gf_R_62 hx hb hts hown hK hP d_R_begin_144 ?_
    refine lv_aload_n hx hb d_R_begin_147 rfl (lv_at hl 1 rfl) ?_
    refine gf_R_13 hx hb hts hown hK hP d_R_begin_148 ?_
    refine lv_iload_n hx hb d_R_begin_151 rfl (lv_at hl 0 rfl) ?_
    obtain ⟨hgd, h⟩ := gd_some h
    refine al_R_2 hx hb hK hP hgd d_R_begin_152 ?_
    obtain ⟨hgd, h⟩ := gd_some h
    refine al_R_18 hx hb hK hP hgd d_R_begin_153 ?_
    obtain ⟨u16, hcl, h⟩ := bd_some h
    refine cx_wrv (va_runV (As := [.int (σ1 18 (σ1 2 (σ 12 a1.toNatClampNeg).toNatClampNeg).toNatClampNeg)]) (rest := []) ⟨hx, hb, hml, hown, hts⟩ (c_R_succeed l dC dI q cA σ1 (σ1 18 (σ1 2 (σ 12 a1.toNatClampNeg).toNatClampNeg).toNatClampNeg) _ hcl) (cw_R_156 hts ⟨Nat.le_of_ble_eq_true rfl, Nat.le_of_ble_eq_true rfl⟩) ⟨pxR_B, va_recv hK hP (ci := 7) (q0 := 0) rfl rfl, pxR_U hP hK hD hN hZ hS⟩ rfl rfl hl.1 rfl (lv_room (Nat.le_of_ble_eq_true rfl)) d_R_begin_154 ⟨Nat.zero_le _, Nat.zero_le _⟩) hS (fun _ h => h) (fun H locs hP hS => ?_)
    have hD : va_D (AR q) (wR q cA u16) := dd_re (wR_f _ _ _ _) hD
    obtain rfl := Option.some.inj h
    exact W.vret hx hb hr (fun t ht hW => ⟨rfl, by rw [ht]; exact hP, hS.F ht⟩) hS.2.2 d_R_begin_157
  have h := if_f hc13 h
  refine lv_tableOut (tgt := 224) hx hb d_R_begin_20 (by have q0 := lv_neT hc0 (a := 0) (by decide); have q1 := lv_neT hc1 (a := 1) (by decide); have q2 := lv_neT hc2 (a := 2) (by decide); have q3 := lv_neT hc3 (a := 3) (by decide); have q4 := lv_neT hc4 (a := 4) (by decide); have q5 := lv_neT hc5 (a := 5) (by decide); have q6 := lv_neT hc6 (a := 6) (by decide); have q7 := lv_neT hc7 (a := 7) (by decide); have q8 := lv_neT hc8 (a := 8) (by decide); have q9 := lv_neT hc9 (a := 9) (by decide); have q10 := lv_neT hc10 (a := 10) (by decide); have q11 := lv_neT hc11 (a := 11) (by decide); have q12 := lv_neT hc12 (a := 12) (by decide); have q13 := lv_neT hc13 (a := 13) (by decide); omega) rfl ?_
  refine lv_aload_n hx hb d_R_begin_224 rfl (lv_at hl 1 rfl) ?_
  refine lv_aload_n hx hb d_R_begin_225 rfl (lv_at hl 1 rfl) ?_
  refine gf_R_13 hx hb hts hown hK hP d_R_begin_226 ?_
  refine lv_iload_n hx hb d_R_begin_229 rfl (lv_at hl 0 rfl) ?_
  obtain ⟨hgd, h⟩ := gd_some h
  refine al_R_2 hx hb hK hP hgd d_R_begin_230 ?_
  obtain ⟨u17, hcl, h⟩ := bd_some h
  refine cx_wrv (va_runV (As := [.int (σ1 2 (σ 12 a1.toNatClampNeg).toNatClampNeg)]) (rest := []) ⟨hx, hb, hml, hown, hts⟩ (c_R_enter l dC dI q cA σ1 (σ1 2 (σ 12 a1.toNatClampNeg).toNatClampNeg) _ hcl) (cw_R_175 hts ⟨Nat.le_of_ble_eq_true rfl, Nat.le_of_ble_eq_true rfl⟩) ⟨pxR_B, va_recv hK hP (ci := 7) (q0 := 0) rfl rfl, pxR_U hP hK hD hN hZ hS⟩ rfl rfl hl.1 rfl (lv_room (Nat.le_of_ble_eq_true rfl)) d_R_begin_231 ⟨Nat.zero_le _, Nat.zero_le _⟩) hS (fun _ h => h) (fun H locs hP hS => ?_)
  have hD : va_D (AR q) (wR q cA u17) := dd_re (wR_f _ _ _ _) hD
  obtain rfl := Option.some.inj h
  exact W.vret hx hb hr (fun t ht hW => ⟨rfl, by rw [ht]; exact hP, hS.F ht⟩) hS.2.2 d_R_begin_234
def y_R_then : MethodName := ⟨"StagedParsersModel", "then", "(I)V"⟩
def w_R_then : List Cond := .code y_R_then prog_9_method_35_code 2 none :: AW_
def rm_R_then : Room := { frames := 1, cells := 0, slots := 0, locals := 22 }
theorem d_R_then_0 : decode prog_9_method_35_code 0 = .ok (.aload_n 0, 1) := by decide +kernel
theorem d_R_then_1 : decode prog_9_method_35_code 1 = .ok (.getfield 144, 3) := by decide +kernel
theorem d_R_then_4 : decode prog_9_method_35_code 4 = .ok (.ifCond .ne 10, 3) := by decide +kernel
theorem d_R_then_7 : decode prog_9_method_35_code 7 = .ok (.aload_n 0, 1) := by decide +kernel
theorem d_R_then_8 : decode prog_9_method_35_code 8 = .ok (.invokevirtual 162, 3) := by decide +kernel
theorem d_R_then_11 : decode prog_9_method_35_code 11 = .ok (.goto 76, 3) := by decide +kernel
theorem d_R_then_14 : decode prog_9_method_35_code 14 = .ok (.aload_n 0, 1) := by decide +kernel
theorem d_R_then_15 : decode prog_9_method_35_code 15 = .ok (.getfield 47, 3) := by decide +kernel
theorem d_R_then_18 : decode prog_9_method_35_code 18 = .ok (.iload_n 1, 1) := by decide +kernel
theorem d_R_then_19 : decode prog_9_method_35_code 19 = .ok (.iaload, 1) := by decide +kernel
theorem d_R_then_20 : decode prog_9_method_35_code 20 = .ok (.iconst 2, 1) := by decide +kernel
theorem d_R_then_21 : decode prog_9_method_35_code 21 = .ok (.if_icmp .ne 34, 3) := by decide +kernel
theorem d_R_then_24 : decode prog_9_method_35_code 24 = .ok (.aload_n 0, 1) := by decide +kernel
theorem d_R_then_25 : decode prog_9_method_35_code 25 = .ok (.aload_n 0, 1) := by decide +kernel
theorem d_R_then_26 : decode prog_9_method_35_code 26 = .ok (.getfield 19, 3) := by decide +kernel
theorem d_R_then_29 : decode prog_9_method_35_code 29 = .ok (.aload_n 0, 1) := by decide +kernel
theorem d_R_then_30 : decode prog_9_method_35_code 30 = .ok (.getfield 44, 3) := by decide +kernel
theorem d_R_then_33 : decode prog_9_method_35_code 33 = .ok (.iload_n 1, 1) := by decide +kernel
theorem d_R_then_34 : decode prog_9_method_35_code 34 = .ok (.iaload, 1) := by decide +kernel
theorem d_R_then_35 : decode prog_9_method_35_code 35 = .ok (.iaload, 1) := by decide +kernel
theorem d_R_then_36 : decode prog_9_method_35_code 36 = .ok (.aload_n 0, 1) := by decide +kernel
theorem d_R_then_37 : decode prog_9_method_35_code 37 = .ok (.getfield 53, 3) := by decide +kernel
theorem d_R_then_40 : decode prog_9_method_35_code 40 = .ok (.iload_n 1, 1) := by decide +kernel
theorem d_R_then_41 : decode prog_9_method_35_code 41 = .ok (.iaload, 1) := by decide +kernel
theorem d_R_then_42 : decode prog_9_method_35_code 42 = .ok (.aload_n 0, 1) := by decide +kernel
theorem d_R_then_43 : decode prog_9_method_35_code 43 = .ok (.getfield 147, 3) := by decide +kernel
theorem d_R_then_46 : decode prog_9_method_35_code 46 = .ok (.invokestatic 187, 3) := by decide +kernel
theorem d_R_then_49 : decode prog_9_method_35_code 49 = .ok (.invokevirtual 156, 3) := by decide +kernel
theorem d_R_then_52 : decode prog_9_method_35_code 52 = .ok (.goto 35, 3) := by decide +kernel
theorem d_R_then_55 : decode prog_9_method_35_code 55 = .ok (.aload_n 0, 1) := by decide +kernel
theorem d_R_then_56 : decode prog_9_method_35_code 56 = .ok (.getfield 47, 3) := by decide +kernel
theorem d_R_then_59 : decode prog_9_method_35_code 59 = .ok (.iload_n 1, 1) := by decide +kernel
theorem d_R_then_60 : decode prog_9_method_35_code 60 = .ok (.iconst 2, 1) := by decide +kernel
theorem d_R_then_61 : decode prog_9_method_35_code 61 = .ok (.iastore, 1) := by decide +kernel
theorem d_R_then_62 : decode prog_9_method_35_code 62 = .ok (.aload_n 0, 1) := by decide +kernel
theorem d_R_then_63 : decode prog_9_method_35_code 63 = .ok (.getfield 53, 3) := by decide +kernel
theorem d_R_then_66 : decode prog_9_method_35_code 66 = .ok (.iload_n 1, 1) := by decide +kernel
theorem d_R_then_67 : decode prog_9_method_35_code 67 = .ok (.aload_n 0, 1) := by decide +kernel
theorem d_R_then_68 : decode prog_9_method_35_code 68 = .ok (.getfield 147, 3) := by decide +kernel
theorem d_R_then_71 : decode prog_9_method_35_code 71 = .ok (.iastore, 1) := by decide +kernel
theorem d_R_then_72 : decode prog_9_method_35_code 72 = .ok (.aload_n 0, 1) := by decide +kernel
theorem d_R_then_73 : decode prog_9_method_35_code 73 = .ok (.aload_n 0, 1) := by decide +kernel
theorem d_R_then_74 : decode prog_9_method_35_code 74 = .ok (.getfield 16, 3) := by decide +kernel
theorem d_R_then_77 : decode prog_9_method_35_code 77 = .ok (.aload_n 0, 1) := by decide +kernel
theorem d_R_then_78 : decode prog_9_method_35_code 78 = .ok (.getfield 44, 3) := by decide +kernel
theorem d_R_then_81 : decode prog_9_method_35_code 81 = .ok (.iload_n 1, 1) := by decide +kernel
theorem d_R_then_82 : decode prog_9_method_35_code 82 = .ok (.iaload, 1) := by decide +kernel
theorem d_R_then_83 : decode prog_9_method_35_code 83 = .ok (.iaload, 1) := by decide +kernel
theorem d_R_then_84 : decode prog_9_method_35_code 84 = .ok (.invokevirtual 175, 3) := by decide +kernel
theorem d_R_then_87 : decode prog_9_method_35_code 87 = .ok (.return_, 1) := by decide +kernel
section RW
variable {p : Program} {l : Launch} {e : Env} {R : Room} {s : State} {m : MethodId} {args : Array Value} {below : List Frame} {meth : Method} {c : Code} {H : Heap} {locs : List Loc} {cells slots : Nat} {Q : State → Prop}
variable {cc : ByteArray} {pc : Nat} {ls : Array Slot} {rest : List Value} {dC : Nat → ClassId} {dI : Nat → Nat → Nat} {q : Nat → Nat} {cA : Nat → ClassId} {σ : MZ_} {H0 : Heap} {A : Nat → Prop}

theorem gf_R_144 (hx : p.tables.exec = Jvm.exec) (hb : c.code = cc) (hts : ∀ w ∈ AW_, w.before args s = true) (hown : s.vm.findClass "StagedParsersModel" = some m.cls) (hK : va_K (dC, dI) cls_ (tyR cA) s) (hP : va_P (dC, dI) cls_ (wR q cA σ) H) (hdg : decode cc pc = .ok (.getfield 144, 3)) (kk : W p l e R s m args below meth c H locs cells slots Q (F0 m (pc + 3) ls (.int (σ 35 0) :: rest))) : W p l e R s m args below meth c H locs cells slots Q (F0 m pc ls (.ref (q 0) :: rest)) :=
  va_get (D := (dC, dI)) (cl := cls_) (ci := 7) (v := .int (σ 35 0)) (ws := wR q cA σ) (tys := tyR cA) (C := Rz_R) (T := Tz_R) (N := 34) hx hb hts uz_R hown hK hP 0 rfl rfl 22 (by decide) (hts _ kw_833) (fun _ h9 => h9) rfl hdg kk
theorem gf_R_147 (hx : p.tables.exec = Jvm.exec) (hb : c.code = cc) (hts : ∀ w ∈ AW_, w.before args s = true) (hown : s.vm.findClass "StagedParsersModel" = some m.cls) (hK : va_K (dC, dI) cls_ (tyR cA) s) (hP : va_P (dC, dI) cls_ (wR q cA σ) H) (hdg : decode cc pc = .ok (.getfield 147, 3)) (kk : W p l e R s m args below meth c H locs cells slots Q (F0 m (pc + 3) ls (.int (σ 37 0) :: rest))) : W p l e R s m args below meth c H locs cells slots Q (F0 m pc ls (.ref (q 0) :: rest)) :=
  va_get (D := (dC, dI)) (cl := cls_) (ci := 7) (v := .int (σ 37 0)) (ws := wR q cA σ) (tys := tyR cA) (C := Rz_R) (T := Tz_R) (N := 34) hx hb hts uz_R hown hK hP 0 rfl rfl 24 (by decide) (hts _ kw_835) (fun _ h9 => h9) rfl hdg kk
theorem cw_R_187 (hts : ∀ w ∈ AW_, w.before args s = true) (hR : rm_R_joined.frames + 1 ≤ R.frames ∧ 8 + (3 + 11) + rm_R_joined.locals ≤ R.locals) : CallB R s args "StagedParsersModel" 187 y_R_joined prog_9_method_31_code 3 (some .int) w_R_joined rm_R_joined 0 0 3 ∧ (Cond.static y_R_joined).before args s = true :=
  ⟨callB_of 3 hts (aw_in kw_1053) rfl rfl rfl (hts _ kw_9) (hts _ kw_1051) ⟨by decide, by decide, by decide +kernel⟩ hR, hts _ kw_1052⟩
end RW
def f_R_then (σ : MZ_) (a1 : Int32) : Option (MZ_) :=
  if (σ 35 0) = 0 then (f_R_fail σ).bind fun u4 => some u4
  else gd_ a1 400 (if (σ 13 a1.toNatClampNeg) = 2 then gd_ a1 400 (gd_ (σ 12 a1.toNatClampNeg) 80 (gd_ a1 400 ((f_R_joined (σ 4 (σ 12 a1.toNatClampNeg).toNatClampNeg) (σ 15 a1.toNatClampNeg) (σ 37 0)).bind fun r2 => (f_R_succeed σ r2).bind fun u3 => some u3)))
  else gd_ a1 400 (st_ (va_up σ 13 (upd (σ 13) a1.toNatClampNeg 2)) fun σ1 => gd_ a1 400 (st_ (va_up σ1 15 (upd (σ1 15) a1.toNatClampNeg (σ1 37 0))) fun σ2 => gd_ a1 400 (gd_ (σ2 12 a1.toNatClampNeg) 80 ((f_R_enter σ2 (σ2 3 (σ2 12 a1.toNatClampNeg).toNatClampNeg)).bind fun u1 => some u1)))))
set_option maxHeartbeats 4000000 in
set_option maxRecDepth 100000 in
theorem c_R_then (l : Launch) (dC : Nat → ClassId) (dI : Nat → Nat → Nat) (q : Nat → Nat) (cA : Nat → ClassId) (σ : MZ_) (a1 : Int32) (u : MZ_) (h : f_R_then σ a1 = some u) : Met l y_R_then w_R_then rm_R_then (va_Pc [.ref (q 0), .int a1] (PRx_ dC dI q cA σ)) (QW_ none (fun H => va_P (dC, dI) cls_ (wR q cA u) H) (AR q)) 0 0 (AR q) := by
  refine Met.ofW (cc := prog_9_method_35_code) (maxL := 2) (ret := none) (by decide) rfl ?_
  intro p e s m args below meth c s₁ B hml hv
  obtain ⟨rfl, hP, hK, hD, hN, hZ⟩ := hv
  have hx := B.exec
  have hb := B.bytes
  have hr := B.returns
  have hts : ∀ w ∈ AW_, w.before _ s = true := fun w h => atoms_spec (ws := w_R_then) B.pre w (List.mem_cons_of_mem _ h)
  have hown : s.vm.findClass "StagedParsersModel" = some m.cls := findClass_of_methodNamed B.named
  have hlocks := B.notSynchronized
  have hS : va_S (AR q) s.heap s.heap [] := va_S.rf
  have hl := lv_entry ([.ref (q 0), .int a1]) (n := 2) (Nat.le_of_ble_eq_true rfl)
  rw [lg_entry_eq]
  generalize (lg_sl ([.ref (q 0), .int a1]) ++ List.replicate (2 - (lg_sl ([.ref (q 0), .int a1])).length) Slot.unset).toArray = ls at hl ⊢
  have hl : lv_has ls 2 [(0, .ref (q 0)), (1, .int a1)] := hl
  rw [f_R_then] at h
  refine lv_aload_n hx hb d_R_then_0 rfl (lv_at hl 0 rfl) ?_
  refine gf_R_144 hx hb hts hown hK hP d_R_then_1 ?_
  refine lv_if_ne (tgt := 14) hx hb d_R_then_4 rfl (fun hc => ?_) (fun hc => ?_)
  · have h := if_f hc h
    refine lv_aload_n hx hb d_R_then_14 rfl (lv_at hl 0 rfl) ?_
    refine gf_R_47 hx hb hts hown hK hP d_R_then_15 ?_
    refine lv_iload_n hx hb d_R_then_18 rfl (lv_at hl 1 rfl) ?_
    obtain ⟨hgd, h⟩ := gd_some h
    refine al_R_13 hx hb hK hP hgd d_R_then_19 ?_
    refine lv_iconst (v := 2) hx hb d_R_then_20 (by decide) ?_
    refine lv_icmp_ne (tgt := 55) hx hb d_R_then_21 rfl (fun hc => ?_) (fun hc => ?_)
    · have h := if_f hc h
      refine lv_aload_n hx hb d_R_then_55 rfl (lv_at hl 0 rfl) ?_
      refine gf_R_47 hx hb hts hown hK hP d_R_then_56 ?_
      refine lv_iload_n hx hb d_R_then_59 rfl (lv_at hl 1 rfl) ?_
      refine lv_iconst (v := 2) hx hb d_R_then_60 (by decide) ?_
      obtain ⟨hgd, h⟩ := gd_some h
      refine as_R_13 hx hb hK hP hD hS hgd d_R_then_61 (fun H locs hP hS => ?_)
      obtain ⟨σ1, eσ1, h⟩ := st_some h
      rw [← eσ1] at hP
      have hD : va_D (AR q) (wR q cA σ1) := dd_re (wR_f _ _ _ _) hD
      refine lv_aload_n hx hb d_R_then_62 rfl (lv_at hl 0 rfl) ?_
      refine gf_R_53 hx hb hts hown hK hP d_R_then_63 ?_
      refine lv_iload_n hx hb d_R_then_66 rfl (lv_at hl 1 rfl) ?_
      refine lv_aload_n hx hb d_R_then_67 rfl (lv_at hl 0 rfl) ?_
      refine gf_R_147 hx hb hts hown hK hP d_R_then_68 ?_
      obtain ⟨hgd, h⟩ := gd_some h
      refine as_R_15 hx hb hK hP hD hS hgd d_R_then_71 (fun H locs hP hS => ?_)
      obtain ⟨σ2, eσ2, h⟩ := st_some h
      rw [← eσ2] at hP
      have hD : va_D (AR q) (wR q cA σ2) := dd_re (wR_f _ _ _ _) hD
      refine lv_aload_n hx hb d_R_then_72 rfl (lv_at hl 0 rfl) ?_
      refine lv_aload_n hx hb d_R_then_73 rfl (lv_at hl 0 rfl) ?_
      refine gf_R_16 hx hb hts hown hK hP d_R_then_74 ?_
      refine lv_aload_n hx hb d_R_then_77 rfl (lv_at hl 0 rfl) ?_
      refine gf_R_44 hx hb hts hown hK hP d_R_then_78 ?_
      refine lv_iload_n hx hb d_R_then_81 rfl (lv_at hl 1 rfl) ?_
      obtain ⟨hgd, h⟩ := gd_some h
      refine al_R_12 hx hb hK hP hgd d_R_then_82 ?_
      obtain ⟨hgd, h⟩ := gd_some h
      refine al_R_3 hx hb hK hP hgd d_R_then_83 ?_
      obtain ⟨u1, hcl, h⟩ := bd_some h
      refine cx_wrv (va_runV (As := [.int (σ2 3 (σ2 12 a1.toNatClampNeg).toNatClampNeg)]) (rest := []) ⟨hx, hb, hml, hown, hts⟩ (c_R_enter l dC dI q cA σ2 (σ2 3 (σ2 12 a1.toNatClampNeg).toNatClampNeg) _ hcl) (cw_R_175 hts ⟨Nat.le_of_ble_eq_true rfl, Nat.le_of_ble_eq_true rfl⟩) ⟨pxR_B, va_recv hK hP (ci := 7) (q0 := 0) rfl rfl, pxR_U hP hK hD hN hZ hS⟩ rfl rfl hl.1 rfl (lv_room (Nat.le_of_ble_eq_true rfl)) d_R_then_84 ⟨Nat.zero_le _, Nat.zero_le _⟩) hS (fun _ h => h) (fun H locs hP hS => ?_)
      have hD : va_D (AR q) (wR q cA u1) := dd_re (wR_f _ _ _ _) hD
      obtain rfl := Option.some.inj h
      exact W.vret hx hb hr (fun t ht hW => ⟨rfl, by rw [ht]; exact hP, hS.F ht⟩) hS.2.2 d_R_then_87
    · have h := if_t hc h
      refine lv_aload_n hx hb d_R_then_24 rfl (lv_at hl 0 rfl) ?_
      refine lv_aload_n hx hb d_R_then_25 rfl (lv_at hl 0 rfl) ?_
      refine gf_R_19 hx hb hts hown hK hP d_R_then_26 ?_
      refine lv_aload_n hx hb d_R_then_29 rfl (lv_at hl 0 rfl) ?_
      refine gf_R_44 hx hb hts hown hK hP d_R_then_30 ?_
      refine lv_iload_n hx hb d_R_then_33 rfl (lv_at hl 1 rfl) ?_
      obtain ⟨hgd, h⟩ := gd_some h
      refine al_R_12 hx hb hK hP hgd d_R_then_34 ?_
      obtain ⟨hgd, h⟩ := gd_some h
      refine al_R_4 hx hb hK hP hgd d_R_then_35 ?_
      refine lv_aload_n hx hb d_R_then_36 rfl (lv_at hl 0 rfl) ?_
      refine gf_R_53 hx hb hts hown hK hP d_R_then_37 ?_
      refine lv_iload_n hx hb d_R_then_40 rfl (lv_at hl 1 rfl) ?_
      obtain ⟨hgd, h⟩ := gd_some h
      refine al_R_15 hx hb hK hP hgd d_R_then_41 ?_
      refine lv_aload_n hx hb d_R_then_42 rfl (lv_at hl 0 rfl) ?_
      refine gf_R_147 hx hb hts hown hK hP d_R_then_43 ?_
      obtain ⟨r2, hcl, h⟩ := bd_some h
      refine cx_read (va_runS (As := [.int (σ 4 (σ 12 a1.toNatClampNeg).toNatClampNeg), .int (σ 15 a1.toNatClampNeg), .int (σ 37 0)]) (rest := [.ref (q 0)]) ⟨hx, hb, hml, hown, hts⟩ (c_R_joined l dC dI q cA σ (σ 4 (σ 12 a1.toNatClampNeg).toNatClampNeg) (σ 15 a1.toNatClampNeg) (σ 37 0) _ hcl) (cw_R_187 hts ⟨Nat.le_of_ble_eq_true rfl, Nat.le_of_ble_eq_true rfl⟩) ⟨pxR_B, pxR_U hP hK hD hN hZ hS⟩ rfl rfl hl.1 rfl (lv_room (Nat.le_of_ble_eq_true rfl)) d_R_then_46 ⟨Nat.zero_le _, Nat.zero_le _⟩) ?_
      obtain ⟨u3, hcl, h⟩ := bd_some h
      refine cx_wrv (va_runV (As := [.int r2]) (rest := []) ⟨hx, hb, hml, hown, hts⟩ (c_R_succeed l dC dI q cA σ r2 _ hcl) (cw_R_156 hts ⟨Nat.le_of_ble_eq_true rfl, Nat.le_of_ble_eq_true rfl⟩) ⟨pxR_B, va_recv hK hP (ci := 7) (q0 := 0) rfl rfl, pxR_U hP hK hD hN hZ hS⟩ rfl rfl hl.1 rfl (lv_room (Nat.le_of_ble_eq_true rfl)) d_R_then_49 ⟨Nat.zero_le _, Nat.zero_le _⟩) hS (fun _ h => h) (fun H locs hP hS => ?_)
      have hD : va_D (AR q) (wR q cA u3) := dd_re (wR_f _ _ _ _) hD
      refine lv_goto (tgt := 87) hx hb d_R_then_52 rfl ?_
      obtain rfl := Option.some.inj h
      exact W.vret hx hb hr (fun t ht hW => ⟨rfl, by rw [ht]; exact hP, hS.F ht⟩) hS.2.2 d_R_then_87
  · have h := if_t hc h
    refine lv_aload_n hx hb d_R_then_7 rfl (lv_at hl 0 rfl) ?_
    obtain ⟨u4, hcl, h⟩ := bd_some h
    refine cx_wrv (va_runV (As := []) (rest := []) ⟨hx, hb, hml, hown, hts⟩ (c_R_fail l dC dI q cA σ _ hcl) (cw_R_162 hts ⟨Nat.le_of_ble_eq_true rfl, Nat.le_of_ble_eq_true rfl⟩) ⟨pxR_B, va_recv hK hP (ci := 7) (q0 := 0) rfl rfl, pxR_U hP hK hD hN hZ hS⟩ rfl rfl hl.1 rfl (lv_room (Nat.le_of_ble_eq_true rfl)) d_R_then_8 ⟨Nat.zero_le _, Nat.zero_le _⟩) hS (fun _ h => h) (fun H locs hP hS => ?_)
    have hD : va_D (AR q) (wR q cA u4) := dd_re (wR_f _ _ _ _) hD
    refine lv_goto (tgt := 87) hx hb d_R_then_11 rfl ?_
    obtain rfl := Option.some.inj h
    exact W.vret hx hb hr (fun t ht hW => ⟨rfl, by rw [ht]; exact hP, hS.F ht⟩) hS.2.2 d_R_then_87
def y_R_ends : MethodName := ⟨"StagedParsersModel", "ends", "(I)V"⟩
def w_R_ends : List Cond := .code y_R_ends prog_9_method_36_code 2 none :: AW_
def rm_R_ends : Room := { frames := 1, cells := 0, slots := 0, locals := 21 }
theorem d_R_ends_0 : decode prog_9_method_36_code 0 = .ok (.aload_n 0, 1) := by decide +kernel
theorem d_R_ends_1 : decode prog_9_method_36_code 1 = .ok (.getfield 141, 3) := by decide +kernel
theorem d_R_ends_4 : decode prog_9_method_36_code 4 = .ok (.aload_n 0, 1) := by decide +kernel
theorem d_R_ends_5 : decode prog_9_method_36_code 5 = .ok (.getfield 56, 3) := by decide +kernel
theorem d_R_ends_8 : decode prog_9_method_36_code 8 = .ok (.iload_n 1, 1) := by decide +kernel
theorem d_R_ends_9 : decode prog_9_method_36_code 9 = .ok (.iaload, 1) := by decide +kernel
theorem d_R_ends_10 : decode prog_9_method_36_code 10 = .ok (.if_icmp .ne 16, 3) := by decide +kernel
theorem d_R_ends_13 : decode prog_9_method_36_code 13 = .ok (.aload_n 0, 1) := by decide +kernel
theorem d_R_ends_14 : decode prog_9_method_36_code 14 = .ok (.aload_n 0, 1) := by decide +kernel
theorem d_R_ends_15 : decode prog_9_method_36_code 15 = .ok (.getfield 53, 3) := by decide +kernel
theorem d_R_ends_18 : decode prog_9_method_36_code 18 = .ok (.iload_n 1, 1) := by decide +kernel
theorem d_R_ends_19 : decode prog_9_method_36_code 19 = .ok (.iaload, 1) := by decide +kernel
theorem d_R_ends_20 : decode prog_9_method_36_code 20 = .ok (.invokevirtual 156, 3) := by decide +kernel
theorem d_R_ends_23 : decode prog_9_method_36_code 23 = .ok (.goto 7, 3) := by decide +kernel
theorem d_R_ends_26 : decode prog_9_method_36_code 26 = .ok (.aload_n 0, 1) := by decide +kernel
theorem d_R_ends_27 : decode prog_9_method_36_code 27 = .ok (.invokevirtual 162, 3) := by decide +kernel
theorem d_R_ends_30 : decode prog_9_method_36_code 30 = .ok (.return_, 1) := by decide +kernel
def f_R_ends (σ : MZ_) (a1 : Int32) : Option (MZ_) :=
  gd_ a1 400 (if (σ 36 0) = (σ 16 a1.toNatClampNeg) then gd_ a1 400 ((f_R_succeed σ (σ 15 a1.toNatClampNeg)).bind fun u2 => some u2)
  else (f_R_fail σ).bind fun u1 => some u1)
set_option maxHeartbeats 4000000 in
set_option maxRecDepth 100000 in
theorem c_R_ends (l : Launch) (dC : Nat → ClassId) (dI : Nat → Nat → Nat) (q : Nat → Nat) (cA : Nat → ClassId) (σ : MZ_) (a1 : Int32) (u : MZ_) (h : f_R_ends σ a1 = some u) : Met l y_R_ends w_R_ends rm_R_ends (va_Pc [.ref (q 0), .int a1] (PRx_ dC dI q cA σ)) (QW_ none (fun H => va_P (dC, dI) cls_ (wR q cA u) H) (AR q)) 0 0 (AR q) := by
  refine Met.ofW (cc := prog_9_method_36_code) (maxL := 2) (ret := none) (by decide) rfl ?_
  intro p e s m args below meth c s₁ B hml hv
  obtain ⟨rfl, hP, hK, hD, hN, hZ⟩ := hv
  have hx := B.exec
  have hb := B.bytes
  have hr := B.returns
  have hts : ∀ w ∈ AW_, w.before _ s = true := fun w h => atoms_spec (ws := w_R_ends) B.pre w (List.mem_cons_of_mem _ h)
  have hown : s.vm.findClass "StagedParsersModel" = some m.cls := findClass_of_methodNamed B.named
  have hlocks := B.notSynchronized
  have hS : va_S (AR q) s.heap s.heap [] := va_S.rf
  have hl := lv_entry ([.ref (q 0), .int a1]) (n := 2) (Nat.le_of_ble_eq_true rfl)
  rw [lg_entry_eq]
  generalize (lg_sl ([.ref (q 0), .int a1]) ++ List.replicate (2 - (lg_sl ([.ref (q 0), .int a1])).length) Slot.unset).toArray = ls at hl ⊢
  have hl : lv_has ls 2 [(0, .ref (q 0)), (1, .int a1)] := hl
  rw [f_R_ends] at h
  refine lv_aload_n hx hb d_R_ends_0 rfl (lv_at hl 0 rfl) ?_
  refine gf_R_141 hx hb hts hown hK hP d_R_ends_1 ?_
  refine lv_aload_n hx hb d_R_ends_4 rfl (lv_at hl 0 rfl) ?_
  refine gf_R_56 hx hb hts hown hK hP d_R_ends_5 ?_
  refine lv_iload_n hx hb d_R_ends_8 rfl (lv_at hl 1 rfl) ?_
  obtain ⟨hgd, h⟩ := gd_some h
  refine al_R_16 hx hb hK hP hgd d_R_ends_9 ?_
  refine lv_icmp_ne (tgt := 26) hx hb d_R_ends_10 rfl (fun hc => ?_) (fun hc => ?_)
  · have h := if_f hc h
    refine lv_aload_n hx hb d_R_ends_26 rfl (lv_at hl 0 rfl) ?_
    obtain ⟨u1, hcl, h⟩ := bd_some h
    refine cx_wrv (va_runV (As := []) (rest := []) ⟨hx, hb, hml, hown, hts⟩ (c_R_fail l dC dI q cA σ _ hcl) (cw_R_162 hts ⟨Nat.le_of_ble_eq_true rfl, Nat.le_of_ble_eq_true rfl⟩) ⟨pxR_B, va_recv hK hP (ci := 7) (q0 := 0) rfl rfl, pxR_U hP hK hD hN hZ hS⟩ rfl rfl hl.1 rfl (lv_room (Nat.le_of_ble_eq_true rfl)) d_R_ends_27 ⟨Nat.zero_le _, Nat.zero_le _⟩) hS (fun _ h => h) (fun H locs hP hS => ?_)
    have hD : va_D (AR q) (wR q cA u1) := dd_re (wR_f _ _ _ _) hD
    obtain rfl := Option.some.inj h
    exact W.vret hx hb hr (fun t ht hW => ⟨rfl, by rw [ht]; exact hP, hS.F ht⟩) hS.2.2 d_R_ends_30
  · have h := if_t hc h
    refine lv_aload_n hx hb d_R_ends_13 rfl (lv_at hl 0 rfl) ?_
    refine lv_aload_n hx hb d_R_ends_14 rfl (lv_at hl 0 rfl) ?_
    refine gf_R_53 hx hb hts hown hK hP d_R_ends_15 ?_
    refine lv_iload_n hx hb d_R_ends_18 rfl (lv_at hl 1 rfl) ?_
    obtain ⟨hgd, h⟩ := gd_some h
    refine al_R_15 hx hb hK hP hgd d_R_ends_19 ?_
    obtain ⟨u2, hcl, h⟩ := bd_some h
    refine cx_wrv (va_runV (As := [.int (σ 15 a1.toNatClampNeg)]) (rest := []) ⟨hx, hb, hml, hown, hts⟩ (c_R_succeed l dC dI q cA σ (σ 15 a1.toNatClampNeg) _ hcl) (cw_R_156 hts ⟨Nat.le_of_ble_eq_true rfl, Nat.le_of_ble_eq_true rfl⟩) ⟨pxR_B, va_recv hK hP (ci := 7) (q0 := 0) rfl rfl, pxR_U hP hK hD hN hZ hS⟩ rfl rfl hl.1 rfl (lv_room (Nat.le_of_ble_eq_true rfl)) d_R_ends_20 ⟨Nat.zero_le _, Nat.zero_le _⟩) hS (fun _ h => h) (fun H locs hP hS => ?_)
    have hD : va_D (AR q) (wR q cA u2) := dd_re (wR_f _ _ _ _) hD
    refine lv_goto (tgt := 30) hx hb d_R_ends_23 rfl ?_
    obtain rfl := Option.some.inj h
    exact W.vret hx hb hr (fun t ht hW => ⟨rfl, by rw [ht]; exact hP, hS.F ht⟩) hS.2.2 d_R_ends_30
def y_R_many : MethodName := ⟨"StagedParsersModel", "many", "(I)V"⟩
def w_R_many : List Cond := .code y_R_many prog_9_method_37_code 3 none :: AW_
def rm_R_many : Room := { frames := 2, cells := 0, slots := 0, locals := 42 }
theorem d_R_many_0 : decode prog_9_method_37_code 0 = .ok (.aload_n 0, 1) := by decide +kernel
theorem d_R_many_1 : decode prog_9_method_37_code 1 = .ok (.getfield 44, 3) := by decide +kernel
theorem d_R_many_4 : decode prog_9_method_37_code 4 = .ok (.iload_n 1, 1) := by decide +kernel
theorem d_R_many_5 : decode prog_9_method_37_code 5 = .ok (.iaload, 1) := by decide +kernel
theorem d_R_many_6 : decode prog_9_method_37_code 6 = .ok (.istore_n 2, 1) := by decide +kernel
theorem d_R_many_7 : decode prog_9_method_37_code 7 = .ok (.aload_n 0, 1) := by decide +kernel
theorem d_R_many_8 : decode prog_9_method_37_code 8 = .ok (.getfield 144, 3) := by decide +kernel
theorem d_R_many_11 : decode prog_9_method_37_code 11 = .ok (.ifCond .ne 9, 3) := by decide +kernel
theorem d_R_many_14 : decode prog_9_method_37_code 14 = .ok (.aload_n 0, 1) := by decide +kernel
theorem d_R_many_15 : decode prog_9_method_37_code 15 = .ok (.iload_n 1, 1) := by decide +kernel
theorem d_R_many_16 : decode prog_9_method_37_code 16 = .ok (.invokevirtual 190, 3) := by decide +kernel
theorem d_R_many_19 : decode prog_9_method_37_code 19 = .ok (.return_, 1) := by decide +kernel
theorem d_R_many_20 : decode prog_9_method_37_code 20 = .ok (.aload_n 0, 1) := by decide +kernel
theorem d_R_many_21 : decode prog_9_method_37_code 21 = .ok (.getfield 53, 3) := by decide +kernel
theorem d_R_many_24 : decode prog_9_method_37_code 24 = .ok (.iload_n 1, 1) := by decide +kernel
theorem d_R_many_25 : decode prog_9_method_37_code 25 = .ok (.aload_n 0, 1) := by decide +kernel
theorem d_R_many_26 : decode prog_9_method_37_code 26 = .ok (.getfield 16, 3) := by decide +kernel
theorem d_R_many_29 : decode prog_9_method_37_code 29 = .ok (.iload_n 2, 1) := by decide +kernel
theorem d_R_many_30 : decode prog_9_method_37_code 30 = .ok (.iaload, 1) := by decide +kernel
theorem d_R_many_31 : decode prog_9_method_37_code 31 = .ok (.aload_n 0, 1) := by decide +kernel
theorem d_R_many_32 : decode prog_9_method_37_code 32 = .ok (.getfield 53, 3) := by decide +kernel
theorem d_R_many_35 : decode prog_9_method_37_code 35 = .ok (.iload_n 1, 1) := by decide +kernel
theorem d_R_many_36 : decode prog_9_method_37_code 36 = .ok (.iaload, 1) := by decide +kernel
theorem d_R_many_37 : decode prog_9_method_37_code 37 = .ok (.aload_n 0, 1) := by decide +kernel
theorem d_R_many_38 : decode prog_9_method_37_code 38 = .ok (.getfield 147, 3) := by decide +kernel
theorem d_R_many_41 : decode prog_9_method_37_code 41 = .ok (.invokestatic 187, 3) := by decide +kernel
theorem d_R_many_44 : decode prog_9_method_37_code 44 = .ok (.iastore, 1) := by decide +kernel
theorem d_R_many_45 : decode prog_9_method_37_code 45 = .ok (.aload_n 0, 1) := by decide +kernel
theorem d_R_many_46 : decode prog_9_method_37_code 46 = .ok (.getfield 56, 3) := by decide +kernel
theorem d_R_many_49 : decode prog_9_method_37_code 49 = .ok (.iload_n 1, 1) := by decide +kernel
theorem d_R_many_50 : decode prog_9_method_37_code 50 = .ok (.aload_n 0, 1) := by decide +kernel
theorem d_R_many_51 : decode prog_9_method_37_code 51 = .ok (.getfield 141, 3) := by decide +kernel
theorem d_R_many_54 : decode prog_9_method_37_code 54 = .ok (.iastore, 1) := by decide +kernel
theorem d_R_many_55 : decode prog_9_method_37_code 55 = .ok (.aload_n 0, 1) := by decide +kernel
theorem d_R_many_56 : decode prog_9_method_37_code 56 = .ok (.aload_n 0, 1) := by decide +kernel
theorem d_R_many_57 : decode prog_9_method_37_code 57 = .ok (.getfield 13, 3) := by decide +kernel
theorem d_R_many_60 : decode prog_9_method_37_code 60 = .ok (.iload_n 2, 1) := by decide +kernel
theorem d_R_many_61 : decode prog_9_method_37_code 61 = .ok (.iaload, 1) := by decide +kernel
theorem d_R_many_62 : decode prog_9_method_37_code 62 = .ok (.invokevirtual 175, 3) := by decide +kernel
theorem d_R_many_65 : decode prog_9_method_37_code 65 = .ok (.return_, 1) := by decide +kernel
section RW
variable {p : Program} {l : Launch} {e : Env} {R : Room} {s : State} {m : MethodId} {args : Array Value} {below : List Frame} {meth : Method} {c : Code} {H : Heap} {locs : List Loc} {cells slots : Nat} {Q : State → Prop}
variable {cc : ByteArray} {pc : Nat} {ls : Array Slot} {rest : List Value} {dC : Nat → ClassId} {dI : Nat → Nat → Nat} {q : Nat → Nat} {cA : Nat → ClassId} {σ : MZ_} {H0 : Heap} {A : Nat → Prop}

theorem cw_R_190 (hts : ∀ w ∈ AW_, w.before args s = true) (hR : rm_R_ends.frames + 1 ≤ R.frames ∧ 8 + (2 + 11) + rm_R_ends.locals ≤ R.locals) : CallW R s args "StagedParsersModel" "StagedParsersModel" 190 y_R_ends prog_9_method_36_code 2 none w_R_ends rm_R_ends 0 0 1 :=
  ⟨callB_of 1 hts (aw_in kw_1061) rfl rfl rfl (hts _ kw_9) (hts _ kw_1058) ⟨by decide, by decide, by decide +kernel⟩ hR, hts _ kw_1060, hts _ ks_63⟩
end RW
def f_R_many (σ : MZ_) (a1 : Int32) : Option (MZ_) :=
  gd_ a1 400 (if (σ 35 0) = 0 then (f_R_ends σ a1).bind fun u3 => some u3
  else gd_ (σ 12 a1.toNatClampNeg) 80 (gd_ a1 400 ((f_R_joined (σ 3 (σ 12 a1.toNatClampNeg).toNatClampNeg) (σ 15 a1.toNatClampNeg) (σ 37 0)).bind fun r1 => gd_ a1 400 (st_ (va_up σ 15 (upd (σ 15) a1.toNatClampNeg r1)) fun σ1 => gd_ a1 400 (st_ (va_up σ1 16 (upd (σ1 16) a1.toNatClampNeg (σ1 36 0))) fun σ2 => gd_ (σ 12 a1.toNatClampNeg) 80 ((f_R_enter σ2 (σ2 2 (σ 12 a1.toNatClampNeg).toNatClampNeg)).bind fun u2 => some u2))))))
set_option maxHeartbeats 4000000 in
set_option maxRecDepth 100000 in
theorem c_R_many (l : Launch) (dC : Nat → ClassId) (dI : Nat → Nat → Nat) (q : Nat → Nat) (cA : Nat → ClassId) (σ : MZ_) (a1 : Int32) (u : MZ_) (h : f_R_many σ a1 = some u) : Met l y_R_many w_R_many rm_R_many (va_Pc [.ref (q 0), .int a1] (PRx_ dC dI q cA σ)) (QW_ none (fun H => va_P (dC, dI) cls_ (wR q cA u) H) (AR q)) 0 0 (AR q) := by
  refine Met.ofW (cc := prog_9_method_37_code) (maxL := 3) (ret := none) (by decide) rfl ?_
  intro p e s m args below meth c s₁ B hml hv
  obtain ⟨rfl, hP, hK, hD, hN, hZ⟩ := hv
  have hx := B.exec
  have hb := B.bytes
  have hr := B.returns
  have hts : ∀ w ∈ AW_, w.before _ s = true := fun w h => atoms_spec (ws := w_R_many) B.pre w (List.mem_cons_of_mem _ h)
  have hown : s.vm.findClass "StagedParsersModel" = some m.cls := findClass_of_methodNamed B.named
  have hlocks := B.notSynchronized
  have hS : va_S (AR q) s.heap s.heap [] := va_S.rf
  have hl := lv_entry ([.ref (q 0), .int a1]) (n := 3) (Nat.le_of_ble_eq_true rfl)
  rw [lg_entry_eq]
  generalize (lg_sl ([.ref (q 0), .int a1]) ++ List.replicate (3 - (lg_sl ([.ref (q 0), .int a1])).length) Slot.unset).toArray = ls at hl ⊢
  have hl : lv_has ls 3 [(0, .ref (q 0)), (1, .int a1)] := hl
  rw [f_R_many] at h
  refine lv_aload_n hx hb d_R_many_0 rfl (lv_at hl 0 rfl) ?_
  refine gf_R_44 hx hb hts hown hK hP d_R_many_1 ?_
  refine lv_iload_n hx hb d_R_many_4 rfl (lv_at hl 1 rfl) ?_
  obtain ⟨hgd, h⟩ := gd_some h
  refine al_R_12 hx hb hK hP hgd d_R_many_5 ?_
  refine lv_istore_n hx hb d_R_many_6 rfl hl (by decide) rfl (fun ls hl => ?_)
  have hl : lv_has ls 3 [(2, .int (σ 12 a1.toNatClampNeg)), (0, .ref (q 0)), (1, .int a1)] := hl
  refine lv_aload_n hx hb d_R_many_7 rfl (lv_at hl 1 rfl) ?_
  refine gf_R_144 hx hb hts hown hK hP d_R_many_8 ?_
  refine lv_if_ne (tgt := 20) hx hb d_R_many_11 rfl (fun hc => ?_) (fun hc => ?_)
  · have h := if_f hc h
    refine lv_aload_n hx hb d_R_many_20 rfl (lv_at hl 1 rfl) ?_
    refine gf_R_53 hx hb hts hown hK hP d_R_many_21 ?_
    refine lv_iload_n hx hb d_R_many_24 rfl (lv_at hl 2 rfl) ?_
    refine lv_aload_n hx hb d_R_many_25 rfl (lv_at hl 1 rfl) ?_
    refine gf_R_16 hx hb hts hown hK hP d_R_many_26 ?_
    refine lv_iload_n hx hb d_R_many_29 rfl (lv_at hl 0 rfl) ?_
    obtain ⟨hgd, h⟩ := gd_some h
    refine al_R_3 hx hb hK hP hgd d_R_many_30 ?_
    refine lv_aload_n hx hb d_R_many_31 rfl (lv_at hl 1 rfl) ?_
    refine gf_R_53 hx hb hts hown hK hP d_R_many_32 ?_
    refine lv_iload_n hx hb d_R_many_35 rfl (lv_at hl 2 rfl) ?_
    obtain ⟨hgd, h⟩ := gd_some h
    refine al_R_15 hx hb hK hP hgd d_R_many_36 ?_
    refine lv_aload_n hx hb d_R_many_37 rfl (lv_at hl 1 rfl) ?_
    refine gf_R_147 hx hb hts hown hK hP d_R_many_38 ?_
    obtain ⟨r1, hcl, h⟩ := bd_some h
    refine cx_read (va_runS (As := [.int (σ 3 (σ 12 a1.toNatClampNeg).toNatClampNeg), .int (σ 15 a1.toNatClampNeg), .int (σ 37 0)]) (rest := [.int a1, .ref (q 15)]) ⟨hx, hb, hml, hown, hts⟩ (c_R_joined l dC dI q cA σ (σ 3 (σ 12 a1.toNatClampNeg).toNatClampNeg) (σ 15 a1.toNatClampNeg) (σ 37 0) _ hcl) (cw_R_187 hts ⟨Nat.le_of_ble_eq_true rfl, Nat.le_of_ble_eq_true rfl⟩) ⟨pxR_B, pxR_U hP hK hD hN hZ hS⟩ rfl rfl hl.1 rfl (lv_room (Nat.le_of_ble_eq_true rfl)) d_R_many_41 ⟨Nat.zero_le _, Nat.zero_le _⟩) ?_
    obtain ⟨hgd, h⟩ := gd_some h
    refine as_R_15 hx hb hK hP hD hS hgd d_R_many_44 (fun H locs hP hS => ?_)
    obtain ⟨σ1, eσ1, h⟩ := st_some h
    rw [← eσ1] at hP
    have hD : va_D (AR q) (wR q cA σ1) := dd_re (wR_f _ _ _ _) hD
    refine lv_aload_n hx hb d_R_many_45 rfl (lv_at hl 1 rfl) ?_
    refine gf_R_56 hx hb hts hown hK hP d_R_many_46 ?_
    refine lv_iload_n hx hb d_R_many_49 rfl (lv_at hl 2 rfl) ?_
    refine lv_aload_n hx hb d_R_many_50 rfl (lv_at hl 1 rfl) ?_
    refine gf_R_141 hx hb hts hown hK hP d_R_many_51 ?_
    obtain ⟨hgd, h⟩ := gd_some h
    refine as_R_16 hx hb hK hP hD hS hgd d_R_many_54 (fun H locs hP hS => ?_)
    obtain ⟨σ2, eσ2, h⟩ := st_some h
    rw [← eσ2] at hP
    have hD : va_D (AR q) (wR q cA σ2) := dd_re (wR_f _ _ _ _) hD
    refine lv_aload_n hx hb d_R_many_55 rfl (lv_at hl 1 rfl) ?_
    refine lv_aload_n hx hb d_R_many_56 rfl (lv_at hl 1 rfl) ?_
    refine gf_R_13 hx hb hts hown hK hP d_R_many_57 ?_
    refine lv_iload_n hx hb d_R_many_60 rfl (lv_at hl 0 rfl) ?_
    obtain ⟨hgd, h⟩ := gd_some h
    refine al_R_2 hx hb hK hP hgd d_R_many_61 ?_
    obtain ⟨u2, hcl, h⟩ := bd_some h
    refine cx_wrv (va_runV (As := [.int (σ2 2 (σ 12 a1.toNatClampNeg).toNatClampNeg)]) (rest := []) ⟨hx, hb, hml, hown, hts⟩ (c_R_enter l dC dI q cA σ2 (σ2 2 (σ 12 a1.toNatClampNeg).toNatClampNeg) _ hcl) (cw_R_175 hts ⟨Nat.le_of_ble_eq_true rfl, Nat.le_of_ble_eq_true rfl⟩) ⟨pxR_B, va_recv hK hP (ci := 7) (q0 := 0) rfl rfl, pxR_U hP hK hD hN hZ hS⟩ rfl rfl hl.1 rfl (lv_room (Nat.le_of_ble_eq_true rfl)) d_R_many_62 ⟨Nat.zero_le _, Nat.zero_le _⟩) hS (fun _ h => h) (fun H locs hP hS => ?_)
    have hD : va_D (AR q) (wR q cA u2) := dd_re (wR_f _ _ _ _) hD
    obtain rfl := Option.some.inj h
    exact W.vret hx hb hr (fun t ht hW => ⟨rfl, by rw [ht]; exact hP, hS.F ht⟩) hS.2.2 d_R_many_65
  · have h := if_t hc h
    refine lv_aload_n hx hb d_R_many_14 rfl (lv_at hl 1 rfl) ?_
    refine lv_iload_n hx hb d_R_many_15 rfl (lv_at hl 2 rfl) ?_
    obtain ⟨u3, hcl, h⟩ := bd_some h
    refine cx_wrv (va_runV (As := [.int a1]) (rest := []) ⟨hx, hb, hml, hown, hts⟩ (c_R_ends l dC dI q cA σ a1 _ hcl) (cw_R_190 hts ⟨Nat.le_of_ble_eq_true rfl, Nat.le_of_ble_eq_true rfl⟩) ⟨pxR_B, va_recv hK hP (ci := 7) (q0 := 0) rfl rfl, pxR_U hP hK hD hN hZ hS⟩ rfl rfl hl.1 rfl (lv_room (Nat.le_of_ble_eq_true rfl)) d_R_many_16 ⟨Nat.zero_le _, Nat.zero_le _⟩) hS (fun _ h => h) (fun H locs hP hS => ?_)
    have hD : va_D (AR q) (wR q cA u3) := dd_re (wR_f _ _ _ _) hD
    obtain rfl := Option.some.inj h
    exact W.vret hx hb hr (fun t ht hW => ⟨rfl, by rw [ht]; exact hP, hS.F ht⟩) hS.2.2 d_R_many_19
def y_R_chain : MethodName := ⟨"StagedParsersModel", "chain", "(I)V"⟩
def w_R_chain : List Cond := .code y_R_chain prog_9_method_38_code 4 none :: AW_
def rm_R_chain : Room := { frames := 2, cells := 0, slots := 0, locals := 42 }
theorem d_R_chain_0 : decode prog_9_method_38_code 0 = .ok (.aload_n 0, 1) := by decide +kernel
theorem d_R_chain_1 : decode prog_9_method_38_code 1 = .ok (.getfield 44, 3) := by decide +kernel
theorem d_R_chain_4 : decode prog_9_method_38_code 4 = .ok (.iload_n 1, 1) := by decide +kernel
theorem d_R_chain_5 : decode prog_9_method_38_code 5 = .ok (.iaload, 1) := by decide +kernel
theorem d_R_chain_6 : decode prog_9_method_38_code 6 = .ok (.istore_n 2, 1) := by decide +kernel
theorem d_R_chain_7 : decode prog_9_method_38_code 7 = .ok (.aload_n 0, 1) := by decide +kernel
theorem d_R_chain_8 : decode prog_9_method_38_code 8 = .ok (.getfield 144, 3) := by decide +kernel
theorem d_R_chain_11 : decode prog_9_method_38_code 11 = .ok (.ifCond .ne 28, 3) := by decide +kernel
theorem d_R_chain_14 : decode prog_9_method_38_code 14 = .ok (.aload_n 0, 1) := by decide +kernel
theorem d_R_chain_15 : decode prog_9_method_38_code 15 = .ok (.getfield 47, 3) := by decide +kernel
theorem d_R_chain_18 : decode prog_9_method_38_code 18 = .ok (.iload_n 1, 1) := by decide +kernel
theorem d_R_chain_19 : decode prog_9_method_38_code 19 = .ok (.iaload, 1) := by decide +kernel
theorem d_R_chain_20 : decode prog_9_method_38_code 20 = .ok (.iconst 1, 1) := by decide +kernel
theorem d_R_chain_21 : decode prog_9_method_38_code 21 = .ok (.if_icmp .ne 10, 3) := by decide +kernel
theorem d_R_chain_24 : decode prog_9_method_38_code 24 = .ok (.aload_n 0, 1) := by decide +kernel
theorem d_R_chain_25 : decode prog_9_method_38_code 25 = .ok (.invokevirtual 162, 3) := by decide +kernel
theorem d_R_chain_28 : decode prog_9_method_38_code 28 = .ok (.goto 162, 3) := by decide +kernel
theorem d_R_chain_31 : decode prog_9_method_38_code 31 = .ok (.aload_n 0, 1) := by decide +kernel
theorem d_R_chain_32 : decode prog_9_method_38_code 32 = .ok (.iload_n 1, 1) := by decide +kernel
theorem d_R_chain_33 : decode prog_9_method_38_code 33 = .ok (.invokevirtual 190, 3) := by decide +kernel
theorem d_R_chain_36 : decode prog_9_method_38_code 36 = .ok (.goto 154, 3) := by decide +kernel
theorem d_R_chain_39 : decode prog_9_method_38_code 39 = .ok (.aload_n 0, 1) := by decide +kernel
theorem d_R_chain_40 : decode prog_9_method_38_code 40 = .ok (.getfield 47, 3) := by decide +kernel
theorem d_R_chain_43 : decode prog_9_method_38_code 43 = .ok (.iload_n 1, 1) := by decide +kernel
theorem d_R_chain_44 : decode prog_9_method_38_code 44 = .ok (.iaload, 1) := by decide +kernel
theorem d_R_chain_45 : decode prog_9_method_38_code 45 = .ok (.iconst 2, 1) := by decide +kernel
theorem d_R_chain_46 : decode prog_9_method_38_code 46 = .ok (.if_icmp .ne 33, 3) := by decide +kernel
theorem d_R_chain_49 : decode prog_9_method_38_code 49 = .ok (.aload_n 0, 1) := by decide +kernel
theorem d_R_chain_50 : decode prog_9_method_38_code 50 = .ok (.getfield 59, 3) := by decide +kernel
theorem d_R_chain_53 : decode prog_9_method_38_code 53 = .ok (.iload_n 1, 1) := by decide +kernel
theorem d_R_chain_54 : decode prog_9_method_38_code 54 = .ok (.aload_n 0, 1) := by decide +kernel
theorem d_R_chain_55 : decode prog_9_method_38_code 55 = .ok (.getfield 147, 3) := by decide +kernel
theorem d_R_chain_58 : decode prog_9_method_38_code 58 = .ok (.iastore, 1) := by decide +kernel
theorem d_R_chain_59 : decode prog_9_method_38_code 59 = .ok (.aload_n 0, 1) := by decide +kernel
theorem d_R_chain_60 : decode prog_9_method_38_code 60 = .ok (.getfield 47, 3) := by decide +kernel
theorem d_R_chain_63 : decode prog_9_method_38_code 63 = .ok (.iload_n 1, 1) := by decide +kernel
theorem d_R_chain_64 : decode prog_9_method_38_code 64 = .ok (.iconst 3, 1) := by decide +kernel
theorem d_R_chain_65 : decode prog_9_method_38_code 65 = .ok (.iastore, 1) := by decide +kernel
theorem d_R_chain_66 : decode prog_9_method_38_code 66 = .ok (.aload_n 0, 1) := by decide +kernel
theorem d_R_chain_67 : decode prog_9_method_38_code 67 = .ok (.aload_n 0, 1) := by decide +kernel
theorem d_R_chain_68 : decode prog_9_method_38_code 68 = .ok (.getfield 13, 3) := by decide +kernel
theorem d_R_chain_71 : decode prog_9_method_38_code 71 = .ok (.iload_n 2, 1) := by decide +kernel
theorem d_R_chain_72 : decode prog_9_method_38_code 72 = .ok (.iaload, 1) := by decide +kernel
theorem d_R_chain_73 : decode prog_9_method_38_code 73 = .ok (.invokevirtual 175, 3) := by decide +kernel
theorem d_R_chain_76 : decode prog_9_method_38_code 76 = .ok (.goto 114, 3) := by decide +kernel
theorem d_R_chain_79 : decode prog_9_method_38_code 79 = .ok (.aload_n 0, 1) := by decide +kernel
theorem d_R_chain_80 : decode prog_9_method_38_code 80 = .ok (.getfield 59, 3) := by decide +kernel
theorem d_R_chain_83 : decode prog_9_method_38_code 83 = .ok (.iload_n 1, 1) := by decide +kernel
theorem d_R_chain_84 : decode prog_9_method_38_code 84 = .ok (.iaload, 1) := by decide +kernel
theorem d_R_chain_85 : decode prog_9_method_38_code 85 = .ok (.bipush 43, 2) := by decide +kernel
theorem d_R_chain_87 : decode prog_9_method_38_code 87 = .ok (.if_icmp .ne 7, 3) := by decide +kernel
theorem d_R_chain_90 : decode prog_9_method_38_code 90 = .ok (.iconst 2, 1) := by decide +kernel
theorem d_R_chain_91 : decode prog_9_method_38_code 91 = .ok (.goto 34, 3) := by decide +kernel
theorem d_R_chain_94 : decode prog_9_method_38_code 94 = .ok (.aload_n 0, 1) := by decide +kernel
theorem d_R_chain_95 : decode prog_9_method_38_code 95 = .ok (.getfield 59, 3) := by decide +kernel
theorem d_R_chain_98 : decode prog_9_method_38_code 98 = .ok (.iload_n 1, 1) := by decide +kernel
theorem d_R_chain_99 : decode prog_9_method_38_code 99 = .ok (.iaload, 1) := by decide +kernel
theorem d_R_chain_100 : decode prog_9_method_38_code 100 = .ok (.bipush 45, 2) := by decide +kernel
theorem d_R_chain_102 : decode prog_9_method_38_code 102 = .ok (.if_icmp .ne 7, 3) := by decide +kernel
theorem d_R_chain_105 : decode prog_9_method_38_code 105 = .ok (.iconst 3, 1) := by decide +kernel
theorem d_R_chain_106 : decode prog_9_method_38_code 106 = .ok (.goto 19, 3) := by decide +kernel
theorem d_R_chain_109 : decode prog_9_method_38_code 109 = .ok (.aload_n 0, 1) := by decide +kernel
theorem d_R_chain_110 : decode prog_9_method_38_code 110 = .ok (.getfield 59, 3) := by decide +kernel
theorem d_R_chain_113 : decode prog_9_method_38_code 113 = .ok (.iload_n 1, 1) := by decide +kernel
theorem d_R_chain_114 : decode prog_9_method_38_code 114 = .ok (.iaload, 1) := by decide +kernel
theorem d_R_chain_115 : decode prog_9_method_38_code 115 = .ok (.bipush 42, 2) := by decide +kernel
theorem d_R_chain_117 : decode prog_9_method_38_code 117 = .ok (.if_icmp .ne 7, 3) := by decide +kernel
theorem d_R_chain_120 : decode prog_9_method_38_code 120 = .ok (.iconst 4, 1) := by decide +kernel
theorem d_R_chain_121 : decode prog_9_method_38_code 121 = .ok (.goto 4, 3) := by decide +kernel
theorem d_R_chain_124 : decode prog_9_method_38_code 124 = .ok (.iconst 0, 1) := by decide +kernel
theorem d_R_chain_125 : decode prog_9_method_38_code 125 = .ok (.istore_n 3, 1) := by decide +kernel
theorem d_R_chain_126 : decode prog_9_method_38_code 126 = .ok (.aload_n 0, 1) := by decide +kernel
theorem d_R_chain_127 : decode prog_9_method_38_code 127 = .ok (.getfield 53, 3) := by decide +kernel
theorem d_R_chain_130 : decode prog_9_method_38_code 130 = .ok (.iload_n 1, 1) := by decide +kernel
theorem d_R_chain_131 : decode prog_9_method_38_code 131 = .ok (.aload_n 0, 1) := by decide +kernel
theorem d_R_chain_132 : decode prog_9_method_38_code 132 = .ok (.getfield 47, 3) := by decide +kernel
theorem d_R_chain_135 : decode prog_9_method_38_code 135 = .ok (.iload_n 1, 1) := by decide +kernel
theorem d_R_chain_136 : decode prog_9_method_38_code 136 = .ok (.iaload, 1) := by decide +kernel
theorem d_R_chain_137 : decode prog_9_method_38_code 137 = .ok (.iconst 1, 1) := by decide +kernel
theorem d_R_chain_138 : decode prog_9_method_38_code 138 = .ok (.if_icmp .ne 10, 3) := by decide +kernel
theorem d_R_chain_141 : decode prog_9_method_38_code 141 = .ok (.aload_n 0, 1) := by decide +kernel
theorem d_R_chain_142 : decode prog_9_method_38_code 142 = .ok (.getfield 147, 3) := by decide +kernel
theorem d_R_chain_145 : decode prog_9_method_38_code 145 = .ok (.goto 17, 3) := by decide +kernel
theorem d_R_chain_148 : decode prog_9_method_38_code 148 = .ok (.iload_n 3, 1) := by decide +kernel
theorem d_R_chain_149 : decode prog_9_method_38_code 149 = .ok (.aload_n 0, 1) := by decide +kernel
theorem d_R_chain_150 : decode prog_9_method_38_code 150 = .ok (.getfield 53, 3) := by decide +kernel
theorem d_R_chain_153 : decode prog_9_method_38_code 153 = .ok (.iload_n 1, 1) := by decide +kernel
theorem d_R_chain_154 : decode prog_9_method_38_code 154 = .ok (.iaload, 1) := by decide +kernel
theorem d_R_chain_155 : decode prog_9_method_38_code 155 = .ok (.aload_n 0, 1) := by decide +kernel
theorem d_R_chain_156 : decode prog_9_method_38_code 156 = .ok (.getfield 147, 3) := by decide +kernel
theorem d_R_chain_159 : decode prog_9_method_38_code 159 = .ok (.invokestatic 187, 3) := by decide +kernel
theorem d_R_chain_162 : decode prog_9_method_38_code 162 = .ok (.iastore, 1) := by decide +kernel
theorem d_R_chain_163 : decode prog_9_method_38_code 163 = .ok (.aload_n 0, 1) := by decide +kernel
theorem d_R_chain_164 : decode prog_9_method_38_code 164 = .ok (.getfield 56, 3) := by decide +kernel
theorem d_R_chain_167 : decode prog_9_method_38_code 167 = .ok (.iload_n 1, 1) := by decide +kernel
theorem d_R_chain_168 : decode prog_9_method_38_code 168 = .ok (.aload_n 0, 1) := by decide +kernel
theorem d_R_chain_169 : decode prog_9_method_38_code 169 = .ok (.getfield 141, 3) := by decide +kernel
theorem d_R_chain_172 : decode prog_9_method_38_code 172 = .ok (.iastore, 1) := by decide +kernel
theorem d_R_chain_173 : decode prog_9_method_38_code 173 = .ok (.aload_n 0, 1) := by decide +kernel
theorem d_R_chain_174 : decode prog_9_method_38_code 174 = .ok (.getfield 47, 3) := by decide +kernel
theorem d_R_chain_177 : decode prog_9_method_38_code 177 = .ok (.iload_n 1, 1) := by decide +kernel
theorem d_R_chain_178 : decode prog_9_method_38_code 178 = .ok (.iconst 2, 1) := by decide +kernel
theorem d_R_chain_179 : decode prog_9_method_38_code 179 = .ok (.iastore, 1) := by decide +kernel
theorem d_R_chain_180 : decode prog_9_method_38_code 180 = .ok (.aload_n 0, 1) := by decide +kernel
theorem d_R_chain_181 : decode prog_9_method_38_code 181 = .ok (.aload_n 0, 1) := by decide +kernel
theorem d_R_chain_182 : decode prog_9_method_38_code 182 = .ok (.getfield 16, 3) := by decide +kernel
theorem d_R_chain_185 : decode prog_9_method_38_code 185 = .ok (.iload_n 2, 1) := by decide +kernel
theorem d_R_chain_186 : decode prog_9_method_38_code 186 = .ok (.iaload, 1) := by decide +kernel
theorem d_R_chain_187 : decode prog_9_method_38_code 187 = .ok (.invokevirtual 175, 3) := by decide +kernel
theorem d_R_chain_190 : decode prog_9_method_38_code 190 = .ok (.return_, 1) := by decide +kernel
def f_R_chain (σ : MZ_) (a1 : Int32) : Option (MZ_) :=
  gd_ a1 400 (if (σ 35 0) = 0 then gd_ a1 400 (if (σ 13 a1.toNatClampNeg) = 1 then (f_R_fail σ).bind fun u15 => some u15
    else (f_R_ends σ a1).bind fun u14 => some u14)
  else gd_ a1 400 (if (σ 13 a1.toNatClampNeg) = 2 then gd_ a1 400 (st_ (va_up σ 17 (upd (σ 17) a1.toNatClampNeg (σ 37 0))) fun σ25 => gd_ a1 400 (st_ (va_up σ25 13 (upd (σ25 13) a1.toNatClampNeg 3)) fun σ26 => gd_ (σ 12 a1.toNatClampNeg) 80 ((f_R_enter σ26 (σ26 2 (σ 12 a1.toNatClampNeg).toNatClampNeg)).bind fun u13 => some u13)))
  else gd_ a1 400 (if (σ 17 a1.toNatClampNeg) = 43 then gd_ a1 400 (if (σ 13 a1.toNatClampNeg) = 1 then gd_ a1 400 (st_ (va_up σ 15 (upd (σ 15) a1.toNatClampNeg (σ 37 0))) fun σ22 => gd_ a1 400 (st_ (va_up σ22 16 (upd (σ22 16) a1.toNatClampNeg (σ22 36 0))) fun σ23 => gd_ a1 400 (st_ (va_up σ23 13 (upd (σ23 13) a1.toNatClampNeg 2)) fun σ24 => gd_ (σ 12 a1.toNatClampNeg) 80 ((f_R_enter σ24 (σ24 3 (σ 12 a1.toNatClampNeg).toNatClampNeg)).bind fun u12 => some u12))))
    else gd_ a1 400 ((f_R_joined 2 (σ 15 a1.toNatClampNeg) (σ 37 0)).bind fun r10 => gd_ a1 400 (st_ (va_up σ 15 (upd (σ 15) a1.toNatClampNeg r10)) fun σ19 => gd_ a1 400 (st_ (va_up σ19 16 (upd (σ19 16) a1.toNatClampNeg (σ19 36 0))) fun σ20 => gd_ a1 400 (st_ (va_up σ20 13 (upd (σ20 13) a1.toNatClampNeg 2)) fun σ21 => gd_ (σ 12 a1.toNatClampNeg) 80 ((f_R_enter σ21 (σ21 3 (σ 12 a1.toNatClampNeg).toNatClampNeg)).bind fun u11 => some u11))))))
  else gd_ a1 400 (if (σ 17 a1.toNatClampNeg) = 45 then gd_ a1 400 (if (σ 13 a1.toNatClampNeg) = 1 then gd_ a1 400 (st_ (va_up σ 15 (upd (σ 15) a1.toNatClampNeg (σ 37 0))) fun σ16 => gd_ a1 400 (st_ (va_up σ16 16 (upd (σ16 16) a1.toNatClampNeg (σ16 36 0))) fun σ17 => gd_ a1 400 (st_ (va_up σ17 13 (upd (σ17 13) a1.toNatClampNeg 2)) fun σ18 => gd_ (σ 12 a1.toNatClampNeg) 80 ((f_R_enter σ18 (σ18 3 (σ 12 a1.toNatClampNeg).toNatClampNeg)).bind fun u9 => some u9))))
    else gd_ a1 400 ((f_R_joined 3 (σ 15 a1.toNatClampNeg) (σ 37 0)).bind fun r7 => gd_ a1 400 (st_ (va_up σ 15 (upd (σ 15) a1.toNatClampNeg r7)) fun σ13 => gd_ a1 400 (st_ (va_up σ13 16 (upd (σ13 16) a1.toNatClampNeg (σ13 36 0))) fun σ14 => gd_ a1 400 (st_ (va_up σ14 13 (upd (σ14 13) a1.toNatClampNeg 2)) fun σ15 => gd_ (σ 12 a1.toNatClampNeg) 80 ((f_R_enter σ15 (σ15 3 (σ 12 a1.toNatClampNeg).toNatClampNeg)).bind fun u8 => some u8))))))
  else gd_ a1 400 (if (σ 17 a1.toNatClampNeg) = 42 then gd_ a1 400 (if (σ 13 a1.toNatClampNeg) = 1 then gd_ a1 400 (st_ (va_up σ 15 (upd (σ 15) a1.toNatClampNeg (σ 37 0))) fun σ10 => gd_ a1 400 (st_ (va_up σ10 16 (upd (σ10 16) a1.toNatClampNeg (σ10 36 0))) fun σ11 => gd_ a1 400 (st_ (va_up σ11 13 (upd (σ11 13) a1.toNatClampNeg 2)) fun σ12 => gd_ (σ 12 a1.toNatClampNeg) 80 ((f_R_enter σ12 (σ12 3 (σ 12 a1.toNatClampNeg).toNatClampNeg)).bind fun u6 => some u6))))
    else gd_ a1 400 ((f_R_joined 4 (σ 15 a1.toNatClampNeg) (σ 37 0)).bind fun r4 => gd_ a1 400 (st_ (va_up σ 15 (upd (σ 15) a1.toNatClampNeg r4)) fun σ7 => gd_ a1 400 (st_ (va_up σ7 16 (upd (σ7 16) a1.toNatClampNeg (σ7 36 0))) fun σ8 => gd_ a1 400 (st_ (va_up σ8 13 (upd (σ8 13) a1.toNatClampNeg 2)) fun σ9 => gd_ (σ 12 a1.toNatClampNeg) 80 ((f_R_enter σ9 (σ9 3 (σ 12 a1.toNatClampNeg).toNatClampNeg)).bind fun u5 => some u5))))))
  else gd_ a1 400 (if (σ 13 a1.toNatClampNeg) = 1 then gd_ a1 400 (st_ (va_up σ 15 (upd (σ 15) a1.toNatClampNeg (σ 37 0))) fun σ4 => gd_ a1 400 (st_ (va_up σ4 16 (upd (σ4 16) a1.toNatClampNeg (σ4 36 0))) fun σ5 => gd_ a1 400 (st_ (va_up σ5 13 (upd (σ5 13) a1.toNatClampNeg 2)) fun σ6 => gd_ (σ 12 a1.toNatClampNeg) 80 ((f_R_enter σ6 (σ6 3 (σ 12 a1.toNatClampNeg).toNatClampNeg)).bind fun u3 => some u3))))
  else gd_ a1 400 ((f_R_joined 0 (σ 15 a1.toNatClampNeg) (σ 37 0)).bind fun r1 => gd_ a1 400 (st_ (va_up σ 15 (upd (σ 15) a1.toNatClampNeg r1)) fun σ1 => gd_ a1 400 (st_ (va_up σ1 16 (upd (σ1 16) a1.toNatClampNeg (σ1 36 0))) fun σ2 => gd_ a1 400 (st_ (va_up σ2 13 (upd (σ2 13) a1.toNatClampNeg 2)) fun σ3 => gd_ (σ 12 a1.toNatClampNeg) 80 ((f_R_enter σ3 (σ3 3 (σ 12 a1.toNatClampNeg).toNatClampNeg)).bind fun u2 => some u2)))))))))))
set_option maxHeartbeats 4000000 in
set_option maxRecDepth 100000 in
theorem c_R_chain (l : Launch) (dC : Nat → ClassId) (dI : Nat → Nat → Nat) (q : Nat → Nat) (cA : Nat → ClassId) (σ : MZ_) (a1 : Int32) (u : MZ_) (h : f_R_chain σ a1 = some u) : Met l y_R_chain w_R_chain rm_R_chain (va_Pc [.ref (q 0), .int a1] (PRx_ dC dI q cA σ)) (QW_ none (fun H => va_P (dC, dI) cls_ (wR q cA u) H) (AR q)) 0 0 (AR q) := by
  refine Met.ofW (cc := prog_9_method_38_code) (maxL := 4) (ret := none) (by decide) rfl ?_
  intro p e s m args below meth c s₁ B hml hv
  obtain ⟨rfl, hP, hK, hD, hN, hZ⟩ := hv
  have hx := B.exec
  have hb := B.bytes
  have hr := B.returns
  have hts : ∀ w ∈ AW_, w.before _ s = true := fun w h => atoms_spec (ws := w_R_chain) B.pre w (List.mem_cons_of_mem _ h)
  have hown : s.vm.findClass "StagedParsersModel" = some m.cls := findClass_of_methodNamed B.named
  have hlocks := B.notSynchronized
  have hS : va_S (AR q) s.heap s.heap [] := va_S.rf
  have hl := lv_entry ([.ref (q 0), .int a1]) (n := 4) (Nat.le_of_ble_eq_true rfl)
  rw [lg_entry_eq]
  generalize (lg_sl ([.ref (q 0), .int a1]) ++ List.replicate (4 - (lg_sl ([.ref (q 0), .int a1])).length) Slot.unset).toArray = ls at hl ⊢
  have hl : lv_has ls 4 [(0, .ref (q 0)), (1, .int a1)] := hl
  rw [f_R_chain] at h
  refine lv_aload_n hx hb d_R_chain_0 rfl (lv_at hl 0 rfl) ?_
  refine gf_R_44 hx hb hts hown hK hP d_R_chain_1 ?_
  refine lv_iload_n hx hb d_R_chain_4 rfl (lv_at hl 1 rfl) ?_
  obtain ⟨hgd, h⟩ := gd_some h
  refine al_R_12 hx hb hK hP hgd d_R_chain_5 ?_
  refine lv_istore_n hx hb d_R_chain_6 rfl hl (by decide) rfl (fun ls hl => ?_)
  have hl : lv_has ls 4 [(2, .int (σ 12 a1.toNatClampNeg)), (0, .ref (q 0)), (1, .int a1)] := hl
  refine lv_aload_n hx hb d_R_chain_7 rfl (lv_at hl 1 rfl) ?_
  refine gf_R_144 hx hb hts hown hK hP d_R_chain_8 ?_
  refine lv_if_ne (tgt := 39) hx hb d_R_chain_11 rfl (fun hc => ?_) (fun hc => ?_)
  · have h := if_f hc h
    refine lv_aload_n hx hb d_R_chain_39 rfl (lv_at hl 1 rfl) ?_
    refine gf_R_47 hx hb hts hown hK hP d_R_chain_40 ?_
    refine lv_iload_n hx hb d_R_chain_43 rfl (lv_at hl 2 rfl) ?_
    obtain ⟨hgd, h⟩ := gd_some h
    refine al_R_13 hx hb hK hP hgd d_R_chain_44 ?_
    refine lv_iconst (v := 2) hx hb d_R_chain_45 (by decide) ?_
    refine lv_icmp_ne (tgt := 79) hx hb d_R_chain_46 rfl (fun hc => ?_) (fun hc => ?_)
    · have h := if_f hc h
      refine lv_aload_n hx hb d_R_chain_79 rfl (lv_at hl 1 rfl) ?_
      refine gf_R_59 hx hb hts hown hK hP d_R_chain_80 ?_
      refine lv_iload_n hx hb d_R_chain_83 rfl (lv_at hl 2 rfl) ?_
      obtain ⟨hgd, h⟩ := gd_some h
      refine al_R_17 hx hb hK hP hgd d_R_chain_84 ?_
      refine lv_bipush (v := 43) hx hb d_R_chain_85 (by decide) ?_
      refine lv_icmp_ne (tgt := 94) hx hb d_R_chain_87 rfl (fun hc => ?_) (fun hc => ?_)
      · have h := if_f hc h
        refine lv_aload_n hx hb d_R_chain_94 rfl (lv_at hl 1 rfl) ?_
        refine gf_R_59 hx hb hts hown hK hP d_R_chain_95 ?_
        refine lv_iload_n hx hb d_R_chain_98 rfl (lv_at hl 2 rfl) ?_
        obtain ⟨hgd, h⟩ := gd_some h
        refine al_R_17 hx hb hK hP hgd d_R_chain_99 ?_
        refine lv_bipush (v := 45) hx hb d_R_chain_100 (by decide) ?_
        refine lv_icmp_ne (tgt := 109) hx hb d_R_chain_102 rfl (fun hc => ?_) (fun hc => ?_)
        · have h := if_f hc h
          refine lv_aload_n hx hb d_R_chain_109 rfl (lv_at hl 1 rfl) ?_
          refine gf_R_59 hx hb hts hown hK hP d_R_chain_110 ?_
          refine lv_iload_n hx hb d_R_chain_113 rfl (lv_at hl 2 rfl) ?_
          obtain ⟨hgd, h⟩ := gd_some h
          refine al_R_17 hx hb hK hP hgd d_R_chain_114 ?_
          refine lv_bipush (v := 42) hx hb d_R_chain_115 (by decide) ?_
          refine lv_icmp_ne (tgt := 124) hx hb d_R_chain_117 rfl (fun hc => ?_) (fun hc => ?_)
          · have h := if_f hc h
            refine lv_iconst (v := 0) hx hb d_R_chain_124 (by decide) ?_
            refine lv_istore_n hx hb d_R_chain_125 rfl hl (by decide) rfl (fun ls hl => ?_)
            have hl : lv_has ls 4 [(3, .int 0), (2, .int (σ 12 a1.toNatClampNeg)), (0, .ref (q 0)), (1, .int a1)] := hl
            refine lv_aload_n hx hb d_R_chain_126 rfl (lv_at hl 2 rfl) ?_
            refine gf_R_53 hx hb hts hown hK hP d_R_chain_127 ?_
            refine lv_iload_n hx hb d_R_chain_130 rfl (lv_at hl 3 rfl) ?_
            refine lv_aload_n hx hb d_R_chain_131 rfl (lv_at hl 2 rfl) ?_
            refine gf_R_47 hx hb hts hown hK hP d_R_chain_132 ?_
            refine lv_iload_n hx hb d_R_chain_135 rfl (lv_at hl 3 rfl) ?_
            obtain ⟨hgd, h⟩ := gd_some h
            refine al_R_13 hx hb hK hP hgd d_R_chain_136 ?_
            refine lv_iconst (v := 1) hx hb d_R_chain_137 (by decide) ?_
            refine lv_icmp_ne (tgt := 148) hx hb d_R_chain_138 rfl (fun hc => ?_) (fun hc => ?_)
            · have h := if_f hc h
              refine lv_iload_n hx hb d_R_chain_148 rfl (lv_at hl 0 rfl) ?_
              refine lv_aload_n hx hb d_R_chain_149 rfl (lv_at hl 2 rfl) ?_
              refine gf_R_53 hx hb hts hown hK hP d_R_chain_150 ?_
              refine lv_iload_n hx hb d_R_chain_153 rfl (lv_at hl 3 rfl) ?_
              obtain ⟨hgd, h⟩ := gd_some h
              refine al_R_15 hx hb hK hP hgd d_R_chain_154 ?_
              refine lv_aload_n hx hb d_R_chain_155 rfl (lv_at hl 2 rfl) ?_
              refine gf_R_147 hx hb hts hown hK hP d_R_chain_156 ?_
              obtain ⟨r1, hcl, h⟩ := bd_some h
              refine cx_read (va_runS (As := [.int 0, .int (σ 15 a1.toNatClampNeg), .int (σ 37 0)]) (rest := [.int a1, .ref (q 15)]) ⟨hx, hb, hml, hown, hts⟩ (c_R_joined l dC dI q cA σ 0 (σ 15 a1.toNatClampNeg) (σ 37 0) _ hcl) (cw_R_187 hts ⟨Nat.le_of_ble_eq_true rfl, Nat.le_of_ble_eq_true rfl⟩) ⟨pxR_B, pxR_U hP hK hD hN hZ hS⟩ rfl rfl hl.1 rfl (lv_room (Nat.le_of_ble_eq_true rfl)) d_R_chain_159 ⟨Nat.zero_le _, Nat.zero_le _⟩) ?_
              obtain ⟨hgd, h⟩ := gd_some h
              refine as_R_15 hx hb hK hP hD hS hgd d_R_chain_162 (fun H locs hP hS => ?_)
              obtain ⟨σ1, eσ1, h⟩ := st_some h
              rw [← eσ1] at hP
              have hD : va_D (AR q) (wR q cA σ1) := dd_re (wR_f _ _ _ _) hD
              refine lv_aload_n hx hb d_R_chain_163 rfl (lv_at hl 2 rfl) ?_
              refine gf_R_56 hx hb hts hown hK hP d_R_chain_164 ?_
              refine lv_iload_n hx hb d_R_chain_167 rfl (lv_at hl 3 rfl) ?_
              refine lv_aload_n hx hb d_R_chain_168 rfl (lv_at hl 2 rfl) ?_
              refine gf_R_141 hx hb hts hown hK hP d_R_chain_169 ?_
              obtain ⟨hgd, h⟩ := gd_some h
              refine as_R_16 hx hb hK hP hD hS hgd d_R_chain_172 (fun H locs hP hS => ?_)
              obtain ⟨σ2, eσ2, h⟩ := st_some h
              rw [← eσ2] at hP
              have hD : va_D (AR q) (wR q cA σ2) := dd_re (wR_f _ _ _ _) hD
              refine lv_aload_n hx hb d_R_chain_173 rfl (lv_at hl 2 rfl) ?_
              refine gf_R_47 hx hb hts hown hK hP d_R_chain_174 ?_
              refine lv_iload_n hx hb d_R_chain_177 rfl (lv_at hl 3 rfl) ?_
              refine lv_iconst (v := 2) hx hb d_R_chain_178 (by decide) ?_
              obtain ⟨hgd, h⟩ := gd_some h
              refine as_R_13 hx hb hK hP hD hS hgd d_R_chain_179 (fun H locs hP hS => ?_)
              obtain ⟨σ3, eσ3, h⟩ := st_some h
              rw [← eσ3] at hP
              have hD : va_D (AR q) (wR q cA σ3) := dd_re (wR_f _ _ _ _) hD
              refine lv_aload_n hx hb d_R_chain_180 rfl (lv_at hl 2 rfl) ?_
              refine lv_aload_n hx hb d_R_chain_181 rfl (lv_at hl 2 rfl) ?_
              refine gf_R_16 hx hb hts hown hK hP d_R_chain_182 ?_
              refine lv_iload_n hx hb d_R_chain_185 rfl (lv_at hl 1 rfl) ?_
              obtain ⟨hgd, h⟩ := gd_some h
              refine al_R_3 hx hb hK hP hgd d_R_chain_186 ?_
              obtain ⟨u2, hcl, h⟩ := bd_some h
              refine cx_wrv (va_runV (As := [.int (σ3 3 (σ 12 a1.toNatClampNeg).toNatClampNeg)]) (rest := []) ⟨hx, hb, hml, hown, hts⟩ (c_R_enter l dC dI q cA σ3 (σ3 3 (σ 12 a1.toNatClampNeg).toNatClampNeg) _ hcl) (cw_R_175 hts ⟨Nat.le_of_ble_eq_true rfl, Nat.le_of_ble_eq_true rfl⟩) ⟨pxR_B, va_recv hK hP (ci := 7) (q0 := 0) rfl rfl, pxR_U hP hK hD hN hZ hS⟩ rfl rfl hl.1 rfl (lv_room (Nat.le_of_ble_eq_true rfl)) d_R_chain_187 ⟨Nat.zero_le _, Nat.zero_le _⟩) hS (fun _ h => h) (fun H locs hP hS => ?_)
              have hD : va_D (AR q) (wR q cA u2) := dd_re (wR_f _ _ _ _) hD
              obtain rfl := Option.some.inj h
              exact W.vret hx hb hr (fun t ht hW => ⟨rfl, by rw [ht]; exact hP, hS.F ht⟩) hS.2.2 d_R_chain_190
            · have h := if_t hc h
              refine lv_aload_n hx hb d_R_chain_141 rfl (lv_at hl 2 rfl) ?_
              refine gf_R_147 hx hb hts hown hK hP d_R_chain_142 ?_
              refine lv_goto (tgt := 162) hx hb d_R_chain_145 rfl ?_
              obtain ⟨hgd, h⟩ := gd_some h
              refine as_R_15 hx hb hK hP hD hS hgd d_R_chain_162 (fun H locs hP hS => ?_)
              obtain ⟨σ4, eσ4, h⟩ := st_some h
              rw [← eσ4] at hP
              have hD : va_D (AR q) (wR q cA σ4) := dd_re (wR_f _ _ _ _) hD
              refine lv_aload_n hx hb d_R_chain_163 rfl (lv_at hl 2 rfl) ?_
              refine gf_R_56 hx hb hts hown hK hP d_R_chain_164 ?_
              refine lv_iload_n hx hb d_R_chain_167 rfl (lv_at hl 3 rfl) ?_
              refine lv_aload_n hx hb d_R_chain_168 rfl (lv_at hl 2 rfl) ?_
              refine gf_R_141 hx hb hts hown hK hP d_R_chain_169 ?_
              obtain ⟨hgd, h⟩ := gd_some h
              refine as_R_16 hx hb hK hP hD hS hgd d_R_chain_172 (fun H locs hP hS => ?_)
              obtain ⟨σ5, eσ5, h⟩ := st_some h
              rw [← eσ5] at hP
              have hD : va_D (AR q) (wR q cA σ5) := dd_re (wR_f _ _ _ _) hD
              refine lv_aload_n hx hb d_R_chain_173 rfl (lv_at hl 2 rfl) ?_
              refine gf_R_47 hx hb hts hown hK hP d_R_chain_174 ?_
              refine lv_iload_n hx hb d_R_chain_177 rfl (lv_at hl 3 rfl) ?_
              refine lv_iconst (v := 2) hx hb d_R_chain_178 (by decide) ?_
              obtain ⟨hgd, h⟩ := gd_some h
              refine as_R_13 hx hb hK hP hD hS hgd d_R_chain_179 (fun H locs hP hS => ?_)
              obtain ⟨σ6, eσ6, h⟩ := st_some h
              rw [← eσ6] at hP
              have hD : va_D (AR q) (wR q cA σ6) := dd_re (wR_f _ _ _ _) hD
              refine lv_aload_n hx hb d_R_chain_180 rfl (lv_at hl 2 rfl) ?_
              refine lv_aload_n hx hb d_R_chain_181 rfl (lv_at hl 2 rfl) ?_
              refine gf_R_16 hx hb hts hown hK hP d_R_chain_182 ?_
              refine lv_iload_n hx hb d_R_chain_185 rfl (lv_at hl 1 rfl) ?_
              obtain ⟨hgd, h⟩ := gd_some h
              refine al_R_3 hx hb hK hP hgd d_R_chain_186 ?_
              obtain ⟨u3, hcl, h⟩ := bd_some h
              refine cx_wrv (va_runV (As := [.int (σ6 3 (σ 12 a1.toNatClampNeg).toNatClampNeg)]) (rest := []) ⟨hx, hb, hml, hown, hts⟩ (c_R_enter l dC dI q cA σ6 (σ6 3 (σ 12 a1.toNatClampNeg).toNatClampNeg) _ hcl) (cw_R_175 hts ⟨Nat.le_of_ble_eq_true rfl, Nat.le_of_ble_eq_true rfl⟩) ⟨pxR_B, va_recv hK hP (ci := 7) (q0 := 0) rfl rfl, pxR_U hP hK hD hN hZ hS⟩ rfl rfl hl.1 rfl (lv_room (Nat.le_of_ble_eq_true rfl)) d_R_chain_187 ⟨Nat.zero_le _, Nat.zero_le _⟩) hS (fun _ h => h) (fun H locs hP hS => ?_)
              have hD : va_D (AR q) (wR q cA u3) := dd_re (wR_f _ _ _ _) hD
              obtain rfl := Option.some.inj h
              exact W.vret hx hb hr (fun t ht hW => ⟨rfl, by rw [ht]; exact hP, hS.F ht⟩) hS.2.2 d_R_chain_190
          · have h := if_t hc h
            refine lv_iconst (v := 4) hx hb d_R_chain_120 (by decide) ?_
            refine lv_goto (tgt := 125) hx hb d_R_chain_121 rfl ?_
            refine lv_istore_n hx hb d_R_chain_125 rfl hl (by decide) rfl (fun ls hl => ?_)
            have hl : lv_has ls 4 [(3, .int 4), (2, .int (σ 12 a1.toNatClampNeg)), (0, .ref (q 0)), (1, .int a1)] := hl
            refine lv_aload_n hx hb d_R_chain_126 rfl (lv_at hl 2 rfl) ?_
            refine gf_R_53 hx hb hts hown hK hP d_R_chain_127 ?_
            refine lv_iload_n hx hb d_R_chain_130 rfl (lv_at hl 3 rfl) ?_
            refine lv_aload_n hx hb d_R_chain_131 rfl (lv_at hl 2 rfl) ?_
            refine gf_R_47 hx hb hts hown hK hP d_R_chain_132 ?_
            refine lv_iload_n hx hb d_R_chain_135 rfl (lv_at hl 3 rfl) ?_
            obtain ⟨hgd, h⟩ := gd_some h
            refine al_R_13 hx hb hK hP hgd d_R_chain_136 ?_
            refine lv_iconst (v := 1) hx hb d_R_chain_137 (by decide) ?_
            refine lv_icmp_ne (tgt := 148) hx hb d_R_chain_138 rfl (fun hc => ?_) (fun hc => ?_)
            · have h := if_f hc h
              refine lv_iload_n hx hb d_R_chain_148 rfl (lv_at hl 0 rfl) ?_
              refine lv_aload_n hx hb d_R_chain_149 rfl (lv_at hl 2 rfl) ?_
              refine gf_R_53 hx hb hts hown hK hP d_R_chain_150 ?_
              refine lv_iload_n hx hb d_R_chain_153 rfl (lv_at hl 3 rfl) ?_
              obtain ⟨hgd, h⟩ := gd_some h
              refine al_R_15 hx hb hK hP hgd d_R_chain_154 ?_
              refine lv_aload_n hx hb d_R_chain_155 rfl (lv_at hl 2 rfl) ?_
              refine gf_R_147 hx hb hts hown hK hP d_R_chain_156 ?_
              obtain ⟨r4, hcl, h⟩ := bd_some h
              refine cx_read (va_runS (As := [.int 4, .int (σ 15 a1.toNatClampNeg), .int (σ 37 0)]) (rest := [.int a1, .ref (q 15)]) ⟨hx, hb, hml, hown, hts⟩ (c_R_joined l dC dI q cA σ 4 (σ 15 a1.toNatClampNeg) (σ 37 0) _ hcl) (cw_R_187 hts ⟨Nat.le_of_ble_eq_true rfl, Nat.le_of_ble_eq_true rfl⟩) ⟨pxR_B, pxR_U hP hK hD hN hZ hS⟩ rfl rfl hl.1 rfl (lv_room (Nat.le_of_ble_eq_true rfl)) d_R_chain_159 ⟨Nat.zero_le _, Nat.zero_le _⟩) ?_
              obtain ⟨hgd, h⟩ := gd_some h
              refine as_R_15 hx hb hK hP hD hS hgd d_R_chain_162 (fun H locs hP hS => ?_)
              obtain ⟨σ7, eσ7, h⟩ := st_some h
              rw [← eσ7] at hP
              have hD : va_D (AR q) (wR q cA σ7) := dd_re (wR_f _ _ _ _) hD
              refine lv_aload_n hx hb d_R_chain_163 rfl (lv_at hl 2 rfl) ?_
              refine gf_R_56 hx hb hts hown hK hP d_R_chain_164 ?_
              refine lv_iload_n hx hb d_R_chain_167 rfl (lv_at hl 3 rfl) ?_
              refine lv_aload_n hx hb d_R_chain_168 rfl (lv_at hl 2 rfl) ?_
              refine gf_R_141 hx hb hts hown hK hP d_R_chain_169 ?_
              obtain ⟨hgd, h⟩ := gd_some h
              refine as_R_16 hx hb hK hP hD hS hgd d_R_chain_172 (fun H locs hP hS => ?_)
              obtain ⟨σ8, eσ8, h⟩ := st_some h
              rw [← eσ8] at hP
              have hD : va_D (AR q) (wR q cA σ8) := dd_re (wR_f _ _ _ _) hD
              refine lv_aload_n hx hb d_R_chain_173 rfl (lv_at hl 2 rfl) ?_
              refine gf_R_47 hx hb hts hown hK hP d_R_chain_174 ?_
              refine lv_iload_n hx hb d_R_chain_177 rfl (lv_at hl 3 rfl) ?_
              refine lv_iconst (v := 2) hx hb d_R_chain_178 (by decide) ?_
              obtain ⟨hgd, h⟩ := gd_some h
              refine as_R_13 hx hb hK hP hD hS hgd d_R_chain_179 (fun H locs hP hS => ?_)
              obtain ⟨σ9, eσ9, h⟩ := st_some h
              rw [← eσ9] at hP
              have hD : va_D (AR q) (wR q cA σ9) := dd_re (wR_f _ _ _ _) hD
              refine lv_aload_n hx hb d_R_chain_180 rfl (lv_at hl 2 rfl) ?_
              refine lv_aload_n hx hb d_R_chain_181 rfl (lv_at hl 2 rfl) ?_
              refine gf_R_16 hx hb hts hown hK hP d_R_chain_182 ?_
              refine lv_iload_n hx hb d_R_chain_185 rfl (lv_at hl 1 rfl) ?_
              obtain ⟨hgd, h⟩ := gd_some h
              refine al_R_3 hx hb hK hP hgd d_R_chain_186 ?_
              obtain ⟨u5, hcl, h⟩ := bd_some h
              refine cx_wrv (va_runV (As := [.int (σ9 3 (σ 12 a1.toNatClampNeg).toNatClampNeg)]) (rest := []) ⟨hx, hb, hml, hown, hts⟩ (c_R_enter l dC dI q cA σ9 (σ9 3 (σ 12 a1.toNatClampNeg).toNatClampNeg) _ hcl) (cw_R_175 hts ⟨Nat.le_of_ble_eq_true rfl, Nat.le_of_ble_eq_true rfl⟩) ⟨pxR_B, va_recv hK hP (ci := 7) (q0 := 0) rfl rfl, pxR_U hP hK hD hN hZ hS⟩ rfl rfl hl.1 rfl (lv_room (Nat.le_of_ble_eq_true rfl)) d_R_chain_187 ⟨Nat.zero_le _, Nat.zero_le _⟩) hS (fun _ h => h) (fun H locs hP hS => ?_)
              have hD : va_D (AR q) (wR q cA u5) := dd_re (wR_f _ _ _ _) hD
              obtain rfl := Option.some.inj h
              exact W.vret hx hb hr (fun t ht hW => ⟨rfl, by rw [ht]; exact hP, hS.F ht⟩) hS.2.2 d_R_chain_190
            · have h := if_t hc h
              refine lv_aload_n hx hb d_R_chain_141 rfl (lv_at hl 2 rfl) ?_
              refine gf_R_147 hx hb hts hown hK hP d_R_chain_142 ?_
              refine lv_goto (tgt := 162) hx hb d_R_chain_145 rfl ?_
              obtain ⟨hgd, h⟩ := gd_some h
              refine as_R_15 hx hb hK hP hD hS hgd d_R_chain_162 (fun H locs hP hS => ?_)
              obtain ⟨σ10, eσ10, h⟩ := st_some h
              rw [← eσ10] at hP
              have hD : va_D (AR q) (wR q cA σ10) := dd_re (wR_f _ _ _ _) hD
              refine lv_aload_n hx hb d_R_chain_163 rfl (lv_at hl 2 rfl) ?_
              refine gf_R_56 hx hb hts hown hK hP d_R_chain_164 ?_
              refine lv_iload_n hx hb d_R_chain_167 rfl (lv_at hl 3 rfl) ?_
              refine lv_aload_n hx hb d_R_chain_168 rfl (lv_at hl 2 rfl) ?_
              refine gf_R_141 hx hb hts hown hK hP d_R_chain_169 ?_
              obtain ⟨hgd, h⟩ := gd_some h
              refine as_R_16 hx hb hK hP hD hS hgd d_R_chain_172 (fun H locs hP hS => ?_)
              obtain ⟨σ11, eσ11, h⟩ := st_some h
              rw [← eσ11] at hP
              have hD : va_D (AR q) (wR q cA σ11) := dd_re (wR_f _ _ _ _) hD
              refine lv_aload_n hx hb d_R_chain_173 rfl (lv_at hl 2 rfl) ?_
              refine gf_R_47 hx hb hts hown hK hP d_R_chain_174 ?_
              refine lv_iload_n hx hb d_R_chain_177 rfl (lv_at hl 3 rfl) ?_
              refine lv_iconst (v := 2) hx hb d_R_chain_178 (by decide) ?_
              obtain ⟨hgd, h⟩ := gd_some h
              refine as_R_13 hx hb hK hP hD hS hgd d_R_chain_179 (fun H locs hP hS => ?_)
              obtain ⟨σ12, eσ12, h⟩ := st_some h
              rw [← eσ12] at hP
              have hD : va_D (AR q) (wR q cA σ12) := dd_re (wR_f _ _ _ _) hD
              refine lv_aload_n hx hb d_R_chain_180 rfl (lv_at hl 2 rfl) ?_
              refine lv_aload_n hx hb d_R_chain_181 rfl (lv_at hl 2 rfl) ?_
              refine gf_R_16 hx hb hts hown hK hP d_R_chain_182 ?_
              refine lv_iload_n hx hb d_R_chain_185 rfl (lv_at hl 1 rfl) ?_
              obtain ⟨hgd, h⟩ := gd_some h
              refine al_R_3 hx hb hK hP hgd d_R_chain_186 ?_
              obtain ⟨u6, hcl, h⟩ := bd_some h
              refine cx_wrv (va_runV (As := [.int (σ12 3 (σ 12 a1.toNatClampNeg).toNatClampNeg)]) (rest := []) ⟨hx, hb, hml, hown, hts⟩ (c_R_enter l dC dI q cA σ12 (σ12 3 (σ 12 a1.toNatClampNeg).toNatClampNeg) _ hcl) (cw_R_175 hts ⟨Nat.le_of_ble_eq_true rfl, Nat.le_of_ble_eq_true rfl⟩) ⟨pxR_B, va_recv hK hP (ci := 7) (q0 := 0) rfl rfl, pxR_U hP hK hD hN hZ hS⟩ rfl rfl hl.1 rfl (lv_room (Nat.le_of_ble_eq_true rfl)) d_R_chain_187 ⟨Nat.zero_le _, Nat.zero_le _⟩) hS (fun _ h => h) (fun H locs hP hS => ?_)
              have hD : va_D (AR q) (wR q cA u6) := dd_re (wR_f _ _ _ _) hD
              obtain rfl := Option.some.inj h
              exact W.vret hx hb hr (fun t ht hW => ⟨rfl, by rw [ht]; exact hP, hS.F ht⟩) hS.2.2 d_R_chain_190
        · have h := if_t hc h
          refine lv_iconst (v := 3) hx hb d_R_chain_105 (by decide) ?_
          refine lv_goto (tgt := 125) hx hb d_R_chain_106 rfl ?_
          refine lv_istore_n hx hb d_R_chain_125 rfl hl (by decide) rfl (fun ls hl => ?_)
          have hl : lv_has ls 4 [(3, .int 3), (2, .int (σ 12 a1.toNatClampNeg)), (0, .ref (q 0)), (1, .int a1)] := hl
          refine lv_aload_n hx hb d_R_chain_126 rfl (lv_at hl 2 rfl) ?_
          refine gf_R_53 hx hb hts hown hK hP d_R_chain_127 ?_
          refine lv_iload_n hx hb d_R_chain_130 rfl (lv_at hl 3 rfl) ?_
          refine lv_aload_n hx hb d_R_chain_131 rfl (lv_at hl 2 rfl) ?_
          refine gf_R_47 hx hb hts hown hK hP d_R_chain_132 ?_
          refine lv_iload_n hx hb d_R_chain_135 rfl (lv_at hl 3 rfl) ?_
          obtain ⟨hgd, h⟩ := gd_some h
          refine al_R_13 hx hb hK hP hgd d_R_chain_136 ?_
          refine lv_iconst (v := 1) hx hb d_R_chain_137 (by decide) ?_
          refine lv_icmp_ne (tgt := 148) hx hb d_R_chain_138 rfl (fun hc => ?_) (fun hc => ?_)
          · have h := if_f hc h
            refine lv_iload_n hx hb d_R_chain_148 rfl (lv_at hl 0 rfl) ?_
            refine lv_aload_n hx hb d_R_chain_149 rfl (lv_at hl 2 rfl) ?_
            refine gf_R_53 hx hb hts hown hK hP d_R_chain_150 ?_
            refine lv_iload_n hx hb d_R_chain_153 rfl (lv_at hl 3 rfl) ?_
            obtain ⟨hgd, h⟩ := gd_some h
            refine al_R_15 hx hb hK hP hgd d_R_chain_154 ?_
            refine lv_aload_n hx hb d_R_chain_155 rfl (lv_at hl 2 rfl) ?_
            refine gf_R_147 hx hb hts hown hK hP d_R_chain_156 ?_
            obtain ⟨r7, hcl, h⟩ := bd_some h
            refine cx_read (va_runS (As := [.int 3, .int (σ 15 a1.toNatClampNeg), .int (σ 37 0)]) (rest := [.int a1, .ref (q 15)]) ⟨hx, hb, hml, hown, hts⟩ (c_R_joined l dC dI q cA σ 3 (σ 15 a1.toNatClampNeg) (σ 37 0) _ hcl) (cw_R_187 hts ⟨Nat.le_of_ble_eq_true rfl, Nat.le_of_ble_eq_true rfl⟩) ⟨pxR_B, pxR_U hP hK hD hN hZ hS⟩ rfl rfl hl.1 rfl (lv_room (Nat.le_of_ble_eq_true rfl)) d_R_chain_159 ⟨Nat.zero_le _, Nat.zero_le _⟩) ?_
            obtain ⟨hgd, h⟩ := gd_some h
            refine as_R_15 hx hb hK hP hD hS hgd d_R_chain_162 (fun H locs hP hS => ?_)
            obtain ⟨σ13, eσ13, h⟩ := st_some h
            rw [← eσ13] at hP
            have hD : va_D (AR q) (wR q cA σ13) := dd_re (wR_f _ _ _ _) hD
            refine lv_aload_n hx hb d_R_chain_163 rfl (lv_at hl 2 rfl) ?_
            refine gf_R_56 hx hb hts hown hK hP d_R_chain_164 ?_
            refine lv_iload_n hx hb d_R_chain_167 rfl (lv_at hl 3 rfl) ?_
            refine lv_aload_n hx hb d_R_chain_168 rfl (lv_at hl 2 rfl) ?_
            refine gf_R_141 hx hb hts hown hK hP d_R_chain_169 ?_
            obtain ⟨hgd, h⟩ := gd_some h
            refine as_R_16 hx hb hK hP hD hS hgd d_R_chain_172 (fun H locs hP hS => ?_)
            obtain ⟨σ14, eσ14, h⟩ := st_some h
            rw [← eσ14] at hP
            have hD : va_D (AR q) (wR q cA σ14) := dd_re (wR_f _ _ _ _) hD
            refine lv_aload_n hx hb d_R_chain_173 rfl (lv_at hl 2 rfl) ?_
            refine gf_R_47 hx hb hts hown hK hP d_R_chain_174 ?_
            refine lv_iload_n hx hb d_R_chain_177 rfl (lv_at hl 3 rfl) ?_
            refine lv_iconst (v := 2) hx hb d_R_chain_178 (by decide) ?_
            obtain ⟨hgd, h⟩ := gd_some h
            refine as_R_13 hx hb hK hP hD hS hgd d_R_chain_179 (fun H locs hP hS => ?_)
            obtain ⟨σ15, eσ15, h⟩ := st_some h
            rw [← eσ15] at hP
            have hD : va_D (AR q) (wR q cA σ15) := dd_re (wR_f _ _ _ _) hD
            refine lv_aload_n hx hb d_R_chain_180 rfl (lv_at hl 2 rfl) ?_
            refine lv_aload_n hx hb d_R_chain_181 rfl (lv_at hl 2 rfl) ?_
            refine gf_R_16 hx hb hts hown hK hP d_R_chain_182 ?_
            refine lv_iload_n hx hb d_R_chain_185 rfl (lv_at hl 1 rfl) ?_
            obtain ⟨hgd, h⟩ := gd_some h
            refine al_R_3 hx hb hK hP hgd d_R_chain_186 ?_
            obtain ⟨u8, hcl, h⟩ := bd_some h
            refine cx_wrv (va_runV (As := [.int (σ15 3 (σ 12 a1.toNatClampNeg).toNatClampNeg)]) (rest := []) ⟨hx, hb, hml, hown, hts⟩ (c_R_enter l dC dI q cA σ15 (σ15 3 (σ 12 a1.toNatClampNeg).toNatClampNeg) _ hcl) (cw_R_175 hts ⟨Nat.le_of_ble_eq_true rfl, Nat.le_of_ble_eq_true rfl⟩) ⟨pxR_B, va_recv hK hP (ci := 7) (q0 := 0) rfl rfl, pxR_U hP hK hD hN hZ hS⟩ rfl rfl hl.1 rfl (lv_room (Nat.le_of_ble_eq_true rfl)) d_R_chain_187 ⟨Nat.zero_le _, Nat.zero_le _⟩) hS (fun _ h => h) (fun H locs hP hS => ?_)
            have hD : va_D (AR q) (wR q cA u8) := dd_re (wR_f _ _ _ _) hD
            obtain rfl := Option.some.inj h
            exact W.vret hx hb hr (fun t ht hW => ⟨rfl, by rw [ht]; exact hP, hS.F ht⟩) hS.2.2 d_R_chain_190
          · have h := if_t hc h
            refine lv_aload_n hx hb d_R_chain_141 rfl (lv_at hl 2 rfl) ?_
            refine gf_R_147 hx hb hts hown hK hP d_R_chain_142 ?_
            refine lv_goto (tgt := 162) hx hb d_R_chain_145 rfl ?_
            obtain ⟨hgd, h⟩ := gd_some h
            refine as_R_15 hx hb hK hP hD hS hgd d_R_chain_162 (fun H locs hP hS => ?_)
            obtain ⟨σ16, eσ16, h⟩ := st_some h
            rw [← eσ16] at hP
            have hD : va_D (AR q) (wR q cA σ16) := dd_re (wR_f _ _ _ _) hD
            refine lv_aload_n hx hb d_R_chain_163 rfl (lv_at hl 2 rfl) ?_
            refine gf_R_56 hx hb hts hown hK hP d_R_chain_164 ?_
            refine lv_iload_n hx hb d_R_chain_167 rfl (lv_at hl 3 rfl) ?_
            refine lv_aload_n hx hb d_R_chain_168 rfl (lv_at hl 2 rfl) ?_
            refine gf_R_141 hx hb hts hown hK hP d_R_chain_169 ?_
            obtain ⟨hgd, h⟩ := gd_some h
            refine as_R_16 hx hb hK hP hD hS hgd d_R_chain_172 (fun H locs hP hS => ?_)
            obtain ⟨σ17, eσ17, h⟩ := st_some h
            rw [← eσ17] at hP
            have hD : va_D (AR q) (wR q cA σ17) := dd_re (wR_f _ _ _ _) hD
            refine lv_aload_n hx hb d_R_chain_173 rfl (lv_at hl 2 rfl) ?_
            refine gf_R_47 hx hb hts hown hK hP d_R_chain_174 ?_
            refine lv_iload_n hx hb d_R_chain_177 rfl (lv_at hl 3 rfl) ?_
            refine lv_iconst (v := 2) hx hb d_R_chain_178 (by decide) ?_
            obtain ⟨hgd, h⟩ := gd_some h
            refine as_R_13 hx hb hK hP hD hS hgd d_R_chain_179 (fun H locs hP hS => ?_)
            obtain ⟨σ18, eσ18, h⟩ := st_some h
            rw [← eσ18] at hP
            have hD : va_D (AR q) (wR q cA σ18) := dd_re (wR_f _ _ _ _) hD
            refine lv_aload_n hx hb d_R_chain_180 rfl (lv_at hl 2 rfl) ?_
            refine lv_aload_n hx hb d_R_chain_181 rfl (lv_at hl 2 rfl) ?_
            refine gf_R_16 hx hb hts hown hK hP d_R_chain_182 ?_
            refine lv_iload_n hx hb d_R_chain_185 rfl (lv_at hl 1 rfl) ?_
            obtain ⟨hgd, h⟩ := gd_some h
            refine al_R_3 hx hb hK hP hgd d_R_chain_186 ?_
            obtain ⟨u9, hcl, h⟩ := bd_some h
            refine cx_wrv (va_runV (As := [.int (σ18 3 (σ 12 a1.toNatClampNeg).toNatClampNeg)]) (rest := []) ⟨hx, hb, hml, hown, hts⟩ (c_R_enter l dC dI q cA σ18 (σ18 3 (σ 12 a1.toNatClampNeg).toNatClampNeg) _ hcl) (cw_R_175 hts ⟨Nat.le_of_ble_eq_true rfl, Nat.le_of_ble_eq_true rfl⟩) ⟨pxR_B, va_recv hK hP (ci := 7) (q0 := 0) rfl rfl, pxR_U hP hK hD hN hZ hS⟩ rfl rfl hl.1 rfl (lv_room (Nat.le_of_ble_eq_true rfl)) d_R_chain_187 ⟨Nat.zero_le _, Nat.zero_le _⟩) hS (fun _ h => h) (fun H locs hP hS => ?_)
            have hD : va_D (AR q) (wR q cA u9) := dd_re (wR_f _ _ _ _) hD
            obtain rfl := Option.some.inj h
            exact W.vret hx hb hr (fun t ht hW => ⟨rfl, by rw [ht]; exact hP, hS.F ht⟩) hS.2.2 d_R_chain_190
      · have h := if_t hc h
        refine lv_iconst (v := 2) hx hb d_R_chain_90 (by decide) ?_
        refine lv_goto (tgt := 125) hx hb d_R_chain_91 rfl ?_
        refine lv_istore_n hx hb d_R_chain_125 rfl hl (by decide) rfl (fun ls hl => ?_)
        have hl : lv_has ls 4 [(3, .int 2), (2, .int (σ 12 a1.toNatClampNeg)), (0, .ref (q 0)), (1, .int a1)] := hl
        refine lv_aload_n hx hb d_R_chain_126 rfl (lv_at hl 2 rfl) ?_
        refine gf_R_53 hx hb hts hown hK hP d_R_chain_127 ?_
        refine lv_iload_n hx hb d_R_chain_130 rfl (lv_at hl 3 rfl) ?_
        refine lv_aload_n hx hb d_R_chain_131 rfl (lv_at hl 2 rfl) ?_
        refine gf_R_47 hx hb hts hown hK hP d_R_chain_132 ?_
        refine lv_iload_n hx hb d_R_chain_135 rfl (lv_at hl 3 rfl) ?_
        obtain ⟨hgd, h⟩ := gd_some h
        refine al_R_13 hx hb hK hP hgd d_R_chain_136 ?_
        refine lv_iconst (v := 1) hx hb d_R_chain_137 (by decide) ?_
        refine lv_icmp_ne (tgt := 148) hx hb d_R_chain_138 rfl (fun hc => ?_) (fun hc => ?_)
        · have h := if_f hc h
          refine lv_iload_n hx hb d_R_chain_148 rfl (lv_at hl 0 rfl) ?_
          refine lv_aload_n hx hb d_R_chain_149 rfl (lv_at hl 2 rfl) ?_
          refine gf_R_53 hx hb hts hown hK hP d_R_chain_150 ?_
          refine lv_iload_n hx hb d_R_chain_153 rfl (lv_at hl 3 rfl) ?_
          obtain ⟨hgd, h⟩ := gd_some h
          refine al_R_15 hx hb hK hP hgd d_R_chain_154 ?_
          refine lv_aload_n hx hb d_R_chain_155 rfl (lv_at hl 2 rfl) ?_
          refine gf_R_147 hx hb hts hown hK hP d_R_chain_156 ?_
          obtain ⟨r10, hcl, h⟩ := bd_some h
          refine cx_read (va_runS (As := [.int 2, .int (σ 15 a1.toNatClampNeg), .int (σ 37 0)]) (rest := [.int a1, .ref (q 15)]) ⟨hx, hb, hml, hown, hts⟩ (c_R_joined l dC dI q cA σ 2 (σ 15 a1.toNatClampNeg) (σ 37 0) _ hcl) (cw_R_187 hts ⟨Nat.le_of_ble_eq_true rfl, Nat.le_of_ble_eq_true rfl⟩) ⟨pxR_B, pxR_U hP hK hD hN hZ hS⟩ rfl rfl hl.1 rfl (lv_room (Nat.le_of_ble_eq_true rfl)) d_R_chain_159 ⟨Nat.zero_le _, Nat.zero_le _⟩) ?_
          obtain ⟨hgd, h⟩ := gd_some h
          refine as_R_15 hx hb hK hP hD hS hgd d_R_chain_162 (fun H locs hP hS => ?_)
          obtain ⟨σ19, eσ19, h⟩ := st_some h
          rw [← eσ19] at hP
          have hD : va_D (AR q) (wR q cA σ19) := dd_re (wR_f _ _ _ _) hD
          refine lv_aload_n hx hb d_R_chain_163 rfl (lv_at hl 2 rfl) ?_
          refine gf_R_56 hx hb hts hown hK hP d_R_chain_164 ?_
          refine lv_iload_n hx hb d_R_chain_167 rfl (lv_at hl 3 rfl) ?_
          refine lv_aload_n hx hb d_R_chain_168 rfl (lv_at hl 2 rfl) ?_
          refine gf_R_141 hx hb hts hown hK hP d_R_chain_169 ?_
          obtain ⟨hgd, h⟩ := gd_some h
          refine as_R_16 hx hb hK hP hD hS hgd d_R_chain_172 (fun H locs hP hS => ?_)
          obtain ⟨σ20, eσ20, h⟩ := st_some h
          rw [← eσ20] at hP
          have hD : va_D (AR q) (wR q cA σ20) := dd_re (wR_f _ _ _ _) hD
          refine lv_aload_n hx hb d_R_chain_173 rfl (lv_at hl 2 rfl) ?_
          refine gf_R_47 hx hb hts hown hK hP d_R_chain_174 ?_
          refine lv_iload_n hx hb d_R_chain_177 rfl (lv_at hl 3 rfl) ?_
          refine lv_iconst (v := 2) hx hb d_R_chain_178 (by decide) ?_
          obtain ⟨hgd, h⟩ := gd_some h
          refine as_R_13 hx hb hK hP hD hS hgd d_R_chain_179 (fun H locs hP hS => ?_)
          obtain ⟨σ21, eσ21, h⟩ := st_some h
          rw [← eσ21] at hP
          have hD : va_D (AR q) (wR q cA σ21) := dd_re (wR_f _ _ _ _) hD
          refine lv_aload_n hx hb d_R_chain_180 rfl (lv_at hl 2 rfl) ?_
          refine lv_aload_n hx hb d_R_chain_181 rfl (lv_at hl 2 rfl) ?_
          refine gf_R_16 hx hb hts hown hK hP d_R_chain_182 ?_
          refine lv_iload_n hx hb d_R_chain_185 rfl (lv_at hl 1 rfl) ?_
          obtain ⟨hgd, h⟩ := gd_some h
          refine al_R_3 hx hb hK hP hgd d_R_chain_186 ?_
          obtain ⟨u11, hcl, h⟩ := bd_some h
          refine cx_wrv (va_runV (As := [.int (σ21 3 (σ 12 a1.toNatClampNeg).toNatClampNeg)]) (rest := []) ⟨hx, hb, hml, hown, hts⟩ (c_R_enter l dC dI q cA σ21 (σ21 3 (σ 12 a1.toNatClampNeg).toNatClampNeg) _ hcl) (cw_R_175 hts ⟨Nat.le_of_ble_eq_true rfl, Nat.le_of_ble_eq_true rfl⟩) ⟨pxR_B, va_recv hK hP (ci := 7) (q0 := 0) rfl rfl, pxR_U hP hK hD hN hZ hS⟩ rfl rfl hl.1 rfl (lv_room (Nat.le_of_ble_eq_true rfl)) d_R_chain_187 ⟨Nat.zero_le _, Nat.zero_le _⟩) hS (fun _ h => h) (fun H locs hP hS => ?_)
          have hD : va_D (AR q) (wR q cA u11) := dd_re (wR_f _ _ _ _) hD
          obtain rfl := Option.some.inj h
          exact W.vret hx hb hr (fun t ht hW => ⟨rfl, by rw [ht]; exact hP, hS.F ht⟩) hS.2.2 d_R_chain_190
        · have h := if_t hc h
          refine lv_aload_n hx hb d_R_chain_141 rfl (lv_at hl 2 rfl) ?_
          refine gf_R_147 hx hb hts hown hK hP d_R_chain_142 ?_
          refine lv_goto (tgt := 162) hx hb d_R_chain_145 rfl ?_
          obtain ⟨hgd, h⟩ := gd_some h
          refine as_R_15 hx hb hK hP hD hS hgd d_R_chain_162 (fun H locs hP hS => ?_)
          obtain ⟨σ22, eσ22, h⟩ := st_some h
          rw [← eσ22] at hP
          have hD : va_D (AR q) (wR q cA σ22) := dd_re (wR_f _ _ _ _) hD
          refine lv_aload_n hx hb d_R_chain_163 rfl (lv_at hl 2 rfl) ?_
          refine gf_R_56 hx hb hts hown hK hP d_R_chain_164 ?_
          refine lv_iload_n hx hb d_R_chain_167 rfl (lv_at hl 3 rfl) ?_
          refine lv_aload_n hx hb d_R_chain_168 rfl (lv_at hl 2 rfl) ?_
          refine gf_R_141 hx hb hts hown hK hP d_R_chain_169 ?_
          obtain ⟨hgd, h⟩ := gd_some h
          refine as_R_16 hx hb hK hP hD hS hgd d_R_chain_172 (fun H locs hP hS => ?_)
          obtain ⟨σ23, eσ23, h⟩ := st_some h
          rw [← eσ23] at hP
          have hD : va_D (AR q) (wR q cA σ23) := dd_re (wR_f _ _ _ _) hD
          refine lv_aload_n hx hb d_R_chain_173 rfl (lv_at hl 2 rfl) ?_
          refine gf_R_47 hx hb hts hown hK hP d_R_chain_174 ?_
          refine lv_iload_n hx hb d_R_chain_177 rfl (lv_at hl 3 rfl) ?_
          refine lv_iconst (v := 2) hx hb d_R_chain_178 (by decide) ?_
          obtain ⟨hgd, h⟩ := gd_some h
          refine as_R_13 hx hb hK hP hD hS hgd d_R_chain_179 (fun H locs hP hS => ?_)
          obtain ⟨σ24, eσ24, h⟩ := st_some h
          rw [← eσ24] at hP
          have hD : va_D (AR q) (wR q cA σ24) := dd_re (wR_f _ _ _ _) hD
          refine lv_aload_n hx hb d_R_chain_180 rfl (lv_at hl 2 rfl) ?_
          refine lv_aload_n hx hb d_R_chain_181 rfl (lv_at hl 2 rfl) ?_
          refine gf_R_16 hx hb hts hown hK hP d_R_chain_182 ?_
          refine lv_iload_n hx hb d_R_chain_185 rfl (lv_at hl 1 rfl) ?_
          obtain ⟨hgd, h⟩ := gd_some h
          refine al_R_3 hx hb hK hP hgd d_R_chain_186 ?_
          obtain ⟨u12, hcl, h⟩ := bd_some h
          refine cx_wrv (va_runV (As := [.int (σ24 3 (σ 12 a1.toNatClampNeg).toNatClampNeg)]) (rest := []) ⟨hx, hb, hml, hown, hts⟩ (c_R_enter l dC dI q cA σ24 (σ24 3 (σ 12 a1.toNatClampNeg).toNatClampNeg) _ hcl) (cw_R_175 hts ⟨Nat.le_of_ble_eq_true rfl, Nat.le_of_ble_eq_true rfl⟩) ⟨pxR_B, va_recv hK hP (ci := 7) (q0 := 0) rfl rfl, pxR_U hP hK hD hN hZ hS⟩ rfl rfl hl.1 rfl (lv_room (Nat.le_of_ble_eq_true rfl)) d_R_chain_187 ⟨Nat.zero_le _, Nat.zero_le _⟩) hS (fun _ h => h) (fun H locs hP hS => ?_)
          have hD : va_D (AR q) (wR q cA u12) := dd_re (wR_f _ _ _ _) hD
          obtain rfl := Option.some.inj h
          exact W.vret hx hb hr (fun t ht hW => ⟨rfl, by rw [ht]; exact hP, hS.F ht⟩) hS.2.2 d_R_chain_190
    · have h := if_t hc h
      refine lv_aload_n hx hb d_R_chain_49 rfl (lv_at hl 1 rfl) ?_
      refine gf_R_59 hx hb hts hown hK hP d_R_chain_50 ?_
      refine lv_iload_n hx hb d_R_chain_53 rfl (lv_at hl 2 rfl) ?_
      refine lv_aload_n hx hb d_R_chain_54 rfl (lv_at hl 1 rfl) ?_
      refine gf_R_147 hx hb hts hown hK hP d_R_chain_55 ?_
      obtain ⟨hgd, h⟩ := gd_some h
      refine as_R_17 hx hb hK hP hD hS hgd d_R_chain_58 (fun H locs hP hS => ?_)
      obtain ⟨σ25, eσ25, h⟩ := st_some h
      rw [← eσ25] at hP
      have hD : va_D (AR q) (wR q cA σ25) := dd_re (wR_f _ _ _ _) hD
      refine lv_aload_n hx hb d_R_chain_59 rfl (lv_at hl 1 rfl) ?_
      refine gf_R_47 hx hb hts hown hK hP d_R_chain_60 ?_
      refine lv_iload_n hx hb d_R_chain_63 rfl (lv_at hl 2 rfl) ?_
      refine lv_iconst (v := 3) hx hb d_R_chain_64 (by decide) ?_
      obtain ⟨hgd, h⟩ := gd_some h
      refine as_R_13 hx hb hK hP hD hS hgd d_R_chain_65 (fun H locs hP hS => ?_)
      obtain ⟨σ26, eσ26, h⟩ := st_some h
      rw [← eσ26] at hP
      have hD : va_D (AR q) (wR q cA σ26) := dd_re (wR_f _ _ _ _) hD
      refine lv_aload_n hx hb d_R_chain_66 rfl (lv_at hl 1 rfl) ?_
      refine lv_aload_n hx hb d_R_chain_67 rfl (lv_at hl 1 rfl) ?_
      refine gf_R_13 hx hb hts hown hK hP d_R_chain_68 ?_
      refine lv_iload_n hx hb d_R_chain_71 rfl (lv_at hl 0 rfl) ?_
      obtain ⟨hgd, h⟩ := gd_some h
      refine al_R_2 hx hb hK hP hgd d_R_chain_72 ?_
      obtain ⟨u13, hcl, h⟩ := bd_some h
      refine cx_wrv (va_runV (As := [.int (σ26 2 (σ 12 a1.toNatClampNeg).toNatClampNeg)]) (rest := []) ⟨hx, hb, hml, hown, hts⟩ (c_R_enter l dC dI q cA σ26 (σ26 2 (σ 12 a1.toNatClampNeg).toNatClampNeg) _ hcl) (cw_R_175 hts ⟨Nat.le_of_ble_eq_true rfl, Nat.le_of_ble_eq_true rfl⟩) ⟨pxR_B, va_recv hK hP (ci := 7) (q0 := 0) rfl rfl, pxR_U hP hK hD hN hZ hS⟩ rfl rfl hl.1 rfl (lv_room (Nat.le_of_ble_eq_true rfl)) d_R_chain_73 ⟨Nat.zero_le _, Nat.zero_le _⟩) hS (fun _ h => h) (fun H locs hP hS => ?_)
      have hD : va_D (AR q) (wR q cA u13) := dd_re (wR_f _ _ _ _) hD
      refine lv_goto (tgt := 190) hx hb d_R_chain_76 rfl ?_
      obtain rfl := Option.some.inj h
      exact W.vret hx hb hr (fun t ht hW => ⟨rfl, by rw [ht]; exact hP, hS.F ht⟩) hS.2.2 d_R_chain_190
  · have h := if_t hc h
    refine lv_aload_n hx hb d_R_chain_14 rfl (lv_at hl 1 rfl) ?_
    refine gf_R_47 hx hb hts hown hK hP d_R_chain_15 ?_
    refine lv_iload_n hx hb d_R_chain_18 rfl (lv_at hl 2 rfl) ?_
    obtain ⟨hgd, h⟩ := gd_some h
    refine al_R_13 hx hb hK hP hgd d_R_chain_19 ?_
    refine lv_iconst (v := 1) hx hb d_R_chain_20 (by decide) ?_
    refine lv_icmp_ne (tgt := 31) hx hb d_R_chain_21 rfl (fun hc => ?_) (fun hc => ?_)
    · have h := if_f hc h
      refine lv_aload_n hx hb d_R_chain_31 rfl (lv_at hl 1 rfl) ?_
      refine lv_iload_n hx hb d_R_chain_32 rfl (lv_at hl 2 rfl) ?_
      obtain ⟨u14, hcl, h⟩ := bd_some h
      refine cx_wrv (va_runV (As := [.int a1]) (rest := []) ⟨hx, hb, hml, hown, hts⟩ (c_R_ends l dC dI q cA σ a1 _ hcl) (cw_R_190 hts ⟨Nat.le_of_ble_eq_true rfl, Nat.le_of_ble_eq_true rfl⟩) ⟨pxR_B, va_recv hK hP (ci := 7) (q0 := 0) rfl rfl, pxR_U hP hK hD hN hZ hS⟩ rfl rfl hl.1 rfl (lv_room (Nat.le_of_ble_eq_true rfl)) d_R_chain_33 ⟨Nat.zero_le _, Nat.zero_le _⟩) hS (fun _ h => h) (fun H locs hP hS => ?_)
      have hD : va_D (AR q) (wR q cA u14) := dd_re (wR_f _ _ _ _) hD
      refine lv_goto (tgt := 190) hx hb d_R_chain_36 rfl ?_
      obtain rfl := Option.some.inj h
      exact W.vret hx hb hr (fun t ht hW => ⟨rfl, by rw [ht]; exact hP, hS.F ht⟩) hS.2.2 d_R_chain_190
    · have h := if_t hc h
      refine lv_aload_n hx hb d_R_chain_24 rfl (lv_at hl 1 rfl) ?_
      obtain ⟨u15, hcl, h⟩ := bd_some h
      refine cx_wrv (va_runV (As := []) (rest := []) ⟨hx, hb, hml, hown, hts⟩ (c_R_fail l dC dI q cA σ _ hcl) (cw_R_162 hts ⟨Nat.le_of_ble_eq_true rfl, Nat.le_of_ble_eq_true rfl⟩) ⟨pxR_B, va_recv hK hP (ci := 7) (q0 := 0) rfl rfl, pxR_U hP hK hD hN hZ hS⟩ rfl rfl hl.1 rfl (lv_room (Nat.le_of_ble_eq_true rfl)) d_R_chain_25 ⟨Nat.zero_le _, Nat.zero_le _⟩) hS (fun _ h => h) (fun H locs hP hS => ?_)
      have hD : va_D (AR q) (wR q cA u15) := dd_re (wR_f _ _ _ _) hD
      refine lv_goto (tgt := 190) hx hb d_R_chain_28 rfl ?_
      obtain rfl := Option.some.inj h
      exact W.vret hx hb hr (fun t ht hW => ⟨rfl, by rw [ht]; exact hP, hS.F ht⟩) hS.2.2 d_R_chain_190
def y_R_goOn : MethodName := ⟨"StagedParsersModel", "goOn", "(I)V"⟩
def w_R_goOn : List Cond := .code y_R_goOn prog_9_method_34_code 3 none :: AW_
def rm_R_goOn : Room := { frames := 3, cells := 0, slots := 0, locals := 65 }
theorem d_R_goOn_0 : decode prog_9_method_34_code 0 = .ok (.aload_n 0, 1) := by decide +kernel
theorem d_R_goOn_1 : decode prog_9_method_34_code 1 = .ok (.getfield 44, 3) := by decide +kernel
theorem d_R_goOn_4 : decode prog_9_method_34_code 4 = .ok (.iload_n 1, 1) := by decide +kernel
theorem d_R_goOn_5 : decode prog_9_method_34_code 5 = .ok (.iaload, 1) := by decide +kernel
theorem d_R_goOn_6 : decode prog_9_method_34_code 6 = .ok (.istore_n 2, 1) := by decide +kernel
theorem d_R_goOn_7 : decode prog_9_method_34_code 7 = .ok (.aload_n 0, 1) := by decide +kernel
theorem d_R_goOn_8 : decode prog_9_method_34_code 8 = .ok (.getfield 7, 3) := by decide +kernel
theorem d_R_goOn_11 : decode prog_9_method_34_code 11 = .ok (.iload_n 2, 1) := by decide +kernel
theorem d_R_goOn_12 : decode prog_9_method_34_code 12 = .ok (.iaload, 1) := by decide +kernel
theorem d_R_goOn_13 : decode prog_9_method_34_code 13 = .ok (.tableswitch 247 4 11 #[47, 53, 114, 149, 184, 214, 220, 226], 47) := by decide +kernel
theorem d_R_goOn_60 : decode prog_9_method_34_code 60 = .ok (.aload_n 0, 1) := by decide +kernel
theorem d_R_goOn_61 : decode prog_9_method_34_code 61 = .ok (.iload_n 1, 1) := by decide +kernel
theorem d_R_goOn_62 : decode prog_9_method_34_code 62 = .ok (.invokevirtual 178, 3) := by decide +kernel
theorem d_R_goOn_65 : decode prog_9_method_34_code 65 = .ok (.return_, 1) := by decide +kernel
theorem d_R_goOn_66 : decode prog_9_method_34_code 66 = .ok (.aload_n 0, 1) := by decide +kernel
theorem d_R_goOn_67 : decode prog_9_method_34_code 67 = .ok (.getfield 47, 3) := by decide +kernel
theorem d_R_goOn_70 : decode prog_9_method_34_code 70 = .ok (.iload_n 1, 1) := by decide +kernel
theorem d_R_goOn_71 : decode prog_9_method_34_code 71 = .ok (.iaload, 1) := by decide +kernel
theorem d_R_goOn_72 : decode prog_9_method_34_code 72 = .ok (.iconst 2, 1) := by decide +kernel
theorem d_R_goOn_73 : decode prog_9_method_34_code 73 = .ok (.if_icmp .eq 23, 3) := by decide +kernel
theorem d_R_goOn_76 : decode prog_9_method_34_code 76 = .ok (.aload_n 0, 1) := by decide +kernel
theorem d_R_goOn_77 : decode prog_9_method_34_code 77 = .ok (.getfield 144, 3) := by decide +kernel
theorem d_R_goOn_80 : decode prog_9_method_34_code 80 = .ok (.ifCond .ne 16, 3) := by decide +kernel
theorem d_R_goOn_83 : decode prog_9_method_34_code 83 = .ok (.aload_n 0, 1) := by decide +kernel
theorem d_R_goOn_84 : decode prog_9_method_34_code 84 = .ok (.getfield 141, 3) := by decide +kernel
theorem d_R_goOn_87 : decode prog_9_method_34_code 87 = .ok (.aload_n 0, 1) := by decide +kernel
theorem d_R_goOn_88 : decode prog_9_method_34_code 88 = .ok (.getfield 50, 3) := by decide +kernel
theorem d_R_goOn_91 : decode prog_9_method_34_code 91 = .ok (.iload_n 1, 1) := by decide +kernel
theorem d_R_goOn_92 : decode prog_9_method_34_code 92 = .ok (.iaload, 1) := by decide +kernel
theorem d_R_goOn_93 : decode prog_9_method_34_code 93 = .ok (.if_icmp .eq 16, 3) := by decide +kernel
theorem d_R_goOn_96 : decode prog_9_method_34_code 96 = .ok (.aload_n 0, 1) := by decide +kernel
theorem d_R_goOn_97 : decode prog_9_method_34_code 97 = .ok (.dup, 1) := by decide +kernel
theorem d_R_goOn_98 : decode prog_9_method_34_code 98 = .ok (.getfield 138, 3) := by decide +kernel
theorem d_R_goOn_101 : decode prog_9_method_34_code 101 = .ok (.iconst 1, 1) := by decide +kernel
theorem d_R_goOn_102 : decode prog_9_method_34_code 102 = .ok (.isub, 1) := by decide +kernel
theorem d_R_goOn_103 : decode prog_9_method_34_code 103 = .ok (.putfield 138, 3) := by decide +kernel
theorem d_R_goOn_106 : decode prog_9_method_34_code 106 = .ok (.goto 20, 3) := by decide +kernel
theorem d_R_goOn_109 : decode prog_9_method_34_code 109 = .ok (.aload_n 0, 1) := by decide +kernel
theorem d_R_goOn_110 : decode prog_9_method_34_code 110 = .ok (.getfield 47, 3) := by decide +kernel
theorem d_R_goOn_113 : decode prog_9_method_34_code 113 = .ok (.iload_n 1, 1) := by decide +kernel
theorem d_R_goOn_114 : decode prog_9_method_34_code 114 = .ok (.iconst 2, 1) := by decide +kernel
theorem d_R_goOn_115 : decode prog_9_method_34_code 115 = .ok (.iastore, 1) := by decide +kernel
theorem d_R_goOn_116 : decode prog_9_method_34_code 116 = .ok (.aload_n 0, 1) := by decide +kernel
theorem d_R_goOn_117 : decode prog_9_method_34_code 117 = .ok (.aload_n 0, 1) := by decide +kernel
theorem d_R_goOn_118 : decode prog_9_method_34_code 118 = .ok (.getfield 16, 3) := by decide +kernel
theorem d_R_goOn_121 : decode prog_9_method_34_code 121 = .ok (.iload_n 2, 1) := by decide +kernel
theorem d_R_goOn_122 : decode prog_9_method_34_code 122 = .ok (.iaload, 1) := by decide +kernel
theorem d_R_goOn_123 : decode prog_9_method_34_code 123 = .ok (.invokevirtual 175, 3) := by decide +kernel
theorem d_R_goOn_126 : decode prog_9_method_34_code 126 = .ok (.return_, 1) := by decide +kernel
theorem d_R_goOn_127 : decode prog_9_method_34_code 127 = .ok (.aload_n 0, 1) := by decide +kernel
theorem d_R_goOn_128 : decode prog_9_method_34_code 128 = .ok (.aload_n 0, 1) := by decide +kernel
theorem d_R_goOn_129 : decode prog_9_method_34_code 129 = .ok (.getfield 144, 3) := by decide +kernel
theorem d_R_goOn_132 : decode prog_9_method_34_code 132 = .ok (.ifCond .eq 10, 3) := by decide +kernel
theorem d_R_goOn_135 : decode prog_9_method_34_code 135 = .ok (.aload_n 0, 1) := by decide +kernel
theorem d_R_goOn_136 : decode prog_9_method_34_code 136 = .ok (.getfield 141, 3) := by decide +kernel
theorem d_R_goOn_139 : decode prog_9_method_34_code 139 = .ok (.goto 9, 3) := by decide +kernel
theorem d_R_goOn_142 : decode prog_9_method_34_code 142 = .ok (.aload_n 0, 1) := by decide +kernel
theorem d_R_goOn_143 : decode prog_9_method_34_code 143 = .ok (.getfield 50, 3) := by decide +kernel
theorem d_R_goOn_146 : decode prog_9_method_34_code 146 = .ok (.iload_n 1, 1) := by decide +kernel
theorem d_R_goOn_147 : decode prog_9_method_34_code 147 = .ok (.iaload, 1) := by decide +kernel
theorem d_R_goOn_148 : decode prog_9_method_34_code 148 = .ok (.putfield 141, 3) := by decide +kernel
theorem d_R_goOn_151 : decode prog_9_method_34_code 151 = .ok (.aload_n 0, 1) := by decide +kernel
theorem d_R_goOn_152 : decode prog_9_method_34_code 152 = .ok (.dup, 1) := by decide +kernel
theorem d_R_goOn_153 : decode prog_9_method_34_code 153 = .ok (.getfield 138, 3) := by decide +kernel
theorem d_R_goOn_156 : decode prog_9_method_34_code 156 = .ok (.iconst 1, 1) := by decide +kernel
theorem d_R_goOn_157 : decode prog_9_method_34_code 157 = .ok (.isub, 1) := by decide +kernel
theorem d_R_goOn_158 : decode prog_9_method_34_code 158 = .ok (.putfield 138, 3) := by decide +kernel
theorem d_R_goOn_161 : decode prog_9_method_34_code 161 = .ok (.return_, 1) := by decide +kernel
theorem d_R_goOn_162 : decode prog_9_method_34_code 162 = .ok (.aload_n 0, 1) := by decide +kernel
theorem d_R_goOn_163 : decode prog_9_method_34_code 163 = .ok (.aload_n 0, 1) := by decide +kernel
theorem d_R_goOn_164 : decode prog_9_method_34_code 164 = .ok (.getfield 144, 3) := by decide +kernel
theorem d_R_goOn_167 : decode prog_9_method_34_code 167 = .ok (.ifCond .eq 12, 3) := by decide +kernel
theorem d_R_goOn_170 : decode prog_9_method_34_code 170 = .ok (.aload_n 0, 1) := by decide +kernel
theorem d_R_goOn_171 : decode prog_9_method_34_code 171 = .ok (.getfield 50, 3) := by decide +kernel
theorem d_R_goOn_174 : decode prog_9_method_34_code 174 = .ok (.iload_n 1, 1) := by decide +kernel
theorem d_R_goOn_175 : decode prog_9_method_34_code 175 = .ok (.iaload, 1) := by decide +kernel
theorem d_R_goOn_176 : decode prog_9_method_34_code 176 = .ok (.goto 7, 3) := by decide +kernel
theorem d_R_goOn_179 : decode prog_9_method_34_code 179 = .ok (.aload_n 0, 1) := by decide +kernel
theorem d_R_goOn_180 : decode prog_9_method_34_code 180 = .ok (.getfield 141, 3) := by decide +kernel
theorem d_R_goOn_183 : decode prog_9_method_34_code 183 = .ok (.putfield 141, 3) := by decide +kernel
theorem d_R_goOn_186 : decode prog_9_method_34_code 186 = .ok (.aload_n 0, 1) := by decide +kernel
theorem d_R_goOn_187 : decode prog_9_method_34_code 187 = .ok (.dup, 1) := by decide +kernel
theorem d_R_goOn_188 : decode prog_9_method_34_code 188 = .ok (.getfield 138, 3) := by decide +kernel
theorem d_R_goOn_191 : decode prog_9_method_34_code 191 = .ok (.iconst 1, 1) := by decide +kernel
theorem d_R_goOn_192 : decode prog_9_method_34_code 192 = .ok (.isub, 1) := by decide +kernel
theorem d_R_goOn_193 : decode prog_9_method_34_code 193 = .ok (.putfield 138, 3) := by decide +kernel
theorem d_R_goOn_196 : decode prog_9_method_34_code 196 = .ok (.return_, 1) := by decide +kernel
theorem d_R_goOn_197 : decode prog_9_method_34_code 197 = .ok (.aload_n 0, 1) := by decide +kernel
theorem d_R_goOn_198 : decode prog_9_method_34_code 198 = .ok (.aload_n 0, 1) := by decide +kernel
theorem d_R_goOn_199 : decode prog_9_method_34_code 199 = .ok (.getfield 50, 3) := by decide +kernel
theorem d_R_goOn_202 : decode prog_9_method_34_code 202 = .ok (.iload_n 1, 1) := by decide +kernel
theorem d_R_goOn_203 : decode prog_9_method_34_code 203 = .ok (.iaload, 1) := by decide +kernel
theorem d_R_goOn_204 : decode prog_9_method_34_code 204 = .ok (.putfield 141, 3) := by decide +kernel
theorem d_R_goOn_207 : decode prog_9_method_34_code 207 = .ok (.aload_n 0, 1) := by decide +kernel
theorem d_R_goOn_208 : decode prog_9_method_34_code 208 = .ok (.getfield 144, 3) := by decide +kernel
theorem d_R_goOn_211 : decode prog_9_method_34_code 211 = .ok (.ifCond .eq 10, 3) := by decide +kernel
theorem d_R_goOn_214 : decode prog_9_method_34_code 214 = .ok (.aload_n 0, 1) := by decide +kernel
theorem d_R_goOn_215 : decode prog_9_method_34_code 215 = .ok (.invokevirtual 162, 3) := by decide +kernel
theorem d_R_goOn_218 : decode prog_9_method_34_code 218 = .ok (.goto 8, 3) := by decide +kernel
theorem d_R_goOn_221 : decode prog_9_method_34_code 221 = .ok (.aload_n 0, 1) := by decide +kernel
theorem d_R_goOn_222 : decode prog_9_method_34_code 222 = .ok (.iconst 0, 1) := by decide +kernel
theorem d_R_goOn_223 : decode prog_9_method_34_code 223 = .ok (.invokevirtual 156, 3) := by decide +kernel
theorem d_R_goOn_226 : decode prog_9_method_34_code 226 = .ok (.return_, 1) := by decide +kernel
theorem d_R_goOn_227 : decode prog_9_method_34_code 227 = .ok (.aload_n 0, 1) := by decide +kernel
theorem d_R_goOn_228 : decode prog_9_method_34_code 228 = .ok (.iload_n 1, 1) := by decide +kernel
theorem d_R_goOn_229 : decode prog_9_method_34_code 229 = .ok (.invokevirtual 181, 3) := by decide +kernel
theorem d_R_goOn_232 : decode prog_9_method_34_code 232 = .ok (.return_, 1) := by decide +kernel
theorem d_R_goOn_233 : decode prog_9_method_34_code 233 = .ok (.aload_n 0, 1) := by decide +kernel
theorem d_R_goOn_234 : decode prog_9_method_34_code 234 = .ok (.iload_n 1, 1) := by decide +kernel
theorem d_R_goOn_235 : decode prog_9_method_34_code 235 = .ok (.invokevirtual 184, 3) := by decide +kernel
theorem d_R_goOn_238 : decode prog_9_method_34_code 238 = .ok (.return_, 1) := by decide +kernel
theorem d_R_goOn_239 : decode prog_9_method_34_code 239 = .ok (.aload_n 0, 1) := by decide +kernel
theorem d_R_goOn_240 : decode prog_9_method_34_code 240 = .ok (.dup, 1) := by decide +kernel
theorem d_R_goOn_241 : decode prog_9_method_34_code 241 = .ok (.getfield 169, 3) := by decide +kernel
theorem d_R_goOn_244 : decode prog_9_method_34_code 244 = .ok (.iconst 1, 1) := by decide +kernel
theorem d_R_goOn_245 : decode prog_9_method_34_code 245 = .ok (.isub, 1) := by decide +kernel
theorem d_R_goOn_246 : decode prog_9_method_34_code 246 = .ok (.putfield 169, 3) := by decide +kernel
theorem d_R_goOn_249 : decode prog_9_method_34_code 249 = .ok (.aload_n 0, 1) := by decide +kernel
theorem d_R_goOn_250 : decode prog_9_method_34_code 250 = .ok (.dup, 1) := by decide +kernel
theorem d_R_goOn_251 : decode prog_9_method_34_code 251 = .ok (.getfield 138, 3) := by decide +kernel
theorem d_R_goOn_254 : decode prog_9_method_34_code 254 = .ok (.iconst 1, 1) := by decide +kernel
theorem d_R_goOn_255 : decode prog_9_method_34_code 255 = .ok (.isub, 1) := by decide +kernel
theorem d_R_goOn_256 : decode prog_9_method_34_code 256 = .ok (.putfield 138, 3) := by decide +kernel
theorem d_R_goOn_259 : decode prog_9_method_34_code 259 = .ok (.return_, 1) := by decide +kernel
theorem d_R_goOn_260 : decode prog_9_method_34_code 260 = .ok (.aload_n 0, 1) := by decide +kernel
theorem d_R_goOn_261 : decode prog_9_method_34_code 261 = .ok (.getfield 144, 3) := by decide +kernel
theorem d_R_goOn_264 : decode prog_9_method_34_code 264 = .ok (.ifCond .eq 18, 3) := by decide +kernel
theorem d_R_goOn_267 : decode prog_9_method_34_code 267 = .ok (.aload_n 0, 1) := by decide +kernel
theorem d_R_goOn_268 : decode prog_9_method_34_code 268 = .ok (.getfield 62, 3) := by decide +kernel
theorem d_R_goOn_271 : decode prog_9_method_34_code 271 = .ok (.aload_n 0, 1) := by decide +kernel
theorem d_R_goOn_272 : decode prog_9_method_34_code 272 = .ok (.getfield 16, 3) := by decide +kernel
theorem d_R_goOn_275 : decode prog_9_method_34_code 275 = .ok (.iload_n 2, 1) := by decide +kernel
theorem d_R_goOn_276 : decode prog_9_method_34_code 276 = .ok (.iaload, 1) := by decide +kernel
theorem d_R_goOn_277 : decode prog_9_method_34_code 277 = .ok (.aload_n 0, 1) := by decide +kernel
theorem d_R_goOn_278 : decode prog_9_method_34_code 278 = .ok (.getfield 147, 3) := by decide +kernel
theorem d_R_goOn_281 : decode prog_9_method_34_code 281 = .ok (.iastore, 1) := by decide +kernel
theorem d_R_goOn_282 : decode prog_9_method_34_code 282 = .ok (.aload_n 0, 1) := by decide +kernel
theorem d_R_goOn_283 : decode prog_9_method_34_code 283 = .ok (.dup, 1) := by decide +kernel
theorem d_R_goOn_284 : decode prog_9_method_34_code 284 = .ok (.getfield 138, 3) := by decide +kernel
theorem d_R_goOn_287 : decode prog_9_method_34_code 287 = .ok (.iconst 1, 1) := by decide +kernel
theorem d_R_goOn_288 : decode prog_9_method_34_code 288 = .ok (.isub, 1) := by decide +kernel
theorem d_R_goOn_289 : decode prog_9_method_34_code 289 = .ok (.putfield 138, 3) := by decide +kernel
theorem d_R_goOn_292 : decode prog_9_method_34_code 292 = .ok (.return_, 1) := by decide +kernel
section RW
variable {p : Program} {l : Launch} {e : Env} {R : Room} {s : State} {m : MethodId} {args : Array Value} {below : List Frame} {meth : Method} {c : Code} {H : Heap} {locs : List Loc} {cells slots : Nat} {Q : State → Prop}
variable {cc : ByteArray} {pc : Nat} {ls : Array Slot} {rest : List Value} {dC : Nat → ClassId} {dI : Nat → Nat → Nat} {q : Nat → Nat} {cA : Nat → ClassId} {σ : MZ_} {H0 : Heap} {A : Nat → Prop}

theorem cw_R_178 (hts : ∀ w ∈ AW_, w.before args s = true) (hR : rm_R_then.frames + 1 ≤ R.frames ∧ 8 + (2 + 11) + rm_R_then.locals ≤ R.locals) : CallW R s args "StagedParsersModel" "StagedParsersModel" 178 y_R_then prog_9_method_35_code 2 none w_R_then rm_R_then 0 0 1 :=
  ⟨callB_of 1 hts (aw_in kw_1050) rfl rfl rfl (hts _ kw_9) (hts _ kw_1047) ⟨by decide, by decide, by decide +kernel⟩ hR, hts _ kw_1049, hts _ ks_61⟩
theorem cw_R_181 (hts : ∀ w ∈ AW_, w.before args s = true) (hR : rm_R_many.frames + 1 ≤ R.frames ∧ 8 + (3 + 11) + rm_R_many.locals ≤ R.locals) : CallW R s args "StagedParsersModel" "StagedParsersModel" 181 y_R_many prog_9_method_37_code 3 none w_R_many rm_R_many 0 0 1 :=
  ⟨callB_of 1 hts (aw_in kw_1057) rfl rfl rfl (hts _ kw_9) (hts _ kw_1054) ⟨by decide, by decide, by decide +kernel⟩ hR, hts _ kw_1056, hts _ ks_62⟩
theorem cw_R_184 (hts : ∀ w ∈ AW_, w.before args s = true) (hR : rm_R_chain.frames + 1 ≤ R.frames ∧ 8 + (4 + 11) + rm_R_chain.locals ≤ R.locals) : CallW R s args "StagedParsersModel" "StagedParsersModel" 184 y_R_chain prog_9_method_38_code 4 none w_R_chain rm_R_chain 0 0 1 :=
  ⟨callB_of 1 hts (aw_in kw_1065) rfl rfl rfl (hts _ kw_9) (hts _ kw_1062) ⟨by decide, by decide, by decide +kernel⟩ hR, hts _ kw_1064, hts _ ks_64⟩
end RW
def f_R_goOn (σ : MZ_) (a1 : Int32) : Option (MZ_) :=
  gd_ a1 400 (gd_ (σ 12 a1.toNatClampNeg) 80 (if (σ 1 (σ 12 a1.toNatClampNeg).toNatClampNeg) = 4 then (f_R_then σ a1).bind fun u1 => some u1
  else if (σ 1 (σ 12 a1.toNatClampNeg).toNatClampNeg) = 5 then gd_ a1 400 (if (σ 13 a1.toNatClampNeg) = 2 then st_ (va_up σ 34 (fun _ => (σ 34 0) - 1)) fun σ1 => some σ1
    else if (σ 35 0) = 0 then gd_ a1 400 (if (σ 36 0) = (σ 14 a1.toNatClampNeg) then gd_ a1 400 (st_ (va_up σ 13 (upd (σ 13) a1.toNatClampNeg 2)) fun σ3 => gd_ (σ 12 a1.toNatClampNeg) 80 ((f_R_enter σ3 (σ3 3 (σ 12 a1.toNatClampNeg).toNatClampNeg)).bind fun u2 => some u2))
      else st_ (va_up σ 34 (fun _ => (σ 34 0) - 1)) fun σ4 => some σ4)
    else st_ (va_up σ 34 (fun _ => (σ 34 0) - 1)) fun σ2 => some σ2)
  else if (σ 1 (σ 12 a1.toNatClampNeg).toNatClampNeg) = 6 then if (σ 35 0) = 0 then gd_ a1 400 (st_ (va_up σ 36 (fun _ => σ 14 a1.toNatClampNeg)) fun σ5 => st_ (va_up σ5 34 (fun _ => (σ5 34 0) - 1)) fun σ6 => some σ6)
    else st_ (va_up σ 36 (fun _ => σ 36 0)) fun σ7 => st_ (va_up σ7 34 (fun _ => (σ7 34 0) - 1)) fun σ8 => some σ8
  else if (σ 1 (σ 12 a1.toNatClampNeg).toNatClampNeg) = 7 then if (σ 35 0) = 0 then st_ (va_up σ 36 (fun _ => σ 36 0)) fun σ9 => st_ (va_up σ9 34 (fun _ => (σ9 34 0) - 1)) fun σ10 => some σ10
    else gd_ a1 400 (st_ (va_up σ 36 (fun _ => σ 14 a1.toNatClampNeg)) fun σ11 => st_ (va_up σ11 34 (fun _ => (σ11 34 0) - 1)) fun σ12 => some σ12)
  else if (σ 1 (σ 12 a1.toNatClampNeg).toNatClampNeg) = 8 then gd_ a1 400 (st_ (va_up σ 36 (fun _ => σ 14 a1.toNatClampNeg)) fun σ13 => if (σ13 35 0) = 0 then (f_R_succeed σ13 0).bind fun u3 => some u3
    else (f_R_fail σ13).bind fun u4 => some u4)
  else if (σ 1 (σ 12 a1.toNatClampNeg).toNatClampNeg) = 9 then (f_R_many σ a1).bind fun u5 => some u5
  else if (σ 1 (σ 12 a1.toNatClampNeg).toNatClampNeg) = 10 then (f_R_chain σ a1).bind fun u6 => some u6
  else if (σ 1 (σ 12 a1.toNatClampNeg).toNatClampNeg) = 11 then st_ (va_up σ 39 (fun _ => (σ 39 0) - 1)) fun σ14 => st_ (va_up σ14 34 (fun _ => (σ14 34 0) - 1)) fun σ15 => some σ15
  else if (σ 35 0) = 0 then st_ (va_up σ 34 (fun _ => (σ 34 0) - 1)) fun σ16 => some σ16
  else gd_ (σ 12 a1.toNatClampNeg) 80 (gd_ (σ 3 (σ 12 a1.toNatClampNeg).toNatClampNeg) 4 (st_ (va_up σ 18 (upd (σ 18) (σ 3 (σ 12 a1.toNatClampNeg).toNatClampNeg).toNatClampNeg (σ 37 0))) fun σ17 => st_ (va_up σ17 34 (fun _ => (σ17 34 0) - 1)) fun σ18 => some σ18))))
set_option maxHeartbeats 4000000 in
set_option maxRecDepth 100000 in
theorem c_R_goOn (l : Launch) (dC : Nat → ClassId) (dI : Nat → Nat → Nat) (q : Nat → Nat) (cA : Nat → ClassId) (σ : MZ_) (a1 : Int32) (u : MZ_) (h : f_R_goOn σ a1 = some u) : Met l y_R_goOn w_R_goOn rm_R_goOn (va_Pc [.ref (q 0), .int a1] (PRx_ dC dI q cA σ)) (QW_ none (fun H => va_P (dC, dI) cls_ (wR q cA u) H) (AR q)) 0 0 (AR q) := by
  refine Met.ofW (cc := prog_9_method_34_code) (maxL := 3) (ret := none) (by decide) rfl ?_
  intro p e s m args below meth c s₁ B hml hv
  obtain ⟨rfl, hP, hK, hD, hN, hZ⟩ := hv
  have hx := B.exec
  have hb := B.bytes
  have hr := B.returns
  have hts : ∀ w ∈ AW_, w.before _ s = true := fun w h => atoms_spec (ws := w_R_goOn) B.pre w (List.mem_cons_of_mem _ h)
  have hown : s.vm.findClass "StagedParsersModel" = some m.cls := findClass_of_methodNamed B.named
  have hlocks := B.notSynchronized
  have hS : va_S (AR q) s.heap s.heap [] := va_S.rf
  have hl := lv_entry ([.ref (q 0), .int a1]) (n := 3) (Nat.le_of_ble_eq_true rfl)
  rw [lg_entry_eq]
  generalize (lg_sl ([.ref (q 0), .int a1]) ++ List.replicate (3 - (lg_sl ([.ref (q 0), .int a1])).length) Slot.unset).toArray = ls at hl ⊢
  have hl : lv_has ls 3 [(0, .ref (q 0)), (1, .int a1)] := hl
  rw [f_R_goOn] at h
  refine lv_aload_n hx hb d_R_goOn_0 rfl (lv_at hl 0 rfl) ?_
  refine gf_R_44 hx hb hts hown hK hP d_R_goOn_1 ?_
  refine lv_iload_n hx hb d_R_goOn_4 rfl (lv_at hl 1 rfl) ?_
  obtain ⟨hgd, h⟩ := gd_some h
  refine al_R_12 hx hb hK hP hgd d_R_goOn_5 ?_
  refine lv_istore_n hx hb d_R_goOn_6 rfl hl (by decide) rfl (fun ls hl => ?_)
  have hl : lv_has ls 3 [(2, .int (σ 12 a1.toNatClampNeg)), (0, .ref (q 0)), (1, .int a1)] := hl
  refine lv_aload_n hx hb d_R_goOn_7 rfl (lv_at hl 1 rfl) ?_
  refine gf_R_7 hx hb hts hown hK hP d_R_goOn_8 ?_
  refine lv_iload_n hx hb d_R_goOn_11 rfl (lv_at hl 0 rfl) ?_
  obtain ⟨hgd, h⟩ := gd_some h
  refine al_R_1 hx hb hK hP hgd d_R_goOn_12 ?_
  by_cases hc0 : (σ 1 (σ 12 a1.toNatClampNeg).toNatClampNeg) = 4
  · have h := if_t hc0 h
    refine sw_in (tgt := 60) hx hb d_R_goOn_13 hc0 (by decide) (by decide) rfl rfl ?_
    refine lv_aload_n hx hb d_R_goOn_60 rfl (lv_at hl 1 rfl) ?_
    refine lv_iload_n hx hb d_R_goOn_61 rfl (lv_at hl 2 rfl) ?_
    obtain ⟨u1, hcl, h⟩ := bd_some h
    refine cx_wrv (va_runV (As := [.int a1]) (rest := []) ⟨hx, hb, hml, hown, hts⟩ (c_R_then l dC dI q cA σ a1 _ hcl) (cw_R_178 hts ⟨Nat.le_of_ble_eq_true rfl, Nat.le_of_ble_eq_true rfl⟩) ⟨pxR_B, va_recv hK hP (ci := 7) (q0 := 0) rfl rfl, pxR_U hP hK hD hN hZ hS⟩ rfl rfl hl.1 rfl (lv_room (Nat.le_of_ble_eq_true rfl)) d_R_goOn_62 ⟨Nat.zero_le _, Nat.zero_le _⟩) hS (fun _ h => h) (fun H locs hP hS => ?_)
    have hD : va_D (AR q) (wR q cA u1) := dd_re (wR_f _ _ _ _) hD
    obtain rfl := Option.some.inj h
    exact W.vret hx hb hr (fun t ht hW => ⟨rfl, by rw [ht]; exact hP, hS.F ht⟩) hS.2.2 d_R_goOn_65
  have h := if_f hc0 h
  by_cases hc1 : (σ 1 (σ 12 a1.toNatClampNeg).toNatClampNeg) = 5
  · have h := if_t hc1 h
    refine sw_in (tgt := 66) hx hb d_R_goOn_13 hc1 (by decide) (by decide) rfl rfl ?_
    refine lv_aload_n hx hb d_R_goOn_66 rfl (lv_at hl 1 rfl) ?_
    refine gf_R_47 hx hb hts hown hK hP d_R_goOn_67 ?_
    refine lv_iload_n hx hb d_R_goOn_70 rfl (lv_at hl 2 rfl) ?_
    obtain ⟨hgd, h⟩ := gd_some h
    refine al_R_13 hx hb hK hP hgd d_R_goOn_71 ?_
    refine lv_iconst (v := 2) hx hb d_R_goOn_72 (by decide) ?_
    refine lv_icmp_eq (tgt := 96) hx hb d_R_goOn_73 rfl (fun hc => ?_) (fun hc => ?_)
    · have h := if_t hc h
      refine lv_aload_n hx hb d_R_goOn_96 rfl (lv_at hl 1 rfl) ?_
      refine lv_dup hx hb d_R_goOn_97 rfl ?_
      refine gf_R_138 hx hb hts hown hK hP d_R_goOn_98 ?_
      refine lv_iconst (v := 1) hx hb d_R_goOn_101 (by decide) ?_
      refine lv_isub hx hb d_R_goOn_102 ?_
      refine pf_R_138 hx hb hts hown hK hP hD hS d_R_goOn_103 (fun H locs hP hS => ?_)
      obtain ⟨σ1, eσ1, h⟩ := st_some h
      rw [← eσ1] at hP
      have hD : va_D (AR q) (wR q cA σ1) := dd_re (wR_f _ _ _ _) hD
      refine lv_goto (tgt := 126) hx hb d_R_goOn_106 rfl ?_
      obtain rfl := Option.some.inj h
      exact W.vret hx hb hr (fun t ht hW => ⟨rfl, by rw [ht]; exact hP, hS.F ht⟩) hS.2.2 d_R_goOn_126
    · have h := if_f hc h
      refine lv_aload_n hx hb d_R_goOn_76 rfl (lv_at hl 1 rfl) ?_
      refine gf_R_144 hx hb hts hown hK hP d_R_goOn_77 ?_
      refine lv_if_ne (tgt := 96) hx hb d_R_goOn_80 rfl (fun hc => ?_) (fun hc => ?_)
      · have h := if_f hc h
        refine lv_aload_n hx hb d_R_goOn_96 rfl (lv_at hl 1 rfl) ?_
        refine lv_dup hx hb d_R_goOn_97 rfl ?_
        refine gf_R_138 hx hb hts hown hK hP d_R_goOn_98 ?_
        refine lv_iconst (v := 1) hx hb d_R_goOn_101 (by decide) ?_
        refine lv_isub hx hb d_R_goOn_102 ?_
        refine pf_R_138 hx hb hts hown hK hP hD hS d_R_goOn_103 (fun H locs hP hS => ?_)
        obtain ⟨σ2, eσ2, h⟩ := st_some h
        rw [← eσ2] at hP
        have hD : va_D (AR q) (wR q cA σ2) := dd_re (wR_f _ _ _ _) hD
        refine lv_goto (tgt := 126) hx hb d_R_goOn_106 rfl ?_
        obtain rfl := Option.some.inj h
        exact W.vret hx hb hr (fun t ht hW => ⟨rfl, by rw [ht]; exact hP, hS.F ht⟩) hS.2.2 d_R_goOn_126
      · have h := if_t hc h
        refine lv_aload_n hx hb d_R_goOn_83 rfl (lv_at hl 1 rfl) ?_
        refine gf_R_141 hx hb hts hown hK hP d_R_goOn_84 ?_
        refine lv_aload_n hx hb d_R_goOn_87 rfl (lv_at hl 1 rfl) ?_
        refine gf_R_50 hx hb hts hown hK hP d_R_goOn_88 ?_
        refine lv_iload_n hx hb d_R_goOn_91 rfl (lv_at hl 2 rfl) ?_
        obtain ⟨hgd, h⟩ := gd_some h
        refine al_R_14 hx hb hK hP hgd d_R_goOn_92 ?_
        refine lv_icmp_eq (tgt := 109) hx hb d_R_goOn_93 rfl (fun hc => ?_) (fun hc => ?_)
        · have h := if_t hc h
          refine lv_aload_n hx hb d_R_goOn_109 rfl (lv_at hl 1 rfl) ?_
          refine gf_R_47 hx hb hts hown hK hP d_R_goOn_110 ?_
          refine lv_iload_n hx hb d_R_goOn_113 rfl (lv_at hl 2 rfl) ?_
          refine lv_iconst (v := 2) hx hb d_R_goOn_114 (by decide) ?_
          obtain ⟨hgd, h⟩ := gd_some h
          refine as_R_13 hx hb hK hP hD hS hgd d_R_goOn_115 (fun H locs hP hS => ?_)
          obtain ⟨σ3, eσ3, h⟩ := st_some h
          rw [← eσ3] at hP
          have hD : va_D (AR q) (wR q cA σ3) := dd_re (wR_f _ _ _ _) hD
          refine lv_aload_n hx hb d_R_goOn_116 rfl (lv_at hl 1 rfl) ?_
          refine lv_aload_n hx hb d_R_goOn_117 rfl (lv_at hl 1 rfl) ?_
          refine gf_R_16 hx hb hts hown hK hP d_R_goOn_118 ?_
          refine lv_iload_n hx hb d_R_goOn_121 rfl (lv_at hl 0 rfl) ?_
          obtain ⟨hgd, h⟩ := gd_some h
          refine al_R_3 hx hb hK hP hgd d_R_goOn_122 ?_
          obtain ⟨u2, hcl, h⟩ := bd_some h
          refine cx_wrv (va_runV (As := [.int (σ3 3 (σ 12 a1.toNatClampNeg).toNatClampNeg)]) (rest := []) ⟨hx, hb, hml, hown, hts⟩ (c_R_enter l dC dI q cA σ3 (σ3 3 (σ 12 a1.toNatClampNeg).toNatClampNeg) _ hcl) (cw_R_175 hts ⟨Nat.le_of_ble_eq_true rfl, Nat.le_of_ble_eq_true rfl⟩) ⟨pxR_B, va_recv hK hP (ci := 7) (q0 := 0) rfl rfl, pxR_U hP hK hD hN hZ hS⟩ rfl rfl hl.1 rfl (lv_room (Nat.le_of_ble_eq_true rfl)) d_R_goOn_123 ⟨Nat.zero_le _, Nat.zero_le _⟩) hS (fun _ h => h) (fun H locs hP hS => ?_)
          have hD : va_D (AR q) (wR q cA u2) := dd_re (wR_f _ _ _ _) hD
          obtain rfl := Option.some.inj h
          exact W.vret hx hb hr (fun t ht hW => ⟨rfl, by rw [ht]; exact hP, hS.F ht⟩) hS.2.2 d_R_goOn_126
        · have h := if_f hc h
          refine lv_aload_n hx hb d_R_goOn_96 rfl (lv_at hl 1 rfl) ?_
          refine lv_dup hx hb d_R_goOn_97 rfl ?_
          refine gf_R_138 hx hb hts hown hK hP d_R_goOn_98 ?_
          refine lv_iconst (v := 1) hx hb d_R_goOn_101 (by decide) ?_
          refine lv_isub hx hb d_R_goOn_102 ?_
          refine pf_R_138 hx hb hts hown hK hP hD hS d_R_goOn_103 (fun H locs hP hS => ?_)
          obtain ⟨σ4, eσ4, h⟩ := st_some h
          rw [← eσ4] at hP
          have hD : va_D (AR q) (wR q cA σ4) := dd_re (wR_f _ _ _ _) hD
          refine lv_goto (tgt := 126) hx hb d_R_goOn_106 rfl ?_
          obtain rfl := Option.some.inj h
          exact W.vret hx hb hr (fun t ht hW => ⟨rfl, by rw [ht]; exact hP, hS.F ht⟩) hS.2.2 d_R_goOn_126
  have h := if_f hc1 h
  by_cases hc2 : (σ 1 (σ 12 a1.toNatClampNeg).toNatClampNeg) = 6
  · have h := if_t hc2 h
    refine sw_in (tgt := 127) hx hb d_R_goOn_13 hc2 (by decide) (by decide) rfl rfl ?_
    refine lv_aload_n hx hb d_R_goOn_127 rfl (lv_at hl 1 rfl) ?_
    refine lv_aload_n hx hb d_R_goOn_128 rfl (lv_at hl 1 rfl) ?_
    refine gf_R_144 hx hb hts hown hK hP d_R_goOn_129 ?_
    refine lv_if_eq (tgt := 142) hx hb d_R_goOn_132 rfl (fun hc => ?_) (fun hc => ?_)
    · have h := if_t hc h
      refine lv_aload_n hx hb d_R_goOn_142 rfl (lv_at hl 1 rfl) ?_
      refine gf_R_50 hx hb hts hown hK hP d_R_goOn_143 ?_
      refine lv_iload_n hx hb d_R_goOn_146 rfl (lv_at hl 2 rfl) ?_
      obtain ⟨hgd, h⟩ := gd_some h
      refine al_R_14 hx hb hK hP hgd d_R_goOn_147 ?_
      refine pf_R_141 hx hb hts hown hK hP hD hS d_R_goOn_148 (fun H locs hP hS => ?_)
      obtain ⟨σ5, eσ5, h⟩ := st_some h
      rw [← eσ5] at hP
      have hD : va_D (AR q) (wR q cA σ5) := dd_re (wR_f _ _ _ _) hD
      refine lv_aload_n hx hb d_R_goOn_151 rfl (lv_at hl 1 rfl) ?_
      refine lv_dup hx hb d_R_goOn_152 rfl ?_
      refine gf_R_138 hx hb hts hown hK hP d_R_goOn_153 ?_
      refine lv_iconst (v := 1) hx hb d_R_goOn_156 (by decide) ?_
      refine lv_isub hx hb d_R_goOn_157 ?_
      refine pf_R_138 hx hb hts hown hK hP hD hS d_R_goOn_158 (fun H locs hP hS => ?_)
      obtain ⟨σ6, eσ6, h⟩ := st_some h
      rw [← eσ6] at hP
      have hD : va_D (AR q) (wR q cA σ6) := dd_re (wR_f _ _ _ _) hD
      obtain rfl := Option.some.inj h
      exact W.vret hx hb hr (fun t ht hW => ⟨rfl, by rw [ht]; exact hP, hS.F ht⟩) hS.2.2 d_R_goOn_161
    · have h := if_f hc h
      refine lv_aload_n hx hb d_R_goOn_135 rfl (lv_at hl 1 rfl) ?_
      refine gf_R_141 hx hb hts hown hK hP d_R_goOn_136 ?_
      refine lv_goto (tgt := 148) hx hb d_R_goOn_139 rfl ?_
      refine pf_R_141 hx hb hts hown hK hP hD hS d_R_goOn_148 (fun H locs hP hS => ?_)
      obtain ⟨σ7, eσ7, h⟩ := st_some h
      rw [← eσ7] at hP
      have hD : va_D (AR q) (wR q cA σ7) := dd_re (wR_f _ _ _ _) hD
      refine lv_aload_n hx hb d_R_goOn_151 rfl (lv_at hl 1 rfl) ?_
      refine lv_dup hx hb d_R_goOn_152 rfl ?_
      refine gf_R_138 hx hb hts hown hK hP d_R_goOn_153 ?_
      refine lv_iconst (v := 1) hx hb d_R_goOn_156 (by decide) ?_
      refine lv_isub hx hb d_R_goOn_157 ?_
      refine pf_R_138 hx hb hts hown hK hP hD hS d_R_goOn_158 (fun H locs hP hS => ?_)
      obtain ⟨σ8, eσ8, h⟩ := st_some h
      rw [← eσ8] at hP
      have hD : va_D (AR q) (wR q cA σ8) := dd_re (wR_f _ _ _ _) hD
      obtain rfl := Option.some.inj h
      exact W.vret hx hb hr (fun t ht hW => ⟨rfl, by rw [ht]; exact hP, hS.F ht⟩) hS.2.2 d_R_goOn_161
  have h := if_f hc2 h
  by_cases hc3 : (σ 1 (σ 12 a1.toNatClampNeg).toNatClampNeg) = 7
  · have h := if_t hc3 h
    refine sw_in (tgt := 162) hx hb d_R_goOn_13 hc3 (by decide) (by decide) rfl rfl ?_
    refine lv_aload_n hx hb d_R_goOn_162 rfl (lv_at hl 1 rfl) ?_
    refine lv_aload_n hx hb d_R_goOn_163 rfl (lv_at hl 1 rfl) ?_
    refine gf_R_144 hx hb hts hown hK hP d_R_goOn_164 ?_
    refine lv_if_eq (tgt := 179) hx hb d_R_goOn_167 rfl (fun hc => ?_) (fun hc => ?_)
    · have h := if_t hc h
      refine lv_aload_n hx hb d_R_goOn_179 rfl (lv_at hl 1 rfl) ?_
      refine gf_R_141 hx hb hts hown hK hP d_R_goOn_180 ?_
      refine pf_R_141 hx hb hts hown hK hP hD hS d_R_goOn_183 (fun H locs hP hS => ?_)
      obtain ⟨σ9, eσ9, h⟩ := st_some h
      rw [← eσ9] at hP
      have hD : va_D (AR q) (wR q cA σ9) := dd_re (wR_f _ _ _ _) hD
      refine lv_aload_n hx hb d_R_goOn_186 rfl (lv_at hl 1 rfl) ?_
      refine lv_dup hx hb d_R_goOn_187 rfl ?_
      refine gf_R_138 hx hb hts hown hK hP d_R_goOn_188 ?_
      refine lv_iconst (v := 1) hx hb d_R_goOn_191 (by decide) ?_
      refine lv_isub hx hb d_R_goOn_192 ?_
      refine pf_R_138 hx hb hts hown hK hP hD hS d_R_goOn_193 (fun H locs hP hS => ?_)
      obtain ⟨σ10, eσ10, h⟩ := st_some h
      rw [← eσ10] at hP
      have hD : va_D (AR q) (wR q cA σ10) := dd_re (wR_f _ _ _ _) hD
      obtain rfl := Option.some.inj h
      exact W.vret hx hb hr (fun t ht hW => ⟨rfl, by rw [ht]; exact hP, hS.F ht⟩) hS.2.2 d_R_goOn_196
    · have h := if_f hc h
      refine lv_aload_n hx hb d_R_goOn_170 rfl (lv_at hl 1 rfl) ?_
      refine gf_R_50 hx hb hts hown hK hP d_R_goOn_171 ?_
      refine lv_iload_n hx hb d_R_goOn_174 rfl (lv_at hl 2 rfl) ?_
      obtain ⟨hgd, h⟩ := gd_some h
      refine al_R_14 hx hb hK hP hgd d_R_goOn_175 ?_
      refine lv_goto (tgt := 183) hx hb d_R_goOn_176 rfl ?_
      refine pf_R_141 hx hb hts hown hK hP hD hS d_R_goOn_183 (fun H locs hP hS => ?_)
      obtain ⟨σ11, eσ11, h⟩ := st_some h
      rw [← eσ11] at hP
      have hD : va_D (AR q) (wR q cA σ11) := dd_re (wR_f _ _ _ _) hD
      refine lv_aload_n hx hb d_R_goOn_186 rfl (lv_at hl 1 rfl) ?_
      refine lv_dup hx hb d_R_goOn_187 rfl ?_
      refine gf_R_138 hx hb hts hown hK hP d_R_goOn_188 ?_
      refine lv_iconst (v := 1) hx hb d_R_goOn_191 (by decide) ?_
      refine lv_isub hx hb d_R_goOn_192 ?_
      refine pf_R_138 hx hb hts hown hK hP hD hS d_R_goOn_193 (fun H locs hP hS => ?_)
      obtain ⟨σ12, eσ12, h⟩ := st_some h
      rw [← eσ12] at hP
      have hD : va_D (AR q) (wR q cA σ12) := dd_re (wR_f _ _ _ _) hD
      obtain rfl := Option.some.inj h
      exact W.vret hx hb hr (fun t ht hW => ⟨rfl, by rw [ht]; exact hP, hS.F ht⟩) hS.2.2 d_R_goOn_196
  have h := if_f hc3 h
  by_cases hc4 : (σ 1 (σ 12 a1.toNatClampNeg).toNatClampNeg) = 8
  · have h := if_t hc4 h
    refine sw_in (tgt := 197) hx hb d_R_goOn_13 hc4 (by decide) (by decide) rfl rfl ?_
    refine lv_aload_n hx hb d_R_goOn_197 rfl (lv_at hl 1 rfl) ?_
    refine lv_aload_n hx hb d_R_goOn_198 rfl (lv_at hl 1 rfl) ?_
    refine gf_R_50 hx hb hts hown hK hP d_R_goOn_199 ?_
    refine lv_iload_n hx hb d_R_goOn_202 rfl (lv_at hl 2 rfl) ?_
    obtain ⟨hgd, h⟩ := gd_some h
    refine al_R_14 hx hb hK hP hgd d_R_goOn_203 ?_
    refine pf_R_141 hx hb hts hown hK hP hD hS d_R_goOn_204 (fun H locs hP hS => ?_)
    obtain ⟨σ13, eσ13, h⟩ := st_some h
    rw [← eσ13] at hP
    have hD : va_D (AR q) (wR q cA σ13) := dd_re (wR_f _ _ _ _) hD
    refine lv_aload_n hx hb d_R_goOn_207 rfl (lv_at hl 1 rfl) ?_
    refine gf_R_144 hx hb hts hown hK hP d_R_goOn_208 ?_
    refine lv_if_eq (tgt := 221) hx hb d_R_goOn_211 rfl (fun hc => ?_) (fun hc => ?_)
    · have h := if_t hc h
      refine lv_aload_n hx hb d_R_goOn_221 rfl (lv_at hl 1 rfl) ?_
      refine lv_iconst (v := 0) hx hb d_R_goOn_222 (by decide) ?_
      obtain ⟨u3, hcl, h⟩ := bd_some h
      refine cx_wrv (va_runV (As := [.int 0]) (rest := []) ⟨hx, hb, hml, hown, hts⟩ (c_R_succeed l dC dI q cA σ13 0 _ hcl) (cw_R_156 hts ⟨Nat.le_of_ble_eq_true rfl, Nat.le_of_ble_eq_true rfl⟩) ⟨pxR_B, va_recv hK hP (ci := 7) (q0 := 0) rfl rfl, pxR_U hP hK hD hN hZ hS⟩ rfl rfl hl.1 rfl (lv_room (Nat.le_of_ble_eq_true rfl)) d_R_goOn_223 ⟨Nat.zero_le _, Nat.zero_le _⟩) hS (fun _ h => h) (fun H locs hP hS => ?_)
      have hD : va_D (AR q) (wR q cA u3) := dd_re (wR_f _ _ _ _) hD
      obtain rfl := Option.some.inj h
      exact W.vret hx hb hr (fun t ht hW => ⟨rfl, by rw [ht]; exact hP, hS.F ht⟩) hS.2.2 d_R_goOn_226
    · have h := if_f hc h
      refine lv_aload_n hx hb d_R_goOn_214 rfl (lv_at hl 1 rfl) ?_
      obtain ⟨u4, hcl, h⟩ := bd_some h
      refine cx_wrv (va_runV (As := []) (rest := []) ⟨hx, hb, hml, hown, hts⟩ (c_R_fail l dC dI q cA σ13 _ hcl) (cw_R_162 hts ⟨Nat.le_of_ble_eq_true rfl, Nat.le_of_ble_eq_true rfl⟩) ⟨pxR_B, va_recv hK hP (ci := 7) (q0 := 0) rfl rfl, pxR_U hP hK hD hN hZ hS⟩ rfl rfl hl.1 rfl (lv_room (Nat.le_of_ble_eq_true rfl)) d_R_goOn_215 ⟨Nat.zero_le _, Nat.zero_le _⟩) hS (fun _ h => h) (fun H locs hP hS => ?_)
      have hD : va_D (AR q) (wR q cA u4) := dd_re (wR_f _ _ _ _) hD
      refine lv_goto (tgt := 226) hx hb d_R_goOn_218 rfl ?_
      obtain rfl := Option.some.inj h
      exact W.vret hx hb hr (fun t ht hW => ⟨rfl, by rw [ht]; exact hP, hS.F ht⟩) hS.2.2 d_R_goOn_226
  have h := if_f hc4 h
  by_cases hc5 : (σ 1 (σ 12 a1.toNatClampNeg).toNatClampNeg) = 9
  · have h := if_t hc5 h
    refine sw_in (tgt := 227) hx hb d_R_goOn_13 hc5 (by decide) (by decide) rfl rfl ?_
    refine lv_aload_n hx hb d_R_goOn_227 rfl (lv_at hl 1 rfl) ?_
    refine lv_iload_n hx hb d_R_goOn_228 rfl (lv_at hl 2 rfl) ?_
    obtain ⟨u5, hcl, h⟩ := bd_some h
    refine cx_wrv (va_runV (As := [.int a1]) (rest := []) ⟨hx, hb, hml, hown, hts⟩ (c_R_many l dC dI q cA σ a1 _ hcl) (cw_R_181 hts ⟨Nat.le_of_ble_eq_true rfl, Nat.le_of_ble_eq_true rfl⟩) ⟨pxR_B, va_recv hK hP (ci := 7) (q0 := 0) rfl rfl, pxR_U hP hK hD hN hZ hS⟩ rfl rfl hl.1 rfl (lv_room (Nat.le_of_ble_eq_true rfl)) d_R_goOn_229 ⟨Nat.zero_le _, Nat.zero_le _⟩) hS (fun _ h => h) (fun H locs hP hS => ?_)
    have hD : va_D (AR q) (wR q cA u5) := dd_re (wR_f _ _ _ _) hD
    obtain rfl := Option.some.inj h
    exact W.vret hx hb hr (fun t ht hW => ⟨rfl, by rw [ht]; exact hP, hS.F ht⟩) hS.2.2 d_R_goOn_232
  have h := if_f hc5 h
  by_cases hc6 : (σ 1 (σ 12 a1.toNatClampNeg).toNatClampNeg) = 10
  · have h := if_t hc6 h
    refine sw_in (tgt := 233) hx hb d_R_goOn_13 hc6 (by decide) (by decide) rfl rfl ?_
    refine lv_aload_n hx hb d_R_goOn_233 rfl (lv_at hl 1 rfl) ?_
    refine lv_iload_n hx hb d_R_goOn_234 rfl (lv_at hl 2 rfl) ?_
    obtain ⟨u6, hcl, h⟩ := bd_some h
    refine cx_wrv (va_runV (As := [.int a1]) (rest := []) ⟨hx, hb, hml, hown, hts⟩ (c_R_chain l dC dI q cA σ a1 _ hcl) (cw_R_184 hts ⟨Nat.le_of_ble_eq_true rfl, Nat.le_of_ble_eq_true rfl⟩) ⟨pxR_B, va_recv hK hP (ci := 7) (q0 := 0) rfl rfl, pxR_U hP hK hD hN hZ hS⟩ rfl rfl hl.1 rfl (lv_room (Nat.le_of_ble_eq_true rfl)) d_R_goOn_235 ⟨Nat.zero_le _, Nat.zero_le _⟩) hS (fun _ h => h) (fun H locs hP hS => ?_)
    have hD : va_D (AR q) (wR q cA u6) := dd_re (wR_f _ _ _ _) hD
    obtain rfl := Option.some.inj h
    exact W.vret hx hb hr (fun t ht hW => ⟨rfl, by rw [ht]; exact hP, hS.F ht⟩) hS.2.2 d_R_goOn_238
  have h := if_f hc6 h
  by_cases hc7 : (σ 1 (σ 12 a1.toNatClampNeg).toNatClampNeg) = 11
  · have h := if_t hc7 h
    refine sw_in (tgt := 239) hx hb d_R_goOn_13 hc7 (by decide) (by decide) rfl rfl ?_
    refine lv_aload_n hx hb d_R_goOn_239 rfl (lv_at hl 1 rfl) ?_
    refine lv_dup hx hb d_R_goOn_240 rfl ?_
    refine gf_R_169 hx hb hts hown hK hP d_R_goOn_241 ?_
    refine lv_iconst (v := 1) hx hb d_R_goOn_244 (by decide) ?_
    refine lv_isub hx hb d_R_goOn_245 ?_
    refine pf_R_169 hx hb hts hown hK hP hD hS d_R_goOn_246 (fun H locs hP hS => ?_)
    obtain ⟨σ14, eσ14, h⟩ := st_some h
    rw [← eσ14] at hP
    have hD : va_D (AR q) (wR q cA σ14) := dd_re (wR_f _ _ _ _) hD
    refine lv_aload_n hx hb d_R_goOn_249 rfl (lv_at hl 1 rfl) ?_
    refine lv_dup hx hb d_R_goOn_250 rfl ?_
    refine gf_R_138 hx hb hts hown hK hP d_R_goOn_251 ?_
    refine lv_iconst (v := 1) hx hb d_R_goOn_254 (by decide) ?_
    refine lv_isub hx hb d_R_goOn_255 ?_
    refine pf_R_138 hx hb hts hown hK hP hD hS d_R_goOn_256 (fun H locs hP hS => ?_)
    obtain ⟨σ15, eσ15, h⟩ := st_some h
    rw [← eσ15] at hP
    have hD : va_D (AR q) (wR q cA σ15) := dd_re (wR_f _ _ _ _) hD
    obtain rfl := Option.some.inj h
    exact W.vret hx hb hr (fun t ht hW => ⟨rfl, by rw [ht]; exact hP, hS.F ht⟩) hS.2.2 d_R_goOn_259
  have h := if_f hc7 h
  refine lv_tableOut (tgt := 260) hx hb d_R_goOn_13 (by have q0 := lv_neT hc0 (a := 4) (by decide); have q1 := lv_neT hc1 (a := 5) (by decide); have q2 := lv_neT hc2 (a := 6) (by decide); have q3 := lv_neT hc3 (a := 7) (by decide); have q4 := lv_neT hc4 (a := 8) (by decide); have q5 := lv_neT hc5 (a := 9) (by decide); have q6 := lv_neT hc6 (a := 10) (by decide); have q7 := lv_neT hc7 (a := 11) (by decide); omega) rfl ?_
  refine lv_aload_n hx hb d_R_goOn_260 rfl (lv_at hl 1 rfl) ?_
  refine gf_R_144 hx hb hts hown hK hP d_R_goOn_261 ?_
  refine lv_if_eq (tgt := 282) hx hb d_R_goOn_264 rfl (fun hc => ?_) (fun hc => ?_)
  · have h := if_t hc h
    refine lv_aload_n hx hb d_R_goOn_282 rfl (lv_at hl 1 rfl) ?_
    refine lv_dup hx hb d_R_goOn_283 rfl ?_
    refine gf_R_138 hx hb hts hown hK hP d_R_goOn_284 ?_
    refine lv_iconst (v := 1) hx hb d_R_goOn_287 (by decide) ?_
    refine lv_isub hx hb d_R_goOn_288 ?_
    refine pf_R_138 hx hb hts hown hK hP hD hS d_R_goOn_289 (fun H locs hP hS => ?_)
    obtain ⟨σ16, eσ16, h⟩ := st_some h
    rw [← eσ16] at hP
    have hD : va_D (AR q) (wR q cA σ16) := dd_re (wR_f _ _ _ _) hD
    obtain rfl := Option.some.inj h
    exact W.vret hx hb hr (fun t ht hW => ⟨rfl, by rw [ht]; exact hP, hS.F ht⟩) hS.2.2 d_R_goOn_292
  · have h := if_f hc h
    refine lv_aload_n hx hb d_R_goOn_267 rfl (lv_at hl 1 rfl) ?_
    refine gf_R_62 hx hb hts hown hK hP d_R_goOn_268 ?_
    refine lv_aload_n hx hb d_R_goOn_271 rfl (lv_at hl 1 rfl) ?_
    refine gf_R_16 hx hb hts hown hK hP d_R_goOn_272 ?_
    refine lv_iload_n hx hb d_R_goOn_275 rfl (lv_at hl 0 rfl) ?_
    obtain ⟨hgd, h⟩ := gd_some h
    refine al_R_3 hx hb hK hP hgd d_R_goOn_276 ?_
    refine lv_aload_n hx hb d_R_goOn_277 rfl (lv_at hl 1 rfl) ?_
    refine gf_R_147 hx hb hts hown hK hP d_R_goOn_278 ?_
    obtain ⟨hgd, h⟩ := gd_some h
    refine as_R_18 hx hb hK hP hD hS hgd d_R_goOn_281 (fun H locs hP hS => ?_)
    obtain ⟨σ17, eσ17, h⟩ := st_some h
    rw [← eσ17] at hP
    have hD : va_D (AR q) (wR q cA σ17) := dd_re (wR_f _ _ _ _) hD
    refine lv_aload_n hx hb d_R_goOn_282 rfl (lv_at hl 1 rfl) ?_
    refine lv_dup hx hb d_R_goOn_283 rfl ?_
    refine gf_R_138 hx hb hts hown hK hP d_R_goOn_284 ?_
    refine lv_iconst (v := 1) hx hb d_R_goOn_287 (by decide) ?_
    refine lv_isub hx hb d_R_goOn_288 ?_
    refine pf_R_138 hx hb hts hown hK hP hD hS d_R_goOn_289 (fun H locs hP hS => ?_)
    obtain ⟨σ18, eσ18, h⟩ := st_some h
    rw [← eσ18] at hP
    have hD : va_D (AR q) (wR q cA σ18) := dd_re (wR_f _ _ _ _) hD
    obtain rfl := Option.some.inj h
    exact W.vret hx hb hr (fun t ht hW => ⟨rfl, by rw [ht]; exact hP, hS.F ht⟩) hS.2.2 d_R_goOn_292
