/-! Machine, first -/
def y_A_fill : MethodName := ⟨"java/util/Arrays", "fill", "([II)V"⟩
def w_A_fill : List Cond := .code y_A_fill prog_18_method_103_code 4 none :: AW_
def rm_A_fill : Room := { frames := 0, cells := 0, slots := 0, locals := 0 }
theorem d_A_fill_24_0 : decode prog_18_method_103_code 0 = .ok (.iconst 0, 1) := by decide +kernel
theorem d_A_fill_24_1 : decode prog_18_method_103_code 1 = .ok (.istore_n 2, 1) := by decide +kernel
theorem d_A_fill_24_2 : decode prog_18_method_103_code 2 = .ok (.aload_n 0, 1) := by decide +kernel
theorem d_A_fill_24_3 : decode prog_18_method_103_code 3 = .ok (.arraylength, 1) := by decide +kernel
theorem d_A_fill_24_4 : decode prog_18_method_103_code 4 = .ok (.istore_n 3, 1) := by decide +kernel
theorem d_A_fill_24_5 : decode prog_18_method_103_code 5 = .ok (.iload_n 2, 1) := by decide +kernel
theorem d_A_fill_24_6 : decode prog_18_method_103_code 6 = .ok (.iload_n 3, 1) := by decide +kernel
theorem d_A_fill_24_7 : decode prog_18_method_103_code 7 = .ok (.if_icmp .ge 13, 3) := by decide +kernel
theorem d_A_fill_24_10 : decode prog_18_method_103_code 10 = .ok (.aload_n 0, 1) := by decide +kernel
theorem d_A_fill_24_11 : decode prog_18_method_103_code 11 = .ok (.iload_n 2, 1) := by decide +kernel
theorem d_A_fill_24_12 : decode prog_18_method_103_code 12 = .ok (.iload_n 1, 1) := by decide +kernel
theorem d_A_fill_24_13 : decode prog_18_method_103_code 13 = .ok (.iastore, 1) := by decide +kernel
theorem d_A_fill_24_14 : decode prog_18_method_103_code 14 = .ok (.iinc 2 1, 3) := by decide +kernel
theorem d_A_fill_24_17 : decode prog_18_method_103_code 17 = .ok (.goto (-12), 3) := by decide +kernel
theorem d_A_fill_24_20 : decode prog_18_method_103_code 20 = .ok (.return_, 1) := by decide +kernel
def f_A_fill_24_L5 : Nat → MZ_ → Int32 → Int32 → Int32 → Option (MZ_)
  | 0, _, _, _, _ => none
  | N + 1, σ, x1, x2, x3 => if x3 ≤ x2 then some σ
    else gd_ x2 4 (st_ (va_up σ 24 (upd (σ 24) x2.toNatClampNeg x1)) fun σ1 => f_A_fill_24_L5 N σ1 x1 (x2 + 1) x3)
def f_A_fill_24 (σ : MZ_) (a1 : Int32) : Option (MZ_) :=
  f_A_fill_24_L5 100 σ a1 0 4
set_option maxHeartbeats 4000000 in
set_option maxRecDepth 100000 in
theorem c_A_fill_24 (l : Launch) (dC : Nat → ClassId) (dI : Nat → Nat → Nat) (q : Nat → Nat) (cA : Nat → ClassId) (pt : Nat) (σ : MZ_) (a1 : Int32) (u : MZ_) (h : f_A_fill_24 σ a1 = some u) : Met l y_A_fill w_A_fill rm_A_fill (va_Pc [.ref (q 24), .int a1] (PX_ dC dI q cA pt σ)) (QW_ none (fun H => va_P (dC, dI) cls_ (wX q cA u) H) (AX q)) 0 0 (AX q) := by
  refine va_MetF (cc := prog_18_method_103_code) (maxL := 4) (ret := none) (by decide) rfl ?_
  intro p e s m args below meth c s₁ B hml hv
  obtain ⟨rfl, hP, hK, hD, hN, hZ⟩ := hv
  have hx := B.exec
  have hb := B.bytes
  have hr := B.returns
  have hts : ∀ w ∈ AW_, w.before _ s = true := fun w h => atoms_spec (ws := w_A_fill) B.pre w (List.mem_cons_of_mem _ h)
  have hown : s.vm.findClass "java/util/Arrays" = some m.cls := findClass_of_methodNamed B.named
  have hlocks := B.notSynchronized
  have hS : va_S (AX q) s.heap s.heap [] := va_S.rf
  have hl := lv_entry ([.ref (q 24), .int a1]) (n := 4) (Nat.le_of_ble_eq_true rfl)
  rw [lg_entry_eq]
  generalize (lg_sl ([.ref (q 24), .int a1]) ++ List.replicate (4 - (lg_sl ([.ref (q 24), .int a1])).length) Slot.unset).toArray = ls at hl ⊢
  have hl : lv_has ls 4 [(0, .ref (q 24)), (1, .int a1)] := hl
  have L5 : ∀ (N5 : Nat) (σ : MZ_) (x1 : Int32) (x2 : Int32) (x3 : Int32), f_A_fill_24_L5 N5 σ x1 x2 x3 = some u → ∀ (H : Heap) (locs : List Loc) (ls : Array Slot), va_P (dC, dI) cls_ (wX q cA σ) H → va_S (AX q) s.heap H locs → lv_has ls 4 [(0, .ref (q 24)), (1, .int x1), (2, .int x2), (3, .int x3)] → W p l e (headSpec w_A_fill rm_A_fill).room s m ([.ref (q 24), .int a1] : List Value).toArray below meth c H locs 0 0 (MQ below (QW_ none (fun H => va_P (dC, dI) cls_ (wX q cA u) H) (AX q)) ([.ref (q 24), .int a1] : List Value).toArray s 0 0 (AX q)) (F0 m 5 ls []) := by
    intro N5
    induction N5 with
    | zero => intro σ x1 x2 x3 h; cases h
    | succ N5 ih5 =>
      intro σ x1 x2 x3 h H locs ls hP hS hl
      have hD : va_D (AX q) (wX q cA σ) := dd_re (wX_f _ _ _ _) hD
      rw [f_A_fill_24_L5] at h
      refine lv_iload_n hx hb d_A_fill_24_5 rfl (lv_at hl 2 rfl) ?_
      refine lv_iload_n hx hb d_A_fill_24_6 rfl (lv_at hl 3 rfl) ?_
      refine lv_icmp_ge (tgt := 20) hx hb d_A_fill_24_7 rfl (fun hc => ?_) (fun hc => ?_)
      · have h := if_t hc h
        obtain rfl := Option.some.inj h
        exact W.vret hx hb hr (fun t ht hW => ⟨rfl, by rw [ht]; exact hP, hS.F ht⟩) hS.2.2 d_A_fill_24_20
      · have h := if_f hc h
        refine lv_aload_n hx hb d_A_fill_24_10 rfl (lv_at hl 0 rfl) ?_
        refine lv_iload_n hx hb d_A_fill_24_11 rfl (lv_at hl 2 rfl) ?_
        refine lv_iload_n hx hb d_A_fill_24_12 rfl (lv_at hl 1 rfl) ?_
        obtain ⟨hgd, h⟩ := gd_some h
        refine as_X_24 hx hb hK hP hD hS hgd d_A_fill_24_13 (fun H locs hP hS => ?_)
        obtain ⟨σ1, eσ1, h⟩ := st_some h
        rw [← eσ1] at hP
        have hD : va_D (AX q) (wX q cA σ1) := dd_re (wX_f _ _ _ _) hD
        refine lv_iinc (v := x2 + 1) hx hb d_A_fill_24_14 hl (k := 2) rfl rfl (by decide) rfl (fun ls hl => ?_)
        have hl : lv_has ls 4 [(2, .int (x2 + 1)), (0, .ref (q 24)), (1, .int x1), (3, .int x3)] := hl
        refine lv_goto (tgt := 5) hx hb d_A_fill_24_17 rfl ?_
        exact ih5 _ _ _ _ h _ _ _ hP hS (lv_sub hl [1, 2, 0, 3] rfl)
  rw [f_A_fill_24] at h
  refine lv_iconst (v := 0) hx hb d_A_fill_24_0 (by decide) ?_
  refine lv_istore_n hx hb d_A_fill_24_1 rfl hl (by decide) rfl (fun ls hl => ?_)
  have hl : lv_has ls 4 [(2, .int 0), (0, .ref (q 24)), (1, .int a1)] := hl
  refine lv_aload_n hx hb d_A_fill_24_2 rfl (lv_at hl 1 rfl) ?_
  refine an_X_24 hx hb hK hP d_A_fill_24_3 ?_
  refine lv_istore_n hx hb d_A_fill_24_4 rfl hl (by decide) rfl (fun ls hl => ?_)
  have hl : lv_has ls 4 [(3, .int 4), (2, .int 0), (0, .ref (q 24)), (1, .int a1)] := hl
  exact L5 _ _ _ _ _ h _ _ _ hP hS (lv_sub hl [2, 3, 1, 0] rfl)
theorem d_A_fill_7_0 : decode prog_18_method_103_code 0 = .ok (.iconst 0, 1) := by decide +kernel
theorem d_A_fill_7_1 : decode prog_18_method_103_code 1 = .ok (.istore_n 2, 1) := by decide +kernel
theorem d_A_fill_7_2 : decode prog_18_method_103_code 2 = .ok (.aload_n 0, 1) := by decide +kernel
theorem d_A_fill_7_3 : decode prog_18_method_103_code 3 = .ok (.arraylength, 1) := by decide +kernel
theorem d_A_fill_7_4 : decode prog_18_method_103_code 4 = .ok (.istore_n 3, 1) := by decide +kernel
theorem d_A_fill_7_5 : decode prog_18_method_103_code 5 = .ok (.iload_n 2, 1) := by decide +kernel
theorem d_A_fill_7_6 : decode prog_18_method_103_code 6 = .ok (.iload_n 3, 1) := by decide +kernel
theorem d_A_fill_7_7 : decode prog_18_method_103_code 7 = .ok (.if_icmp .ge 13, 3) := by decide +kernel
theorem d_A_fill_7_10 : decode prog_18_method_103_code 10 = .ok (.aload_n 0, 1) := by decide +kernel
theorem d_A_fill_7_11 : decode prog_18_method_103_code 11 = .ok (.iload_n 2, 1) := by decide +kernel
theorem d_A_fill_7_12 : decode prog_18_method_103_code 12 = .ok (.iload_n 1, 1) := by decide +kernel
theorem d_A_fill_7_13 : decode prog_18_method_103_code 13 = .ok (.iastore, 1) := by decide +kernel
theorem d_A_fill_7_14 : decode prog_18_method_103_code 14 = .ok (.iinc 2 1, 3) := by decide +kernel
theorem d_A_fill_7_17 : decode prog_18_method_103_code 17 = .ok (.goto (-12), 3) := by decide +kernel
theorem d_A_fill_7_20 : decode prog_18_method_103_code 20 = .ok (.return_, 1) := by decide +kernel
def f_A_fill_7_L5 : Nat → MZ_ → Int32 → Int32 → Int32 → Option (MZ_)
  | 0, _, _, _, _ => none
  | N + 1, σ, x1, x2, x3 => if x3 ≤ x2 then some σ
    else gd_ x2 6 (st_ (va_up σ 7 (upd (σ 7) x2.toNatClampNeg x1)) fun σ1 => f_A_fill_7_L5 N σ1 x1 (x2 + 1) x3)
def f_A_fill_7 (σ : MZ_) (a1 : Int32) : Option (MZ_) :=
  f_A_fill_7_L5 100 σ a1 0 6
set_option maxHeartbeats 4000000 in
set_option maxRecDepth 100000 in
theorem c_A_fill_7 (l : Launch) (dC : Nat → ClassId) (dI : Nat → Nat → Nat) (q : Nat → Nat) (cA : Nat → ClassId) (pt : Nat) (σ : MZ_) (a1 : Int32) (u : MZ_) (h : f_A_fill_7 σ a1 = some u) : Met l y_A_fill w_A_fill rm_A_fill (va_Pc [.ref (q 7), .int a1] (PX_ dC dI q cA pt σ)) (QW_ none (fun H => va_P (dC, dI) cls_ (wX q cA u) H) (AX q)) 0 0 (AX q) := by
  refine va_MetF (cc := prog_18_method_103_code) (maxL := 4) (ret := none) (by decide) rfl ?_
  intro p e s m args below meth c s₁ B hml hv
  obtain ⟨rfl, hP, hK, hD, hN, hZ⟩ := hv
  have hx := B.exec
  have hb := B.bytes
  have hr := B.returns
  have hts : ∀ w ∈ AW_, w.before _ s = true := fun w h => atoms_spec (ws := w_A_fill) B.pre w (List.mem_cons_of_mem _ h)
  have hown : s.vm.findClass "java/util/Arrays" = some m.cls := findClass_of_methodNamed B.named
  have hlocks := B.notSynchronized
  have hS : va_S (AX q) s.heap s.heap [] := va_S.rf
  have hl := lv_entry ([.ref (q 7), .int a1]) (n := 4) (Nat.le_of_ble_eq_true rfl)
  rw [lg_entry_eq]
  generalize (lg_sl ([.ref (q 7), .int a1]) ++ List.replicate (4 - (lg_sl ([.ref (q 7), .int a1])).length) Slot.unset).toArray = ls at hl ⊢
  have hl : lv_has ls 4 [(0, .ref (q 7)), (1, .int a1)] := hl
  have L5 : ∀ (N5 : Nat) (σ : MZ_) (x1 : Int32) (x2 : Int32) (x3 : Int32), f_A_fill_7_L5 N5 σ x1 x2 x3 = some u → ∀ (H : Heap) (locs : List Loc) (ls : Array Slot), va_P (dC, dI) cls_ (wX q cA σ) H → va_S (AX q) s.heap H locs → lv_has ls 4 [(0, .ref (q 7)), (1, .int x1), (2, .int x2), (3, .int x3)] → W p l e (headSpec w_A_fill rm_A_fill).room s m ([.ref (q 7), .int a1] : List Value).toArray below meth c H locs 0 0 (MQ below (QW_ none (fun H => va_P (dC, dI) cls_ (wX q cA u) H) (AX q)) ([.ref (q 7), .int a1] : List Value).toArray s 0 0 (AX q)) (F0 m 5 ls []) := by
    intro N5
    induction N5 with
    | zero => intro σ x1 x2 x3 h; cases h
    | succ N5 ih5 =>
      intro σ x1 x2 x3 h H locs ls hP hS hl
      have hD : va_D (AX q) (wX q cA σ) := dd_re (wX_f _ _ _ _) hD
      rw [f_A_fill_7_L5] at h
      refine lv_iload_n hx hb d_A_fill_7_5 rfl (lv_at hl 2 rfl) ?_
      refine lv_iload_n hx hb d_A_fill_7_6 rfl (lv_at hl 3 rfl) ?_
      refine lv_icmp_ge (tgt := 20) hx hb d_A_fill_7_7 rfl (fun hc => ?_) (fun hc => ?_)
      · have h := if_t hc h
        obtain rfl := Option.some.inj h
        exact W.vret hx hb hr (fun t ht hW => ⟨rfl, by rw [ht]; exact hP, hS.F ht⟩) hS.2.2 d_A_fill_7_20
      · have h := if_f hc h
        refine lv_aload_n hx hb d_A_fill_7_10 rfl (lv_at hl 0 rfl) ?_
        refine lv_iload_n hx hb d_A_fill_7_11 rfl (lv_at hl 2 rfl) ?_
        refine lv_iload_n hx hb d_A_fill_7_12 rfl (lv_at hl 1 rfl) ?_
        obtain ⟨hgd, h⟩ := gd_some h
        refine as_X_7 hx hb hK hP hD hS hgd d_A_fill_7_13 (fun H locs hP hS => ?_)
        obtain ⟨σ1, eσ1, h⟩ := st_some h
        rw [← eσ1] at hP
        have hD : va_D (AX q) (wX q cA σ1) := dd_re (wX_f _ _ _ _) hD
        refine lv_iinc (v := x2 + 1) hx hb d_A_fill_7_14 hl (k := 2) rfl rfl (by decide) rfl (fun ls hl => ?_)
        have hl : lv_has ls 4 [(2, .int (x2 + 1)), (0, .ref (q 7)), (1, .int x1), (3, .int x3)] := hl
        refine lv_goto (tgt := 5) hx hb d_A_fill_7_17 rfl ?_
        exact ih5 _ _ _ _ h _ _ _ hP hS (lv_sub hl [1, 2, 0, 3] rfl)
  rw [f_A_fill_7] at h
  refine lv_iconst (v := 0) hx hb d_A_fill_7_0 (by decide) ?_
  refine lv_istore_n hx hb d_A_fill_7_1 rfl hl (by decide) rfl (fun ls hl => ?_)
  have hl : lv_has ls 4 [(2, .int 0), (0, .ref (q 7)), (1, .int a1)] := hl
  refine lv_aload_n hx hb d_A_fill_7_2 rfl (lv_at hl 1 rfl) ?_
  refine an_X_7 hx hb hK hP d_A_fill_7_3 ?_
  refine lv_istore_n hx hb d_A_fill_7_4 rfl hl (by decide) rfl (fun ls hl => ?_)
  have hl : lv_has ls 4 [(3, .int 6), (2, .int 0), (0, .ref (q 7)), (1, .int a1)] := hl
  exact L5 _ _ _ _ _ h _ _ _ hP hS (lv_sub hl [2, 3, 1, 0] rfl)
def y_S_joined : MethodName := ⟨"StagedParsers", "joined", "(III)I"⟩
def w_S_joined : List Cond := .code y_S_joined prog_1_method_16_code 3 (some .int) :: AW_
def rm_S_joined : Room := { frames := 1, cells := 0, slots := 0, locals := 21 }
theorem d_S_joined_0 : decode prog_1_method_16_code 0 = .ok (.iload_n 0, 1) := by decide +kernel
theorem d_S_joined_1 : decode prog_1_method_16_code 1 = .ok (.tableswitch 84 1 7 #[43, 45, 49, 53, 57, 67, 73], 43) := by decide +kernel
theorem d_S_joined_44 : decode prog_1_method_16_code 44 = .ok (.iload_n 2, 1) := by decide +kernel
theorem d_S_joined_45 : decode prog_1_method_16_code 45 = .ok (.ireturn, 1) := by decide +kernel
theorem d_S_joined_46 : decode prog_1_method_16_code 46 = .ok (.iload_n 1, 1) := by decide +kernel
theorem d_S_joined_47 : decode prog_1_method_16_code 47 = .ok (.iload_n 2, 1) := by decide +kernel
theorem d_S_joined_48 : decode prog_1_method_16_code 48 = .ok (.iadd, 1) := by decide +kernel
theorem d_S_joined_49 : decode prog_1_method_16_code 49 = .ok (.ireturn, 1) := by decide +kernel
theorem d_S_joined_50 : decode prog_1_method_16_code 50 = .ok (.iload_n 1, 1) := by decide +kernel
theorem d_S_joined_51 : decode prog_1_method_16_code 51 = .ok (.iload_n 2, 1) := by decide +kernel
theorem d_S_joined_52 : decode prog_1_method_16_code 52 = .ok (.isub, 1) := by decide +kernel
theorem d_S_joined_53 : decode prog_1_method_16_code 53 = .ok (.ireturn, 1) := by decide +kernel
theorem d_S_joined_54 : decode prog_1_method_16_code 54 = .ok (.iload_n 1, 1) := by decide +kernel
theorem d_S_joined_55 : decode prog_1_method_16_code 55 = .ok (.iload_n 2, 1) := by decide +kernel
theorem d_S_joined_56 : decode prog_1_method_16_code 56 = .ok (.imul, 1) := by decide +kernel
theorem d_S_joined_57 : decode prog_1_method_16_code 57 = .ok (.ireturn, 1) := by decide +kernel
theorem d_S_joined_58 : decode prog_1_method_16_code 58 = .ok (.bipush 10, 2) := by decide +kernel
theorem d_S_joined_60 : decode prog_1_method_16_code 60 = .ok (.iload_n 1, 1) := by decide +kernel
theorem d_S_joined_61 : decode prog_1_method_16_code 61 = .ok (.imul, 1) := by decide +kernel
theorem d_S_joined_62 : decode prog_1_method_16_code 62 = .ok (.iload_n 2, 1) := by decide +kernel
theorem d_S_joined_63 : decode prog_1_method_16_code 63 = .ok (.iadd, 1) := by decide +kernel
theorem d_S_joined_64 : decode prog_1_method_16_code 64 = .ok (.bipush 48, 2) := by decide +kernel
theorem d_S_joined_66 : decode prog_1_method_16_code 66 = .ok (.isub, 1) := by decide +kernel
theorem d_S_joined_67 : decode prog_1_method_16_code 67 = .ok (.ireturn, 1) := by decide +kernel
theorem d_S_joined_68 : decode prog_1_method_16_code 68 = .ok (.iload_n 1, 1) := by decide +kernel
theorem d_S_joined_69 : decode prog_1_method_16_code 69 = .ok (.iload_n 2, 1) := by decide +kernel
theorem d_S_joined_70 : decode prog_1_method_16_code 70 = .ok (.invokestatic 184, 3) := by decide +kernel
theorem d_S_joined_73 : decode prog_1_method_16_code 73 = .ok (.ireturn, 1) := by decide +kernel
theorem d_S_joined_74 : decode prog_1_method_16_code 74 = .ok (.iload_n 1, 1) := by decide +kernel
theorem d_S_joined_75 : decode prog_1_method_16_code 75 = .ok (.iload_n 2, 1) := by decide +kernel
theorem d_S_joined_76 : decode prog_1_method_16_code 76 = .ok (.if_icmp .ne 7, 3) := by decide +kernel
theorem d_S_joined_79 : decode prog_1_method_16_code 79 = .ok (.iconst 1, 1) := by decide +kernel
theorem d_S_joined_80 : decode prog_1_method_16_code 80 = .ok (.goto 4, 3) := by decide +kernel
theorem d_S_joined_83 : decode prog_1_method_16_code 83 = .ok (.iconst 0, 1) := by decide +kernel
theorem d_S_joined_84 : decode prog_1_method_16_code 84 = .ok (.ireturn, 1) := by decide +kernel
theorem d_S_joined_85 : decode prog_1_method_16_code 85 = .ok (.iload_n 1, 1) := by decide +kernel
theorem d_S_joined_86 : decode prog_1_method_16_code 86 = .ok (.ireturn, 1) := by decide +kernel
def f_S_joined (a0 : Int32) (a1 : Int32) (a2 : Int32) : Option (Int32) :=
  if a0 = 1 then some a2
  else if a0 = 2 then some (a1 + a2)
  else if a0 = 3 then some (a1 - a2)
  else if a0 = 4 then some (a1 * a2)
  else if a0 = 5 then some (((10 * a1) + a2) - 48)
  else if a0 = 6 then some (if a1 < a2 then a2 else a1)
  else if a0 = 7 then if a1 = a2 then some 1
    else some 0
  else some a1
set_option maxHeartbeats 4000000 in
set_option maxRecDepth 100000 in
theorem c_S_joined (l : Launch) (dC : Nat → ClassId) (dI : Nat → Nat → Nat) (q : Nat → Nat) (cA : Nat → ClassId) (pt : Nat) (σ : MZ_) (a0 : Int32) (a1 : Int32) (a2 : Int32) (u : Int32) (h : f_S_joined a0 a1 a2 = some u) : Met l y_S_joined w_S_joined rm_S_joined (va_Pc [.int a0, .int a1, .int a2] (PX_ dC dI q cA pt σ)) (QcRead u) 0 0 (fun _ => False) := by
  refine Met.ofW (cc := prog_1_method_16_code) (maxL := 3) (ret := (some .int)) (by decide) rfl ?_
  intro p e s m args below meth c s₁ B hml hv
  obtain ⟨rfl, hP, hK, hD, hN, hZ⟩ := hv
  have hx := B.exec
  have hb := B.bytes
  have hr := B.returns
  have hts : ∀ w ∈ AW_, w.before _ s = true := fun w h => atoms_spec (ws := w_S_joined) B.pre w (List.mem_cons_of_mem _ h)
  have hown : s.vm.findClass "StagedParsers" = some m.cls := findClass_of_methodNamed B.named
  have hlocks := B.notSynchronized
  have hS : va_S (AX q) s.heap s.heap [] := va_S.rf
  have hl := lv_entry ([.int a0, .int a1, .int a2]) (n := 3) (Nat.le_of_ble_eq_true rfl)
  rw [lg_entry_eq]
  generalize (lg_sl ([.int a0, .int a1, .int a2]) ++ List.replicate (3 - (lg_sl ([.int a0, .int a1, .int a2])).length) Slot.unset).toArray = ls at hl ⊢
  have hl : lv_has ls 3 [(0, .int a0), (1, .int a1), (2, .int a2)] := hl
  rw [f_S_joined] at h
  refine lv_iload_n hx hb d_S_joined_0 rfl (lv_at hl 0 rfl) ?_
  by_cases hc0 : a0 = 1
  · have h := if_t hc0 h
    refine sw_in (tgt := 44) hx hb d_S_joined_1 hc0 (by decide) (by decide) rfl rfl ?_
    refine lv_iload_n hx hb d_S_joined_44 rfl (lv_at hl 2 rfl) ?_
    obtain rfl := Option.some.inj h
    exact W.iret hx hb hr (fun t ht hW => ⟨rfl, ht⟩) (fun _ h9 => nomatch h9) d_S_joined_45
  have h := if_f hc0 h
  by_cases hc1 : a0 = 2
  · have h := if_t hc1 h
    refine sw_in (tgt := 46) hx hb d_S_joined_1 hc1 (by decide) (by decide) rfl rfl ?_
    refine lv_iload_n hx hb d_S_joined_46 rfl (lv_at hl 1 rfl) ?_
    refine lv_iload_n hx hb d_S_joined_47 rfl (lv_at hl 2 rfl) ?_
    refine lv_iadd hx hb d_S_joined_48 ?_
    obtain rfl := Option.some.inj h
    exact W.iret hx hb hr (fun t ht hW => ⟨rfl, ht⟩) (fun _ h9 => nomatch h9) d_S_joined_49
  have h := if_f hc1 h
  by_cases hc2 : a0 = 3
  · have h := if_t hc2 h
    refine sw_in (tgt := 50) hx hb d_S_joined_1 hc2 (by decide) (by decide) rfl rfl ?_
    refine lv_iload_n hx hb d_S_joined_50 rfl (lv_at hl 1 rfl) ?_
    refine lv_iload_n hx hb d_S_joined_51 rfl (lv_at hl 2 rfl) ?_
    refine lv_isub hx hb d_S_joined_52 ?_
    obtain rfl := Option.some.inj h
    exact W.iret hx hb hr (fun t ht hW => ⟨rfl, ht⟩) (fun _ h9 => nomatch h9) d_S_joined_53
  have h := if_f hc2 h
  by_cases hc3 : a0 = 4
  · have h := if_t hc3 h
    refine sw_in (tgt := 54) hx hb d_S_joined_1 hc3 (by decide) (by decide) rfl rfl ?_
    refine lv_iload_n hx hb d_S_joined_54 rfl (lv_at hl 1 rfl) ?_
    refine lv_iload_n hx hb d_S_joined_55 rfl (lv_at hl 2 rfl) ?_
    refine lv_imul hx hb d_S_joined_56 ?_
    obtain rfl := Option.some.inj h
    exact W.iret hx hb hr (fun t ht hW => ⟨rfl, ht⟩) (fun _ h9 => nomatch h9) d_S_joined_57
  have h := if_f hc3 h
  by_cases hc4 : a0 = 5
  · have h := if_t hc4 h
    refine sw_in (tgt := 58) hx hb d_S_joined_1 hc4 (by decide) (by decide) rfl rfl ?_
    refine lv_bipush (v := 10) hx hb d_S_joined_58 (by decide) ?_
    refine lv_iload_n hx hb d_S_joined_60 rfl (lv_at hl 1 rfl) ?_
    refine lv_imul hx hb d_S_joined_61 ?_
    refine lv_iload_n hx hb d_S_joined_62 rfl (lv_at hl 2 rfl) ?_
    refine lv_iadd hx hb d_S_joined_63 ?_
    refine lv_bipush (v := 48) hx hb d_S_joined_64 (by decide) ?_
    refine lv_isub hx hb d_S_joined_66 ?_
    obtain rfl := Option.some.inj h
    exact W.iret hx hb hr (fun t ht hW => ⟨rfl, ht⟩) (fun _ h9 => nomatch h9) d_S_joined_67
  have h := if_f hc4 h
  by_cases hc5 : a0 = 6
  · have h := if_t hc5 h
    refine sw_in (tgt := 68) hx hb d_S_joined_1 hc5 (by decide) (by decide) rfl rfl ?_
    refine lv_iload_n hx hb d_S_joined_68 rfl (lv_at hl 1 rfl) ?_
    refine lv_iload_n hx hb d_S_joined_69 rfl (lv_at hl 2 rfl) ?_
    refine va_mmax hx hb (hml.trans hl.1.symm) hown (hts _ kw_755) (hts _ kw_540) (hts _ kw_15) (hts _ kw_541) (Nat.le_of_ble_eq_true rfl) (Nat.le_of_ble_eq_true rfl) (Nat.zero_le _) (Nat.zero_le _) d_S_joined_70 ?_
    obtain rfl := Option.some.inj h
    exact W.iret hx hb hr (fun t ht hW => ⟨rfl, ht⟩) (fun _ h9 => nomatch h9) d_S_joined_73
  have h := if_f hc5 h
  by_cases hc6 : a0 = 7
  · have h := if_t hc6 h
    refine sw_in (tgt := 74) hx hb d_S_joined_1 hc6 (by decide) (by decide) rfl rfl ?_
    refine lv_iload_n hx hb d_S_joined_74 rfl (lv_at hl 1 rfl) ?_
    refine lv_iload_n hx hb d_S_joined_75 rfl (lv_at hl 2 rfl) ?_
    refine lv_icmp_ne (tgt := 83) hx hb d_S_joined_76 rfl (fun hc => ?_) (fun hc => ?_)
    · have h := if_f hc h
      refine lv_iconst (v := 0) hx hb d_S_joined_83 (by decide) ?_
      obtain rfl := Option.some.inj h
      exact W.iret hx hb hr (fun t ht hW => ⟨rfl, ht⟩) (fun _ h9 => nomatch h9) d_S_joined_84
    · have h := if_t hc h
      refine lv_iconst (v := 1) hx hb d_S_joined_79 (by decide) ?_
      refine lv_goto (tgt := 84) hx hb d_S_joined_80 rfl ?_
      obtain rfl := Option.some.inj h
      exact W.iret hx hb hr (fun t ht hW => ⟨rfl, ht⟩) (fun _ h9 => nomatch h9) d_S_joined_84
  have h := if_f hc6 h
  refine lv_tableOut (tgt := 85) hx hb d_S_joined_1 (by have q0 := lv_neT hc0 (a := 1) (by decide); have q1 := lv_neT hc1 (a := 2) (by decide); have q2 := lv_neT hc2 (a := 3) (by decide); have q3 := lv_neT hc3 (a := 4) (by decide); have q4 := lv_neT hc4 (a := 5) (by decide); have q5 := lv_neT hc5 (a := 6) (by decide); have q6 := lv_neT hc6 (a := 7) (by decide); omega) rfl ?_
  refine lv_iload_n hx hb d_S_joined_85 rfl (lv_at hl 1 rfl) ?_
  obtain rfl := Option.some.inj h
  exact W.iret hx hb hr (fun t ht hW => ⟨rfl, ht⟩) (fun _ h9 => nomatch h9) d_S_joined_86
def y_S_wayOfSign : MethodName := ⟨"StagedParsers", "wayOfSign", "(I)I"⟩
def w_S_wayOfSign : List Cond := .code y_S_wayOfSign prog_1_method_17_code 1 (some .int) :: AW_
def rm_S_wayOfSign : Room := { frames := 0, cells := 0, slots := 0, locals := 0 }
theorem d_S_wayOfSign_0 : decode prog_1_method_17_code 0 = .ok (.iload_n 0, 1) := by decide +kernel
theorem d_S_wayOfSign_1 : decode prog_1_method_17_code 1 = .ok (.tableswitch 37 42 45 #[35, 31, 37, 33], 31) := by decide +kernel
theorem d_S_wayOfSign_32 : decode prog_1_method_17_code 32 = .ok (.iconst 2, 1) := by decide +kernel
theorem d_S_wayOfSign_33 : decode prog_1_method_17_code 33 = .ok (.ireturn, 1) := by decide +kernel
theorem d_S_wayOfSign_34 : decode prog_1_method_17_code 34 = .ok (.iconst 3, 1) := by decide +kernel
theorem d_S_wayOfSign_35 : decode prog_1_method_17_code 35 = .ok (.ireturn, 1) := by decide +kernel
theorem d_S_wayOfSign_36 : decode prog_1_method_17_code 36 = .ok (.iconst 4, 1) := by decide +kernel
theorem d_S_wayOfSign_37 : decode prog_1_method_17_code 37 = .ok (.ireturn, 1) := by decide +kernel
theorem d_S_wayOfSign_38 : decode prog_1_method_17_code 38 = .ok (.iconst 0, 1) := by decide +kernel
theorem d_S_wayOfSign_39 : decode prog_1_method_17_code 39 = .ok (.ireturn, 1) := by decide +kernel
def f_S_wayOfSign (a0 : Int32) : Option (Int32) :=
  if a0 = 42 then some 4
  else if a0 = 43 then some 2
  else if a0 = 44 then some 0
  else if a0 = 45 then some 3
  else some 0
set_option maxHeartbeats 4000000 in
set_option maxRecDepth 100000 in
theorem c_S_wayOfSign (l : Launch) (dC : Nat → ClassId) (dI : Nat → Nat → Nat) (q : Nat → Nat) (cA : Nat → ClassId) (pt : Nat) (σ : MZ_) (a0 : Int32) (u : Int32) (h : f_S_wayOfSign a0 = some u) : Met l y_S_wayOfSign w_S_wayOfSign rm_S_wayOfSign (va_Pc [.int a0] (PX_ dC dI q cA pt σ)) (QcRead u) 0 0 (fun _ => False) := by
  refine Met.ofW (cc := prog_1_method_17_code) (maxL := 1) (ret := (some .int)) (by decide) rfl ?_
  intro p e s m args below meth c s₁ B hml hv
  obtain ⟨rfl, hP, hK, hD, hN, hZ⟩ := hv
  have hx := B.exec
  have hb := B.bytes
  have hr := B.returns
  have hts : ∀ w ∈ AW_, w.before _ s = true := fun w h => atoms_spec (ws := w_S_wayOfSign) B.pre w (List.mem_cons_of_mem _ h)
  have hown : s.vm.findClass "StagedParsers" = some m.cls := findClass_of_methodNamed B.named
  have hlocks := B.notSynchronized
  have hS : va_S (AX q) s.heap s.heap [] := va_S.rf
  have hl := lv_entry ([.int a0]) (n := 1) (Nat.le_of_ble_eq_true rfl)
  rw [lg_entry_eq]
  generalize (lg_sl ([.int a0]) ++ List.replicate (1 - (lg_sl ([.int a0])).length) Slot.unset).toArray = ls at hl ⊢
  have hl : lv_has ls 1 [(0, .int a0)] := hl
  rw [f_S_wayOfSign] at h
  refine lv_iload_n hx hb d_S_wayOfSign_0 rfl (lv_at hl 0 rfl) ?_
  by_cases hc0 : a0 = 42
  · have h := if_t hc0 h
    refine sw_in (tgt := 36) hx hb d_S_wayOfSign_1 hc0 (by decide) (by decide) rfl rfl ?_
    refine lv_iconst (v := 4) hx hb d_S_wayOfSign_36 (by decide) ?_
    obtain rfl := Option.some.inj h
    exact W.iret hx hb hr (fun t ht hW => ⟨rfl, ht⟩) (fun _ h9 => nomatch h9) d_S_wayOfSign_37
  have h := if_f hc0 h
  by_cases hc1 : a0 = 43
  · have h := if_t hc1 h
    refine sw_in (tgt := 32) hx hb d_S_wayOfSign_1 hc1 (by decide) (by decide) rfl rfl ?_
    refine lv_iconst (v := 2) hx hb d_S_wayOfSign_32 (by decide) ?_
    obtain rfl := Option.some.inj h
    exact W.iret hx hb hr (fun t ht hW => ⟨rfl, ht⟩) (fun _ h9 => nomatch h9) d_S_wayOfSign_33
  have h := if_f hc1 h
  by_cases hc2 : a0 = 44
  · have h := if_t hc2 h
    refine sw_in (tgt := 38) hx hb d_S_wayOfSign_1 hc2 (by decide) (by decide) rfl rfl ?_
    refine lv_iconst (v := 0) hx hb d_S_wayOfSign_38 (by decide) ?_
    obtain rfl := Option.some.inj h
    exact W.iret hx hb hr (fun t ht hW => ⟨rfl, ht⟩) (fun _ h9 => nomatch h9) d_S_wayOfSign_39
  have h := if_f hc2 h
  by_cases hc3 : a0 = 45
  · have h := if_t hc3 h
    refine sw_in (tgt := 34) hx hb d_S_wayOfSign_1 hc3 (by decide) (by decide) rfl rfl ?_
    refine lv_iconst (v := 3) hx hb d_S_wayOfSign_34 (by decide) ?_
    obtain rfl := Option.some.inj h
    exact W.iret hx hb hr (fun t ht hW => ⟨rfl, ht⟩) (fun _ h9 => nomatch h9) d_S_wayOfSign_35
  have h := if_f hc3 h
  refine lv_tableOut (tgt := 38) hx hb d_S_wayOfSign_1 (by have q0 := lv_neT hc0 (a := 42) (by decide); have q1 := lv_neT hc1 (a := 43) (by decide); have q2 := lv_neT hc2 (a := 44) (by decide); have q3 := lv_neT hc3 (a := 45) (by decide); omega) rfl ?_
  refine lv_iconst (v := 0) hx hb d_S_wayOfSign_38 (by decide) ?_
  obtain rfl := Option.some.inj h
  exact W.iret hx hb hr (fun t ht hW => ⟨rfl, ht⟩) (fun _ h9 => nomatch h9) d_S_wayOfSign_39
def y_M_hasRun : MethodName := ⟨"StagedParsers$Machine", "hasRun", "()Z"⟩
def w_M_hasRun : List Cond := .code y_M_hasRun prog_5_method_2_code 1 (some .boolean) :: AW_
def rm_M_hasRun : Room := { frames := 0, cells := 0, slots := 0, locals := 0 }
theorem d_M_hasRun_0 : decode prog_5_method_2_code 0 = .ok (.aload_n 0, 1) := by decide +kernel
theorem d_M_hasRun_1 : decode prog_5_method_2_code 1 = .ok (.getfield 33, 3) := by decide +kernel
theorem d_M_hasRun_4 : decode prog_5_method_2_code 4 = .ok (.ireturn, 1) := by decide +kernel
section RW
variable {p : Program} {l : Launch} {e : Env} {R : Room} {s : State} {m : MethodId} {args : Array Value} {below : List Frame} {meth : Method} {c : Code} {H : Heap} {locs : List Loc} {cells slots : Nat} {Q : State → Prop}
variable {cc : ByteArray} {pc : Nat} {ls : Array Slot} {rest : List Value} {dC : Nat → ClassId} {dI : Nat → Nat → Nat} {q : Nat → Nat} {cA : Nat → ClassId} {σ : MZ_} {H0 : Heap} {A : Nat → Prop}

theorem gf_M_33 (hx : p.tables.exec = Jvm.exec) (hb : c.code = cc) (hts : ∀ w ∈ AW_, w.before args s = true) (hown : s.vm.findClass "StagedParsers$Machine" = some m.cls) (hK : va_K (dC, dI) cls_ (tyX cA) s) (hP : va_P (dC, dI) cls_ (wX q cA σ) H) (hdg : decode cc pc = .ok (.getfield 33, 3)) (kk : W p l e R s m args below meth c H locs cells slots Q (F0 m (pc + 3) ls (.int (σ 42 0) :: rest))) : W p l e R s m args below meth c H locs cells slots Q (F0 m pc ls (.ref (q 22) :: rest)) :=
  va_get (D := (dC, dI)) (cl := cls_) (ci := 5) (v := .int (σ 42 0)) (ws := wX q cA σ) (tys := tyX cA) (C := Rz_M) (T := Tz_M) (N := 14) hx hb hts uz_M hown hK hP 22 rfl rfl 13 (by decide) (hts _ kw_164) (fun _ h9 => h9) rfl hdg kk
end RW
def f_M_hasRun (σ : MZ_) : Option (Int32) :=
  bo_ (σ 42 0) (some (σ 42 0))
set_option maxHeartbeats 4000000 in
set_option maxRecDepth 100000 in
theorem c_M_hasRun (l : Launch) (dC : Nat → ClassId) (dI : Nat → Nat → Nat) (q : Nat → Nat) (cA : Nat → ClassId) (pt : Nat) (σ : MZ_) (u : Int32) (h : f_M_hasRun σ = some u) : Met l y_M_hasRun w_M_hasRun rm_M_hasRun (va_Pc [.ref (q 22)] (PX_ dC dI q cA pt σ)) (QcRead u) 0 0 (fun _ => False) := by
  refine Met.ofW (cc := prog_5_method_2_code) (maxL := 1) (ret := (some .boolean)) (by decide) rfl ?_
  intro p e s m args below meth c s₁ B hml hv
  obtain ⟨rfl, hP, hK, hD, hN, hZ⟩ := hv
  have hx := B.exec
  have hb := B.bytes
  have hr := B.returns
  have hts : ∀ w ∈ AW_, w.before _ s = true := fun w h => atoms_spec (ws := w_M_hasRun) B.pre w (List.mem_cons_of_mem _ h)
  have hown : s.vm.findClass "StagedParsers$Machine" = some m.cls := findClass_of_methodNamed B.named
  have hlocks := B.notSynchronized
  have hS : va_S (AX q) s.heap s.heap [] := va_S.rf
  have hl := lv_entry ([.ref (q 22)]) (n := 1) (Nat.le_of_ble_eq_true rfl)
  rw [lg_entry_eq]
  generalize (lg_sl ([.ref (q 22)]) ++ List.replicate (1 - (lg_sl ([.ref (q 22)])).length) Slot.unset).toArray = ls at hl ⊢
  have hl : lv_has ls 1 [(0, .ref (q 22))] := hl
  rw [f_M_hasRun] at h
  refine lv_aload_n hx hb d_M_hasRun_0 rfl (lv_at hl 0 rfl) ?_
  refine gf_M_33 hx hb hts hown hK hP d_M_hasRun_1 ?_
  obtain ⟨hbo, h⟩ := bo_some h
  obtain rfl := Option.some.inj h
  exact W.zret hx hb hr (bo_nar hbo) (fun t ht hW => ⟨rfl, ht⟩) (fun _ h9 => nomatch h9) d_M_hasRun_4
def y_M_hasSucceeded : MethodName := ⟨"StagedParsers$Machine", "hasSucceeded", "()Z"⟩
def w_M_hasSucceeded : List Cond := .code y_M_hasSucceeded prog_5_method_3_code 1 (some .boolean) :: AW_
def rm_M_hasSucceeded : Room := { frames := 0, cells := 0, slots := 0, locals := 0 }
theorem d_M_hasSucceeded_0 : decode prog_5_method_3_code 0 = .ok (.aload_n 0, 1) := by decide +kernel
theorem d_M_hasSucceeded_1 : decode prog_5_method_3_code 1 = .ok (.getfield 37, 3) := by decide +kernel
theorem d_M_hasSucceeded_4 : decode prog_5_method_3_code 4 = .ok (.iconst 1, 1) := by decide +kernel
theorem d_M_hasSucceeded_5 : decode prog_5_method_3_code 5 = .ok (.if_icmp .ne 7, 3) := by decide +kernel
theorem d_M_hasSucceeded_8 : decode prog_5_method_3_code 8 = .ok (.iconst 1, 1) := by decide +kernel
theorem d_M_hasSucceeded_9 : decode prog_5_method_3_code 9 = .ok (.goto 4, 3) := by decide +kernel
theorem d_M_hasSucceeded_12 : decode prog_5_method_3_code 12 = .ok (.iconst 0, 1) := by decide +kernel
theorem d_M_hasSucceeded_13 : decode prog_5_method_3_code 13 = .ok (.ireturn, 1) := by decide +kernel
section RW
variable {p : Program} {l : Launch} {e : Env} {R : Room} {s : State} {m : MethodId} {args : Array Value} {below : List Frame} {meth : Method} {c : Code} {H : Heap} {locs : List Loc} {cells slots : Nat} {Q : State → Prop}
variable {cc : ByteArray} {pc : Nat} {ls : Array Slot} {rest : List Value} {dC : Nat → ClassId} {dI : Nat → Nat → Nat} {q : Nat → Nat} {cA : Nat → ClassId} {σ : MZ_} {H0 : Heap} {A : Nat → Prop}

theorem gf_M_37 (hx : p.tables.exec = Jvm.exec) (hb : c.code = cc) (hts : ∀ w ∈ AW_, w.before args s = true) (hown : s.vm.findClass "StagedParsers$Machine" = some m.cls) (hK : va_K (dC, dI) cls_ (tyX cA) s) (hP : va_P (dC, dI) cls_ (wX q cA σ) H) (hdg : decode cc pc = .ok (.getfield 37, 3)) (kk : W p l e R s m args below meth c H locs cells slots Q (F0 m (pc + 3) ls (.int (σ 35 0) :: rest))) : W p l e R s m args below meth c H locs cells slots Q (F0 m pc ls (.ref (q 22) :: rest)) :=
  va_get (D := (dC, dI)) (cl := cls_) (ci := 5) (v := .int (σ 35 0)) (ws := wX q cA σ) (tys := tyX cA) (C := Rz_M) (T := Tz_M) (N := 14) hx hb hts uz_M hown hK hP 22 rfl rfl 6 (by decide) (hts _ kw_157) (fun _ h9 => h9) rfl hdg kk
end RW
def f_M_hasSucceeded (σ : MZ_) : Option (Int32) :=
  if (σ 35 0) = 1 then some 1
  else some 0
set_option maxHeartbeats 4000000 in
set_option maxRecDepth 100000 in
theorem c_M_hasSucceeded (l : Launch) (dC : Nat → ClassId) (dI : Nat → Nat → Nat) (q : Nat → Nat) (cA : Nat → ClassId) (pt : Nat) (σ : MZ_) (u : Int32) (h : f_M_hasSucceeded σ = some u) : Met l y_M_hasSucceeded w_M_hasSucceeded rm_M_hasSucceeded (va_Pc [.ref (q 22)] (PX_ dC dI q cA pt σ)) (QcRead u) 0 0 (fun _ => False) := by
  refine Met.ofW (cc := prog_5_method_3_code) (maxL := 1) (ret := (some .boolean)) (by decide) rfl ?_
  intro p e s m args below meth c s₁ B hml hv
  obtain ⟨rfl, hP, hK, hD, hN, hZ⟩ := hv
  have hx := B.exec
  have hb := B.bytes
  have hr := B.returns
  have hts : ∀ w ∈ AW_, w.before _ s = true := fun w h => atoms_spec (ws := w_M_hasSucceeded) B.pre w (List.mem_cons_of_mem _ h)
  have hown : s.vm.findClass "StagedParsers$Machine" = some m.cls := findClass_of_methodNamed B.named
  have hlocks := B.notSynchronized
  have hS : va_S (AX q) s.heap s.heap [] := va_S.rf
  have hl := lv_entry ([.ref (q 22)]) (n := 1) (Nat.le_of_ble_eq_true rfl)
  rw [lg_entry_eq]
  generalize (lg_sl ([.ref (q 22)]) ++ List.replicate (1 - (lg_sl ([.ref (q 22)])).length) Slot.unset).toArray = ls at hl ⊢
  have hl : lv_has ls 1 [(0, .ref (q 22))] := hl
  rw [f_M_hasSucceeded] at h
  refine lv_aload_n hx hb d_M_hasSucceeded_0 rfl (lv_at hl 0 rfl) ?_
  refine gf_M_37 hx hb hts hown hK hP d_M_hasSucceeded_1 ?_
  refine lv_iconst (v := 1) hx hb d_M_hasSucceeded_4 (by decide) ?_
  refine lv_icmp_ne (tgt := 12) hx hb d_M_hasSucceeded_5 rfl (fun hc => ?_) (fun hc => ?_)
  · have h := if_f hc h
    refine lv_iconst (v := 0) hx hb d_M_hasSucceeded_12 (by decide) ?_
    obtain rfl := Option.some.inj h
    exact W.zret hx hb hr rfl (fun t ht hW => ⟨rfl, ht⟩) (fun _ h9 => nomatch h9) d_M_hasSucceeded_13
  · have h := if_t hc h
    refine lv_iconst (v := 1) hx hb d_M_hasSucceeded_8 (by decide) ?_
    refine lv_goto (tgt := 13) hx hb d_M_hasSucceeded_9 rfl ?_
    obtain rfl := Option.some.inj h
    exact W.zret hx hb hr rfl (fun t ht hW => ⟨rfl, ht⟩) (fun _ h9 => nomatch h9) d_M_hasSucceeded_13
def y_M_isTired : MethodName := ⟨"StagedParsers$Machine", "isTired", "()Z"⟩
def w_M_isTired : List Cond := .code y_M_isTired prog_5_method_4_code 1 (some .boolean) :: AW_
def rm_M_isTired : Room := { frames := 0, cells := 0, slots := 0, locals := 0 }
theorem d_M_isTired_0 : decode prog_5_method_4_code 0 = .ok (.aload_n 0, 1) := by decide +kernel
theorem d_M_isTired_1 : decode prog_5_method_4_code 1 = .ok (.getfield 37, 3) := by decide +kernel
theorem d_M_isTired_4 : decode prog_5_method_4_code 4 = .ok (.iconst 3, 1) := by decide +kernel
theorem d_M_isTired_5 : decode prog_5_method_4_code 5 = .ok (.if_icmp .ne 7, 3) := by decide +kernel
theorem d_M_isTired_8 : decode prog_5_method_4_code 8 = .ok (.iconst 1, 1) := by decide +kernel
theorem d_M_isTired_9 : decode prog_5_method_4_code 9 = .ok (.goto 4, 3) := by decide +kernel
theorem d_M_isTired_12 : decode prog_5_method_4_code 12 = .ok (.iconst 0, 1) := by decide +kernel
theorem d_M_isTired_13 : decode prog_5_method_4_code 13 = .ok (.ireturn, 1) := by decide +kernel
def f_M_isTired (σ : MZ_) : Option (Int32) :=
  if (σ 35 0) = 3 then some 1
  else some 0
set_option maxHeartbeats 4000000 in
set_option maxRecDepth 100000 in
theorem c_M_isTired (l : Launch) (dC : Nat → ClassId) (dI : Nat → Nat → Nat) (q : Nat → Nat) (cA : Nat → ClassId) (pt : Nat) (σ : MZ_) (u : Int32) (h : f_M_isTired σ = some u) : Met l y_M_isTired w_M_isTired rm_M_isTired (va_Pc [.ref (q 22)] (PX_ dC dI q cA pt σ)) (QcRead u) 0 0 (fun _ => False) := by
  refine Met.ofW (cc := prog_5_method_4_code) (maxL := 1) (ret := (some .boolean)) (by decide) rfl ?_
  intro p e s m args below meth c s₁ B hml hv
  obtain ⟨rfl, hP, hK, hD, hN, hZ⟩ := hv
  have hx := B.exec
  have hb := B.bytes
  have hr := B.returns
  have hts : ∀ w ∈ AW_, w.before _ s = true := fun w h => atoms_spec (ws := w_M_isTired) B.pre w (List.mem_cons_of_mem _ h)
  have hown : s.vm.findClass "StagedParsers$Machine" = some m.cls := findClass_of_methodNamed B.named
  have hlocks := B.notSynchronized
  have hS : va_S (AX q) s.heap s.heap [] := va_S.rf
  have hl := lv_entry ([.ref (q 22)]) (n := 1) (Nat.le_of_ble_eq_true rfl)
  rw [lg_entry_eq]
  generalize (lg_sl ([.ref (q 22)]) ++ List.replicate (1 - (lg_sl ([.ref (q 22)])).length) Slot.unset).toArray = ls at hl ⊢
  have hl : lv_has ls 1 [(0, .ref (q 22))] := hl
  rw [f_M_isTired] at h
  refine lv_aload_n hx hb d_M_isTired_0 rfl (lv_at hl 0 rfl) ?_
  refine gf_M_37 hx hb hts hown hK hP d_M_isTired_1 ?_
  refine lv_iconst (v := 3) hx hb d_M_isTired_4 (by decide) ?_
  refine lv_icmp_ne (tgt := 12) hx hb d_M_isTired_5 rfl (fun hc => ?_) (fun hc => ?_)
  · have h := if_f hc h
    refine lv_iconst (v := 0) hx hb d_M_isTired_12 (by decide) ?_
    obtain rfl := Option.some.inj h
    exact W.zret hx hb hr rfl (fun t ht hW => ⟨rfl, ht⟩) (fun _ h9 => nomatch h9) d_M_isTired_13
  · have h := if_t hc h
    refine lv_iconst (v := 1) hx hb d_M_isTired_8 (by decide) ?_
    refine lv_goto (tgt := 13) hx hb d_M_isTired_9 rfl ?_
    obtain rfl := Option.some.inj h
    exact W.zret hx hb hr rfl (fun t ht hW => ⟨rfl, ht⟩) (fun _ h9 => nomatch h9) d_M_isTired_13
def y_M_place : MethodName := ⟨"StagedParsers$Machine", "place", "()I"⟩
def w_M_place : List Cond := .code y_M_place prog_5_method_5_code 1 (some .int) :: AW_
def rm_M_place : Room := { frames := 0, cells := 0, slots := 0, locals := 0 }
theorem d_M_place_0 : decode prog_5_method_5_code 0 = .ok (.aload_n 0, 1) := by decide +kernel
theorem d_M_place_1 : decode prog_5_method_5_code 1 = .ok (.getfield 41, 3) := by decide +kernel
theorem d_M_place_4 : decode prog_5_method_5_code 4 = .ok (.ireturn, 1) := by decide +kernel
section RW
variable {p : Program} {l : Launch} {e : Env} {R : Room} {s : State} {m : MethodId} {args : Array Value} {below : List Frame} {meth : Method} {c : Code} {H : Heap} {locs : List Loc} {cells slots : Nat} {Q : State → Prop}
variable {cc : ByteArray} {pc : Nat} {ls : Array Slot} {rest : List Value} {dC : Nat → ClassId} {dI : Nat → Nat → Nat} {q : Nat → Nat} {cA : Nat → ClassId} {σ : MZ_} {H0 : Heap} {A : Nat → Prop}

theorem gf_M_41 (hx : p.tables.exec = Jvm.exec) (hb : c.code = cc) (hts : ∀ w ∈ AW_, w.before args s = true) (hown : s.vm.findClass "StagedParsers$Machine" = some m.cls) (hK : va_K (dC, dI) cls_ (tyX cA) s) (hP : va_P (dC, dI) cls_ (wX q cA σ) H) (hdg : decode cc pc = .ok (.getfield 41, 3)) (kk : W p l e R s m args below meth c H locs cells slots Q (F0 m (pc + 3) ls (.int (σ 37 0) :: rest))) : W p l e R s m args below meth c H locs cells slots Q (F0 m pc ls (.ref (q 22) :: rest)) :=
  va_get (D := (dC, dI)) (cl := cls_) (ci := 5) (v := .int (σ 37 0)) (ws := wX q cA σ) (tys := tyX cA) (C := Rz_M) (T := Tz_M) (N := 14) hx hb hts uz_M hown hK hP 22 rfl rfl 8 (by decide) (hts _ kw_159) (fun _ h9 => h9) rfl hdg kk
end RW
def f_M_place (σ : MZ_) : Option (Int32) :=
  some (σ 37 0)
set_option maxHeartbeats 4000000 in
set_option maxRecDepth 100000 in
theorem c_M_place (l : Launch) (dC : Nat → ClassId) (dI : Nat → Nat → Nat) (q : Nat → Nat) (cA : Nat → ClassId) (pt : Nat) (σ : MZ_) (u : Int32) (h : f_M_place σ = some u) : Met l y_M_place w_M_place rm_M_place (va_Pc [.ref (q 22)] (PX_ dC dI q cA pt σ)) (QcRead u) 0 0 (fun _ => False) := by
  refine Met.ofW (cc := prog_5_method_5_code) (maxL := 1) (ret := (some .int)) (by decide) rfl ?_
  intro p e s m args below meth c s₁ B hml hv
  obtain ⟨rfl, hP, hK, hD, hN, hZ⟩ := hv
  have hx := B.exec
  have hb := B.bytes
  have hr := B.returns
  have hts : ∀ w ∈ AW_, w.before _ s = true := fun w h => atoms_spec (ws := w_M_place) B.pre w (List.mem_cons_of_mem _ h)
  have hown : s.vm.findClass "StagedParsers$Machine" = some m.cls := findClass_of_methodNamed B.named
  have hlocks := B.notSynchronized
  have hS : va_S (AX q) s.heap s.heap [] := va_S.rf
  have hl := lv_entry ([.ref (q 22)]) (n := 1) (Nat.le_of_ble_eq_true rfl)
  rw [lg_entry_eq]
  generalize (lg_sl ([.ref (q 22)]) ++ List.replicate (1 - (lg_sl ([.ref (q 22)])).length) Slot.unset).toArray = ls at hl ⊢
  have hl : lv_has ls 1 [(0, .ref (q 22))] := hl
  rw [f_M_place] at h
  refine lv_aload_n hx hb d_M_place_0 rfl (lv_at hl 0 rfl) ?_
  refine gf_M_41 hx hb hts hown hK hP d_M_place_1 ?_
  obtain rfl := Option.some.inj h
  exact W.iret hx hb hr (fun t ht hW => ⟨rfl, ht⟩) (fun _ h9 => nomatch h9) d_M_place_4
def y_M_looks : MethodName := ⟨"StagedParsers$Machine", "looks", "()I"⟩
def w_M_looks : List Cond := .code y_M_looks prog_5_method_6_code 1 (some .int) :: AW_
def rm_M_looks : Room := { frames := 0, cells := 0, slots := 0, locals := 0 }
theorem d_M_looks_0 : decode prog_5_method_6_code 0 = .ok (.aload_n 0, 1) := by decide +kernel
theorem d_M_looks_1 : decode prog_5_method_6_code 1 = .ok (.getfield 44, 3) := by decide +kernel
theorem d_M_looks_4 : decode prog_5_method_6_code 4 = .ok (.ireturn, 1) := by decide +kernel
section RW
variable {p : Program} {l : Launch} {e : Env} {R : Room} {s : State} {m : MethodId} {args : Array Value} {below : List Frame} {meth : Method} {c : Code} {H : Heap} {locs : List Loc} {cells slots : Nat} {Q : State → Prop}
variable {cc : ByteArray} {pc : Nat} {ls : Array Slot} {rest : List Value} {dC : Nat → ClassId} {dI : Nat → Nat → Nat} {q : Nat → Nat} {cA : Nat → ClassId} {σ : MZ_} {H0 : Heap} {A : Nat → Prop}

theorem gf_M_44 (hx : p.tables.exec = Jvm.exec) (hb : c.code = cc) (hts : ∀ w ∈ AW_, w.before args s = true) (hown : s.vm.findClass "StagedParsers$Machine" = some m.cls) (hK : va_K (dC, dI) cls_ (tyX cA) s) (hP : va_P (dC, dI) cls_ (wX q cA σ) H) (hdg : decode cc pc = .ok (.getfield 44, 3)) (kk : W p l e R s m args below meth c H locs cells slots Q (F0 m (pc + 3) ls (.int (σ 38 0) :: rest))) : W p l e R s m args below meth c H locs cells slots Q (F0 m pc ls (.ref (q 22) :: rest)) :=
  va_get (D := (dC, dI)) (cl := cls_) (ci := 5) (v := .int (σ 38 0)) (ws := wX q cA σ) (tys := tyX cA) (C := Rz_M) (T := Tz_M) (N := 14) hx hb hts uz_M hown hK hP 22 rfl rfl 9 (by decide) (hts _ kw_160) (fun _ h9 => h9) rfl hdg kk
end RW
def f_M_looks (σ : MZ_) : Option (Int32) :=
  some (σ 38 0)
set_option maxHeartbeats 4000000 in
set_option maxRecDepth 100000 in
theorem c_M_looks (l : Launch) (dC : Nat → ClassId) (dI : Nat → Nat → Nat) (q : Nat → Nat) (cA : Nat → ClassId) (pt : Nat) (σ : MZ_) (u : Int32) (h : f_M_looks σ = some u) : Met l y_M_looks w_M_looks rm_M_looks (va_Pc [.ref (q 22)] (PX_ dC dI q cA pt σ)) (QcRead u) 0 0 (fun _ => False) := by
  refine Met.ofW (cc := prog_5_method_6_code) (maxL := 1) (ret := (some .int)) (by decide) rfl ?_
  intro p e s m args below meth c s₁ B hml hv
  obtain ⟨rfl, hP, hK, hD, hN, hZ⟩ := hv
  have hx := B.exec
  have hb := B.bytes
  have hr := B.returns
  have hts : ∀ w ∈ AW_, w.before _ s = true := fun w h => atoms_spec (ws := w_M_looks) B.pre w (List.mem_cons_of_mem _ h)
  have hown : s.vm.findClass "StagedParsers$Machine" = some m.cls := findClass_of_methodNamed B.named
  have hlocks := B.notSynchronized
  have hS : va_S (AX q) s.heap s.heap [] := va_S.rf
  have hl := lv_entry ([.ref (q 22)]) (n := 1) (Nat.le_of_ble_eq_true rfl)
  rw [lg_entry_eq]
  generalize (lg_sl ([.ref (q 22)]) ++ List.replicate (1 - (lg_sl ([.ref (q 22)])).length) Slot.unset).toArray = ls at hl ⊢
  have hl : lv_has ls 1 [(0, .ref (q 22))] := hl
  rw [f_M_looks] at h
  refine lv_aload_n hx hb d_M_looks_0 rfl (lv_at hl 0 rfl) ?_
  refine gf_M_44 hx hb hts hown hK hP d_M_looks_1 ?_
  obtain rfl := Option.some.inj h
  exact W.iret hx hb hr (fun t ht hW => ⟨rfl, ht⟩) (fun _ h9 => nomatch h9) d_M_looks_4
def y_M_far : MethodName := ⟨"StagedParsers$Machine", "far", "()I"⟩
def w_M_far : List Cond := .code y_M_far prog_5_method_7_code 1 (some .int) :: AW_
def rm_M_far : Room := { frames := 0, cells := 0, slots := 0, locals := 0 }
theorem d_M_far_0 : decode prog_5_method_7_code 0 = .ok (.aload_n 0, 1) := by decide +kernel
theorem d_M_far_1 : decode prog_5_method_7_code 1 = .ok (.getfield 47, 3) := by decide +kernel
theorem d_M_far_4 : decode prog_5_method_7_code 4 = .ok (.ireturn, 1) := by decide +kernel
section RW
variable {p : Program} {l : Launch} {e : Env} {R : Room} {s : State} {m : MethodId} {args : Array Value} {below : List Frame} {meth : Method} {c : Code} {H : Heap} {locs : List Loc} {cells slots : Nat} {Q : State → Prop}
variable {cc : ByteArray} {pc : Nat} {ls : Array Slot} {rest : List Value} {dC : Nat → ClassId} {dI : Nat → Nat → Nat} {q : Nat → Nat} {cA : Nat → ClassId} {σ : MZ_} {H0 : Heap} {A : Nat → Prop}

theorem gf_M_47 (hx : p.tables.exec = Jvm.exec) (hb : c.code = cc) (hts : ∀ w ∈ AW_, w.before args s = true) (hown : s.vm.findClass "StagedParsers$Machine" = some m.cls) (hK : va_K (dC, dI) cls_ (tyX cA) s) (hP : va_P (dC, dI) cls_ (wX q cA σ) H) (hdg : decode cc pc = .ok (.getfield 47, 3)) (kk : W p l e R s m args below meth c H locs cells slots Q (F0 m (pc + 3) ls (.int (σ 39 0) :: rest))) : W p l e R s m args below meth c H locs cells slots Q (F0 m pc ls (.ref (q 22) :: rest)) :=
  va_get (D := (dC, dI)) (cl := cls_) (ci := 5) (v := .int (σ 39 0)) (ws := wX q cA σ) (tys := tyX cA) (C := Rz_M) (T := Tz_M) (N := 14) hx hb hts uz_M hown hK hP 22 rfl rfl 10 (by decide) (hts _ kw_161) (fun _ h9 => h9) rfl hdg kk
end RW
def f_M_far (σ : MZ_) : Option (Int32) :=
  some (σ 39 0)
set_option maxHeartbeats 4000000 in
set_option maxRecDepth 100000 in
theorem c_M_far (l : Launch) (dC : Nat → ClassId) (dI : Nat → Nat → Nat) (q : Nat → Nat) (cA : Nat → ClassId) (pt : Nat) (σ : MZ_) (u : Int32) (h : f_M_far σ = some u) : Met l y_M_far w_M_far rm_M_far (va_Pc [.ref (q 22)] (PX_ dC dI q cA pt σ)) (QcRead u) 0 0 (fun _ => False) := by
  refine Met.ofW (cc := prog_5_method_7_code) (maxL := 1) (ret := (some .int)) (by decide) rfl ?_
  intro p e s m args below meth c s₁ B hml hv
  obtain ⟨rfl, hP, hK, hD, hN, hZ⟩ := hv
  have hx := B.exec
  have hb := B.bytes
  have hr := B.returns
  have hts : ∀ w ∈ AW_, w.before _ s = true := fun w h => atoms_spec (ws := w_M_far) B.pre w (List.mem_cons_of_mem _ h)
  have hown : s.vm.findClass "StagedParsers$Machine" = some m.cls := findClass_of_methodNamed B.named
  have hlocks := B.notSynchronized
  have hS : va_S (AX q) s.heap s.heap [] := va_S.rf
  have hl := lv_entry ([.ref (q 22)]) (n := 1) (Nat.le_of_ble_eq_true rfl)
  rw [lg_entry_eq]
  generalize (lg_sl ([.ref (q 22)]) ++ List.replicate (1 - (lg_sl ([.ref (q 22)])).length) Slot.unset).toArray = ls at hl ⊢
  have hl : lv_has ls 1 [(0, .ref (q 22))] := hl
  rw [f_M_far] at h
  refine lv_aload_n hx hb d_M_far_0 rfl (lv_at hl 0 rfl) ?_
  refine gf_M_47 hx hb hts hown hK hP d_M_far_1 ?_
  obtain rfl := Option.some.inj h
  exact W.iret hx hb hr (fun t ht hW => ⟨rfl, ht⟩) (fun _ h9 => nomatch h9) d_M_far_4
def y_M_kept : MethodName := ⟨"StagedParsers$Machine", "kept", "(I)I"⟩
def w_M_kept : List Cond := .code y_M_kept prog_5_method_8_code 2 (some .int) :: AW_
def rm_M_kept : Room := { frames := 1, cells := 0, slots := 0, locals := 20 }
theorem d_M_kept_0 : decode prog_5_method_8_code 0 = .ok (.iload_n 1, 1) := by decide +kernel
theorem d_M_kept_1 : decode prog_5_method_8_code 1 = .ok (.invokestatic 50, 3) := by decide +kernel
theorem d_M_kept_4 : decode prog_5_method_8_code 4 = .ok (.ifCond .eq 12, 3) := by decide +kernel
theorem d_M_kept_7 : decode prog_5_method_8_code 7 = .ok (.aload_n 0, 1) := by decide +kernel
theorem d_M_kept_8 : decode prog_5_method_8_code 8 = .ok (.getfield 22, 3) := by decide +kernel
theorem d_M_kept_11 : decode prog_5_method_8_code 11 = .ok (.iload_n 1, 1) := by decide +kernel
theorem d_M_kept_12 : decode prog_5_method_8_code 12 = .ok (.iaload, 1) := by decide +kernel
theorem d_M_kept_13 : decode prog_5_method_8_code 13 = .ok (.goto 4, 3) := by decide +kernel
theorem d_M_kept_16 : decode prog_5_method_8_code 16 = .ok (.iconst 0, 1) := by decide +kernel
theorem d_M_kept_17 : decode prog_5_method_8_code 17 = .ok (.ireturn, 1) := by decide +kernel
section RW
variable {p : Program} {l : Launch} {e : Env} {R : Room} {s : State} {m : MethodId} {args : Array Value} {below : List Frame} {meth : Method} {c : Code} {H : Heap} {locs : List Loc} {cells slots : Nat} {Q : State → Prop}
variable {cc : ByteArray} {pc : Nat} {ls : Array Slot} {rest : List Value} {dC : Nat → ClassId} {dI : Nat → Nat → Nat} {q : Nat → Nat} {cA : Nat → ClassId} {σ : MZ_} {H0 : Heap} {A : Nat → Prop}

theorem cw_M_50 (hts : ∀ w ∈ AW_, w.before args s = true) (hN : ∀ w ∈ NW_, va_Nw w s) (hR : rm_S_isRegister.frames + 1 ≤ R.frames ∧ 8 + (1 + 11) + rm_S_isRegister.locals ≤ R.locals) : va_CN R s args "StagedParsers$Machine" 50 y_S_isRegister "StagedParsers" prog_1_method_15_code 1 (some .boolean) w_S_isRegister rm_S_isRegister 0 0 1 ∧ (Cond.static y_S_isRegister).before args s = true ∧ True :=
  ⟨va_cnB 1 hts (aw_in kw_403) rfl rfl rfl (hN _ (List.mem_of_getElem? (i := 4) rfl)) (hts _ kw_1) ⟨by decide, by decide, by decide +kernel⟩ hR, hts _ kw_402, trivial⟩
theorem gf_M_22 (hx : p.tables.exec = Jvm.exec) (hb : c.code = cc) (hts : ∀ w ∈ AW_, w.before args s = true) (hown : s.vm.findClass "StagedParsers$Machine" = some m.cls) (hK : va_K (dC, dI) cls_ (tyX cA) s) (hP : va_P (dC, dI) cls_ (wX q cA σ) H) (hdg : decode cc pc = .ok (.getfield 22, 3)) (kk : W p l e R s m args below meth c H locs cells slots Q (F0 m (pc + 3) ls (.ref (q 24) :: rest))) : W p l e R s m args below meth c H locs cells slots Q (F0 m pc ls (.ref (q 22) :: rest)) :=
  va_get (D := (dC, dI)) (cl := cls_) (ci := 5) (v := .ref (q 24)) (ws := wX q cA σ) (tys := tyX cA) (C := Rz_M) (T := Tz_M) (N := 14) hx hb hts uz_M hown hK hP 22 rfl rfl 4 (by decide) (hts _ kw_155) (fun _ h9 => h9) rfl hdg kk
end RW
def f_M_kept (σ : MZ_) (a1 : Int32) : Option (Int32) :=
  (f_S_isRegister a1).bind fun r1 => if r1 = 0 then some 0
  else gd_ a1 4 (some (σ 24 a1.toNatClampNeg))
set_option maxHeartbeats 4000000 in
set_option maxRecDepth 100000 in
theorem c_M_kept (l : Launch) (dC : Nat → ClassId) (dI : Nat → Nat → Nat) (q : Nat → Nat) (cA : Nat → ClassId) (pt : Nat) (σ : MZ_) (a1 : Int32) (u : Int32) (h : f_M_kept σ a1 = some u) : Met l y_M_kept w_M_kept rm_M_kept (va_Pc [.ref (q 22), .int a1] (PX_ dC dI q cA pt σ)) (QcRead u) 0 0 (fun _ => False) := by
  refine Met.ofW (cc := prog_5_method_8_code) (maxL := 2) (ret := (some .int)) (by decide) rfl ?_
  intro p e s m args below meth c s₁ B hml hv
  obtain ⟨rfl, hP, hK, hD, hN, hZ⟩ := hv
  have hx := B.exec
  have hb := B.bytes
  have hr := B.returns
  have hts : ∀ w ∈ AW_, w.before _ s = true := fun w h => atoms_spec (ws := w_M_kept) B.pre w (List.mem_cons_of_mem _ h)
  have hown : s.vm.findClass "StagedParsers$Machine" = some m.cls := findClass_of_methodNamed B.named
  have hlocks := B.notSynchronized
  have hS : va_S (AX q) s.heap s.heap [] := va_S.rf
  have hl := lv_entry ([.ref (q 22), .int a1]) (n := 2) (Nat.le_of_ble_eq_true rfl)
  rw [lg_entry_eq]
  generalize (lg_sl ([.ref (q 22), .int a1]) ++ List.replicate (2 - (lg_sl ([.ref (q 22), .int a1])).length) Slot.unset).toArray = ls at hl ⊢
  have hl : lv_has ls 2 [(0, .ref (q 22)), (1, .int a1)] := hl
  rw [f_M_kept] at h
  refine lv_iload_n hx hb d_M_kept_0 rfl (lv_at hl 1 rfl) ?_
  obtain ⟨r1, hcl, h⟩ := bd_some h
  refine cx_read (va_runSN (As := [.int a1]) (rest := []) ⟨hx, hb, hml, hown, hts⟩ (c_S_isRegister l dC dI q cA pt σ a1 _ hcl) (cw_M_50 hts hN ⟨Nat.le_of_ble_eq_true rfl, Nat.le_of_ble_eq_true rfl⟩) ⟨pxX_B, pxX_U hP hK hD hN hZ hS⟩ rfl rfl hl.1 rfl (lv_room (Nat.le_of_ble_eq_true rfl)) d_M_kept_1 ⟨Nat.zero_le _, Nat.zero_le _⟩) ?_
  refine lv_if_eq (tgt := 16) hx hb d_M_kept_4 rfl (fun hc => ?_) (fun hc => ?_)
  · have h := if_t hc h
    refine lv_iconst (v := 0) hx hb d_M_kept_16 (by decide) ?_
    obtain rfl := Option.some.inj h
    exact W.iret hx hb hr (fun t ht hW => ⟨rfl, ht⟩) (fun _ h9 => nomatch h9) d_M_kept_17
  · have h := if_f hc h
    refine lv_aload_n hx hb d_M_kept_7 rfl (lv_at hl 0 rfl) ?_
    refine gf_M_22 hx hb hts hown hK hP d_M_kept_8 ?_
    refine lv_iload_n hx hb d_M_kept_11 rfl (lv_at hl 1 rfl) ?_
    obtain ⟨hgd, h⟩ := gd_some h
    refine al_X_24 hx hb hK hP hgd d_M_kept_12 ?_
    refine lv_goto (tgt := 17) hx hb d_M_kept_13 rfl ?_
    obtain rfl := Option.some.inj h
    exact W.iret hx hb hr (fun t ht hW => ⟨rfl, ht⟩) (fun _ h9 => nomatch h9) d_M_kept_17
def y_M_answer : MethodName := ⟨"StagedParsers$Machine", "answer", "()I"⟩
def w_M_answer : List Cond := .code y_M_answer prog_5_method_9_code 1 (some .int) :: AW_
def rm_M_answer : Room := { frames := 0, cells := 0, slots := 0, locals := 0 }
theorem d_M_answer_0 : decode prog_5_method_9_code 0 = .ok (.aload_n 0, 1) := by decide +kernel
theorem d_M_answer_1 : decode prog_5_method_9_code 1 = .ok (.getfield 54, 3) := by decide +kernel
theorem d_M_answer_4 : decode prog_5_method_9_code 4 = .ok (.ifCond .le 17, 3) := by decide +kernel
theorem d_M_answer_7 : decode prog_5_method_9_code 7 = .ok (.aload_n 0, 1) := by decide +kernel
theorem d_M_answer_8 : decode prog_5_method_9_code 8 = .ok (.getfield 18, 3) := by decide +kernel
theorem d_M_answer_11 : decode prog_5_method_9_code 11 = .ok (.aload_n 0, 1) := by decide +kernel
theorem d_M_answer_12 : decode prog_5_method_9_code 12 = .ok (.getfield 54, 3) := by decide +kernel
theorem d_M_answer_15 : decode prog_5_method_9_code 15 = .ok (.iconst 1, 1) := by decide +kernel
theorem d_M_answer_16 : decode prog_5_method_9_code 16 = .ok (.isub, 1) := by decide +kernel
theorem d_M_answer_17 : decode prog_5_method_9_code 17 = .ok (.iaload, 1) := by decide +kernel
theorem d_M_answer_18 : decode prog_5_method_9_code 18 = .ok (.goto 4, 3) := by decide +kernel
theorem d_M_answer_21 : decode prog_5_method_9_code 21 = .ok (.iconst 0, 1) := by decide +kernel
theorem d_M_answer_22 : decode prog_5_method_9_code 22 = .ok (.ireturn, 1) := by decide +kernel
section RW
variable {p : Program} {l : Launch} {e : Env} {R : Room} {s : State} {m : MethodId} {args : Array Value} {below : List Frame} {meth : Method} {c : Code} {H : Heap} {locs : List Loc} {cells slots : Nat} {Q : State → Prop}
variable {cc : ByteArray} {pc : Nat} {ls : Array Slot} {rest : List Value} {dC : Nat → ClassId} {dI : Nat → Nat → Nat} {q : Nat → Nat} {cA : Nat → ClassId} {σ : MZ_} {H0 : Heap} {A : Nat → Prop}

theorem gf_M_54 (hx : p.tables.exec = Jvm.exec) (hb : c.code = cc) (hts : ∀ w ∈ AW_, w.before args s = true) (hown : s.vm.findClass "StagedParsers$Machine" = some m.cls) (hK : va_K (dC, dI) cls_ (tyX cA) s) (hP : va_P (dC, dI) cls_ (wX q cA σ) H) (hdg : decode cc pc = .ok (.getfield 54, 3)) (kk : W p l e R s m args below meth c H locs cells slots Q (F0 m (pc + 3) ls (.int (σ 34 0) :: rest))) : W p l e R s m args below meth c H locs cells slots Q (F0 m pc ls (.ref (q 22) :: rest)) :=
  va_get (D := (dC, dI)) (cl := cls_) (ci := 5) (v := .int (σ 34 0)) (ws := wX q cA σ) (tys := tyX cA) (C := Rz_M) (T := Tz_M) (N := 14) hx hb hts uz_M hown hK hP 22 rfl rfl 5 (by decide) (hts _ kw_156) (fun _ h9 => h9) rfl hdg kk
theorem gf_M_18 (hx : p.tables.exec = Jvm.exec) (hb : c.code = cc) (hts : ∀ w ∈ AW_, w.before args s = true) (hown : s.vm.findClass "StagedParsers$Machine" = some m.cls) (hK : va_K (dC, dI) cls_ (tyX cA) s) (hP : va_P (dC, dI) cls_ (wX q cA σ) H) (hdg : decode cc pc = .ok (.getfield 18, 3)) (kk : W p l e R s m args below meth c H locs cells slots Q (F0 m (pc + 3) ls (.ref (q 23) :: rest))) : W p l e R s m args below meth c H locs cells slots Q (F0 m pc ls (.ref (q 22) :: rest)) :=
  va_get (D := (dC, dI)) (cl := cls_) (ci := 5) (v := .ref (q 23)) (ws := wX q cA σ) (tys := tyX cA) (C := Rz_M) (T := Tz_M) (N := 14) hx hb hts uz_M hown hK hP 22 rfl rfl 3 (by decide) (hts _ kw_154) (fun _ h9 => h9) rfl hdg kk
end RW
def f_M_answer (σ : MZ_) : Option (Int32) :=
  if (σ 34 0) ≤ 0 then some 0
  else gd_ ((σ 34 0) - 1) 642 (some (σ 23 ((σ 34 0) - 1).toNatClampNeg))
set_option maxHeartbeats 4000000 in
set_option maxRecDepth 100000 in
theorem c_M_answer (l : Launch) (dC : Nat → ClassId) (dI : Nat → Nat → Nat) (q : Nat → Nat) (cA : Nat → ClassId) (pt : Nat) (σ : MZ_) (u : Int32) (h : f_M_answer σ = some u) : Met l y_M_answer w_M_answer rm_M_answer (va_Pc [.ref (q 22)] (PX_ dC dI q cA pt σ)) (QcRead u) 0 0 (fun _ => False) := by
  refine Met.ofW (cc := prog_5_method_9_code) (maxL := 1) (ret := (some .int)) (by decide) rfl ?_
  intro p e s m args below meth c s₁ B hml hv
  obtain ⟨rfl, hP, hK, hD, hN, hZ⟩ := hv
  have hx := B.exec
  have hb := B.bytes
  have hr := B.returns
  have hts : ∀ w ∈ AW_, w.before _ s = true := fun w h => atoms_spec (ws := w_M_answer) B.pre w (List.mem_cons_of_mem _ h)
  have hown : s.vm.findClass "StagedParsers$Machine" = some m.cls := findClass_of_methodNamed B.named
  have hlocks := B.notSynchronized
  have hS : va_S (AX q) s.heap s.heap [] := va_S.rf
  have hl := lv_entry ([.ref (q 22)]) (n := 1) (Nat.le_of_ble_eq_true rfl)
  rw [lg_entry_eq]
  generalize (lg_sl ([.ref (q 22)]) ++ List.replicate (1 - (lg_sl ([.ref (q 22)])).length) Slot.unset).toArray = ls at hl ⊢
  have hl : lv_has ls 1 [(0, .ref (q 22))] := hl
  rw [f_M_answer] at h
  refine lv_aload_n hx hb d_M_answer_0 rfl (lv_at hl 0 rfl) ?_
  refine gf_M_54 hx hb hts hown hK hP d_M_answer_1 ?_
  refine lv_if_le (tgt := 21) hx hb d_M_answer_4 rfl (fun hc => ?_) (fun hc => ?_)
  · have h := if_t hc h
    refine lv_iconst (v := 0) hx hb d_M_answer_21 (by decide) ?_
    obtain rfl := Option.some.inj h
    exact W.iret hx hb hr (fun t ht hW => ⟨rfl, ht⟩) (fun _ h9 => nomatch h9) d_M_answer_22
  · have h := if_f hc h
    refine lv_aload_n hx hb d_M_answer_7 rfl (lv_at hl 0 rfl) ?_
    refine gf_M_18 hx hb hts hown hK hP d_M_answer_8 ?_
    refine lv_aload_n hx hb d_M_answer_11 rfl (lv_at hl 0 rfl) ?_
    refine gf_M_54 hx hb hts hown hK hP d_M_answer_12 ?_
    refine lv_iconst (v := 1) hx hb d_M_answer_15 (by decide) ?_
    refine lv_isub hx hb d_M_answer_16 ?_
    obtain ⟨hgd, h⟩ := gd_some h
    refine al_X_23 hx hb hK hP hgd d_M_answer_17 ?_
    refine lv_goto (tgt := 22) hx hb d_M_answer_18 rfl ?_
    obtain rfl := Option.some.inj h
    exact W.iret hx hb hr (fun t ht hW => ⟨rfl, ht⟩) (fun _ h9 => nomatch h9) d_M_answer_22
def y_M_give : MethodName := ⟨"StagedParsers$Machine", "give", "(I)V"⟩
def w_M_give : List Cond := .code y_M_give prog_5_method_13_code 2 none :: AW_
def rm_M_give : Room := { frames := 0, cells := 0, slots := 0, locals := 0 }
theorem d_M_give_0 : decode prog_5_method_13_code 0 = .ok (.aload_n 0, 1) := by decide +kernel
theorem d_M_give_1 : decode prog_5_method_13_code 1 = .ok (.getfield 54, 3) := by decide +kernel
theorem d_M_give_4 : decode prog_5_method_13_code 4 = .ok (.sipush 642, 3) := by decide +kernel
theorem d_M_give_7 : decode prog_5_method_13_code 7 = .ok (.if_icmp .lt 9, 3) := by decide +kernel
theorem d_M_give_10 : decode prog_5_method_13_code 10 = .ok (.aload_n 0, 1) := by decide +kernel
theorem d_M_give_11 : decode prog_5_method_13_code 11 = .ok (.iconst 3, 1) := by decide +kernel
theorem d_M_give_12 : decode prog_5_method_13_code 12 = .ok (.putfield 37, 3) := by decide +kernel
theorem d_M_give_15 : decode prog_5_method_13_code 15 = .ok (.return_, 1) := by decide +kernel
theorem d_M_give_16 : decode prog_5_method_13_code 16 = .ok (.aload_n 0, 1) := by decide +kernel
theorem d_M_give_17 : decode prog_5_method_13_code 17 = .ok (.getfield 18, 3) := by decide +kernel
theorem d_M_give_20 : decode prog_5_method_13_code 20 = .ok (.aload_n 0, 1) := by decide +kernel
theorem d_M_give_21 : decode prog_5_method_13_code 21 = .ok (.getfield 54, 3) := by decide +kernel
theorem d_M_give_24 : decode prog_5_method_13_code 24 = .ok (.iload_n 1, 1) := by decide +kernel
theorem d_M_give_25 : decode prog_5_method_13_code 25 = .ok (.iastore, 1) := by decide +kernel
theorem d_M_give_26 : decode prog_5_method_13_code 26 = .ok (.aload_n 0, 1) := by decide +kernel
theorem d_M_give_27 : decode prog_5_method_13_code 27 = .ok (.dup, 1) := by decide +kernel
theorem d_M_give_28 : decode prog_5_method_13_code 28 = .ok (.getfield 54, 3) := by decide +kernel
theorem d_M_give_31 : decode prog_5_method_13_code 31 = .ok (.iconst 1, 1) := by decide +kernel
theorem d_M_give_32 : decode prog_5_method_13_code 32 = .ok (.iadd, 1) := by decide +kernel
theorem d_M_give_33 : decode prog_5_method_13_code 33 = .ok (.putfield 54, 3) := by decide +kernel
theorem d_M_give_36 : decode prog_5_method_13_code 36 = .ok (.return_, 1) := by decide +kernel
section RW
variable {p : Program} {l : Launch} {e : Env} {R : Room} {s : State} {m : MethodId} {args : Array Value} {below : List Frame} {meth : Method} {c : Code} {H : Heap} {locs : List Loc} {cells slots : Nat} {Q : State → Prop}
variable {cc : ByteArray} {pc : Nat} {ls : Array Slot} {rest : List Value} {dC : Nat → ClassId} {dI : Nat → Nat → Nat} {q : Nat → Nat} {cA : Nat → ClassId} {σ : MZ_} {H0 : Heap} {A : Nat → Prop}

theorem pf_M_54 (hx : p.tables.exec = Jvm.exec) (hb : c.code = cc) (hts : ∀ w ∈ AW_, w.before args s = true) (hown : s.vm.findClass "StagedParsers$Machine" = some m.cls) (hK : va_K (dC, dI) cls_ (tyX cA) s) (hP : va_P (dC, dI) cls_ (wX q cA σ) H) (hD : va_D A (wX q cA σ)) (hS : va_S A H0 H locs) {v : Int32} (hdg : decode cc pc = .ok (.putfield 54, 3)) (kk : ∀ (H1 : Heap) (locs1 : List Loc), va_P (dC, dI) cls_ (wX q cA (va_up σ 34 (fun _ => v))) H1 → va_S A H0 H1 locs1 → W p l e R s m args below meth c H1 locs1 cells slots Q (F0 m (pc + 3) ls rest)) : W p l e R s m args below meth c H locs cells slots Q (F0 m pc ls (.int v :: .ref (q 22) :: rest)) :=
  va_put (D := (dC, dI)) (cl := cls_) (ci := 5) (v := .int v) (ty := .int) (ws := wX q cA σ) (tys := tyX cA) (C := Rz_M) (T := Tz_M) (N := 14) hx hb hts uz_M tz_M tz_M_ok nz_M hown hK hP hD hS 22 rfl rfl 5 (by decide) (hts _ kw_156) (fun _ h9 => h9) rfl (by decide +kernel) rfl rfl (Nat.le_of_ble_eq_true rfl) hdg (fun H1 locs1 hP _ hS => kk H1 locs1 hP hS)
theorem pf_M_37 (hx : p.tables.exec = Jvm.exec) (hb : c.code = cc) (hts : ∀ w ∈ AW_, w.before args s = true) (hown : s.vm.findClass "StagedParsers$Machine" = some m.cls) (hK : va_K (dC, dI) cls_ (tyX cA) s) (hP : va_P (dC, dI) cls_ (wX q cA σ) H) (hD : va_D A (wX q cA σ)) (hS : va_S A H0 H locs) {v : Int32} (hdg : decode cc pc = .ok (.putfield 37, 3)) (kk : ∀ (H1 : Heap) (locs1 : List Loc), va_P (dC, dI) cls_ (wX q cA (va_up σ 35 (fun _ => v))) H1 → va_S A H0 H1 locs1 → W p l e R s m args below meth c H1 locs1 cells slots Q (F0 m (pc + 3) ls rest)) : W p l e R s m args below meth c H locs cells slots Q (F0 m pc ls (.int v :: .ref (q 22) :: rest)) :=
  va_put (D := (dC, dI)) (cl := cls_) (ci := 5) (v := .int v) (ty := .int) (ws := wX q cA σ) (tys := tyX cA) (C := Rz_M) (T := Tz_M) (N := 14) hx hb hts uz_M tz_M tz_M_ok nz_M hown hK hP hD hS 22 rfl rfl 6 (by decide) (hts _ kw_157) (fun _ h9 => h9) rfl (by decide +kernel) rfl rfl (Nat.le_of_ble_eq_true rfl) hdg (fun H1 locs1 hP _ hS => kk H1 locs1 hP hS)
end RW
def f_M_give (σ : MZ_) (a1 : Int32) : Option (MZ_) :=
  if (σ 34 0) < 642 then gd_ (σ 34 0) 642 (st_ (va_up σ 23 (upd (σ 23) (σ 34 0).toNatClampNeg a1)) fun σ1 => st_ (va_up σ1 34 (fun _ => (σ1 34 0) + 1)) fun σ2 => some σ2)
  else st_ (va_up σ 35 (fun _ => 3)) fun σ3 => some σ3
set_option maxHeartbeats 4000000 in
set_option maxRecDepth 100000 in
theorem c_M_give (l : Launch) (dC : Nat → ClassId) (dI : Nat → Nat → Nat) (q : Nat → Nat) (cA : Nat → ClassId) (pt : Nat) (σ : MZ_) (a1 : Int32) (u : MZ_) (h : f_M_give σ a1 = some u) : Met l y_M_give w_M_give rm_M_give (va_Pc [.ref (q 22), .int a1] (PX_ dC dI q cA pt σ)) (QW_ none (fun H => va_P (dC, dI) cls_ (wX q cA u) H) (AX q)) 0 0 (AX q) := by
  refine Met.ofW (cc := prog_5_method_13_code) (maxL := 2) (ret := none) (by decide) rfl ?_
  intro p e s m args below meth c s₁ B hml hv
  obtain ⟨rfl, hP, hK, hD, hN, hZ⟩ := hv
  have hx := B.exec
  have hb := B.bytes
  have hr := B.returns
  have hts : ∀ w ∈ AW_, w.before _ s = true := fun w h => atoms_spec (ws := w_M_give) B.pre w (List.mem_cons_of_mem _ h)
  have hown : s.vm.findClass "StagedParsers$Machine" = some m.cls := findClass_of_methodNamed B.named
  have hlocks := B.notSynchronized
  have hS : va_S (AX q) s.heap s.heap [] := va_S.rf
  have hl := lv_entry ([.ref (q 22), .int a1]) (n := 2) (Nat.le_of_ble_eq_true rfl)
  rw [lg_entry_eq]
  generalize (lg_sl ([.ref (q 22), .int a1]) ++ List.replicate (2 - (lg_sl ([.ref (q 22), .int a1])).length) Slot.unset).toArray = ls at hl ⊢
  have hl : lv_has ls 2 [(0, .ref (q 22)), (1, .int a1)] := hl
  rw [f_M_give] at h
  refine lv_aload_n hx hb d_M_give_0 rfl (lv_at hl 0 rfl) ?_
  refine gf_M_54 hx hb hts hown hK hP d_M_give_1 ?_
  refine lv_sipush (v := 642) hx hb d_M_give_4 (by decide) ?_
  refine lv_icmp_lt (tgt := 16) hx hb d_M_give_7 rfl (fun hc => ?_) (fun hc => ?_)
  · have h := if_t hc h
    refine lv_aload_n hx hb d_M_give_16 rfl (lv_at hl 0 rfl) ?_
    refine gf_M_18 hx hb hts hown hK hP d_M_give_17 ?_
    refine lv_aload_n hx hb d_M_give_20 rfl (lv_at hl 0 rfl) ?_
    refine gf_M_54 hx hb hts hown hK hP d_M_give_21 ?_
    refine lv_iload_n hx hb d_M_give_24 rfl (lv_at hl 1 rfl) ?_
    obtain ⟨hgd, h⟩ := gd_some h
    refine as_X_23 hx hb hK hP hD hS hgd d_M_give_25 (fun H locs hP hS => ?_)
    obtain ⟨σ1, eσ1, h⟩ := st_some h
    rw [← eσ1] at hP
    have hD : va_D (AX q) (wX q cA σ1) := dd_re (wX_f _ _ _ _) hD
    refine lv_aload_n hx hb d_M_give_26 rfl (lv_at hl 0 rfl) ?_
    refine lv_dup hx hb d_M_give_27 rfl ?_
    refine gf_M_54 hx hb hts hown hK hP d_M_give_28 ?_
    refine lv_iconst (v := 1) hx hb d_M_give_31 (by decide) ?_
    refine lv_iadd hx hb d_M_give_32 ?_
    refine pf_M_54 hx hb hts hown hK hP hD hS d_M_give_33 (fun H locs hP hS => ?_)
    obtain ⟨σ2, eσ2, h⟩ := st_some h
    rw [← eσ2] at hP
    have hD : va_D (AX q) (wX q cA σ2) := dd_re (wX_f _ _ _ _) hD
    obtain rfl := Option.some.inj h
    exact W.vret hx hb hr (fun t ht hW => ⟨rfl, by rw [ht]; exact hP, hS.F ht⟩) hS.2.2 d_M_give_36
  · have h := if_f hc h
    refine lv_aload_n hx hb d_M_give_10 rfl (lv_at hl 0 rfl) ?_
    refine lv_iconst (v := 3) hx hb d_M_give_11 (by decide) ?_
    refine pf_M_37 hx hb hts hown hK hP hD hS d_M_give_12 (fun H locs hP hS => ?_)
    obtain ⟨σ3, eσ3, h⟩ := st_some h
    rw [← eσ3] at hP
    have hD : va_D (AX q) (wX q cA σ3) := dd_re (wX_f _ _ _ _) hD
    obtain rfl := Option.some.inj h
    exact W.vret hx hb hr (fun t ht hW => ⟨rfl, by rw [ht]; exact hP, hS.F ht⟩) hS.2.2 d_M_give_15
def y_M_withdraw : MethodName := ⟨"StagedParsers$Machine", "withdraw", "()I"⟩
def w_M_withdraw : List Cond := .code y_M_withdraw prog_5_method_14_code 2 (some .int) :: AW_
def rm_M_withdraw : Room := { frames := 1, cells := 0, slots := 0, locals := 20 }
theorem d_M_withdraw_0 : decode prog_5_method_14_code 0 = .ok (.aload_n 0, 1) := by decide +kernel
theorem d_M_withdraw_1 : decode prog_5_method_14_code 1 = .ok (.invokevirtual 128, 3) := by decide +kernel
theorem d_M_withdraw_4 : decode prog_5_method_14_code 4 = .ok (.istore_n 1, 1) := by decide +kernel
theorem d_M_withdraw_5 : decode prog_5_method_14_code 5 = .ok (.aload_n 0, 1) := by decide +kernel
theorem d_M_withdraw_6 : decode prog_5_method_14_code 6 = .ok (.getfield 54, 3) := by decide +kernel
theorem d_M_withdraw_9 : decode prog_5_method_14_code 9 = .ok (.ifCond .le 13, 3) := by decide +kernel
theorem d_M_withdraw_12 : decode prog_5_method_14_code 12 = .ok (.aload_n 0, 1) := by decide +kernel
theorem d_M_withdraw_13 : decode prog_5_method_14_code 13 = .ok (.dup, 1) := by decide +kernel
theorem d_M_withdraw_14 : decode prog_5_method_14_code 14 = .ok (.getfield 54, 3) := by decide +kernel
theorem d_M_withdraw_17 : decode prog_5_method_14_code 17 = .ok (.iconst 1, 1) := by decide +kernel
theorem d_M_withdraw_18 : decode prog_5_method_14_code 18 = .ok (.isub, 1) := by decide +kernel
theorem d_M_withdraw_19 : decode prog_5_method_14_code 19 = .ok (.putfield 54, 3) := by decide +kernel
theorem d_M_withdraw_22 : decode prog_5_method_14_code 22 = .ok (.iload_n 1, 1) := by decide +kernel
theorem d_M_withdraw_23 : decode prog_5_method_14_code 23 = .ok (.ireturn, 1) := by decide +kernel
section RW
variable {p : Program} {l : Launch} {e : Env} {R : Room} {s : State} {m : MethodId} {args : Array Value} {below : List Frame} {meth : Method} {c : Code} {H : Heap} {locs : List Loc} {cells slots : Nat} {Q : State → Prop}
variable {cc : ByteArray} {pc : Nat} {ls : Array Slot} {rest : List Value} {dC : Nat → ClassId} {dI : Nat → Nat → Nat} {q : Nat → Nat} {cA : Nat → ClassId} {σ : MZ_} {H0 : Heap} {A : Nat → Prop}

theorem cw_M_128 (hts : ∀ w ∈ AW_, w.before args s = true) (hR : rm_M_answer.frames + 1 ≤ R.frames ∧ 8 + (1 + 11) + rm_M_answer.locals ≤ R.locals) : CallW R s args "StagedParsers$Machine" "StagedParsers$Machine" 128 y_M_answer prog_5_method_9_code 1 (some .int) w_M_answer rm_M_answer 0 0 0 :=
  ⟨callB_of 0 hts (aw_in kw_751) rfl rfl rfl (hts _ kw_7) (hts _ kw_748) ⟨by decide, by decide, by decide +kernel⟩ hR, hts _ kw_749, hts _ kw_750⟩
end RW
def f_M_withdraw (σ : MZ_) : Option (Int32 × MZ_) :=
  (f_M_answer σ).bind fun r1 => if (σ 34 0) ≤ 0 then some (r1, σ)
  else st_ (va_up σ 34 (fun _ => (σ 34 0) - 1)) fun σ1 => some (r1, σ1)
set_option maxHeartbeats 4000000 in
set_option maxRecDepth 100000 in
theorem c_M_withdraw (l : Launch) (dC : Nat → ClassId) (dI : Nat → Nat → Nat) (q : Nat → Nat) (cA : Nat → ClassId) (pt : Nat) (σ : MZ_) (u : Int32 × MZ_) (h : f_M_withdraw σ = some u) : Met l y_M_withdraw w_M_withdraw rm_M_withdraw (va_Pc [.ref (q 22)] (PX_ dC dI q cA pt σ)) (QW_ (some (.int u.1)) (fun H => va_P (dC, dI) cls_ (wX q cA u.2) H) (AX q)) 0 0 (AX q) := by
  refine Met.ofW (cc := prog_5_method_14_code) (maxL := 2) (ret := (some .int)) (by decide) rfl ?_
  intro p e s m args below meth c s₁ B hml hv
  obtain ⟨rfl, hP, hK, hD, hN, hZ⟩ := hv
  have hx := B.exec
  have hb := B.bytes
  have hr := B.returns
  have hts : ∀ w ∈ AW_, w.before _ s = true := fun w h => atoms_spec (ws := w_M_withdraw) B.pre w (List.mem_cons_of_mem _ h)
  have hown : s.vm.findClass "StagedParsers$Machine" = some m.cls := findClass_of_methodNamed B.named
  have hlocks := B.notSynchronized
  have hS : va_S (AX q) s.heap s.heap [] := va_S.rf
  have hl := lv_entry ([.ref (q 22)]) (n := 2) (Nat.le_of_ble_eq_true rfl)
  rw [lg_entry_eq]
  generalize (lg_sl ([.ref (q 22)]) ++ List.replicate (2 - (lg_sl ([.ref (q 22)])).length) Slot.unset).toArray = ls at hl ⊢
  have hl : lv_has ls 2 [(0, .ref (q 22))] := hl
  rw [f_M_withdraw] at h
  refine lv_aload_n hx hb d_M_withdraw_0 rfl (lv_at hl 0 rfl) ?_
  obtain ⟨r1, hcl, h⟩ := bd_some h
  refine cx_read (va_runV (As := []) (rest := []) ⟨hx, hb, hml, hown, hts⟩ (c_M_answer l dC dI q cA pt σ _ hcl) (cw_M_128 hts ⟨Nat.le_of_ble_eq_true rfl, Nat.le_of_ble_eq_true rfl⟩) ⟨pxX_B, va_recv hK hP (ci := 5) (q0 := 22) rfl rfl, pxX_U hP hK hD hN hZ hS⟩ rfl rfl hl.1 rfl (lv_room (Nat.le_of_ble_eq_true rfl)) d_M_withdraw_1 ⟨Nat.zero_le _, Nat.zero_le _⟩) ?_
  refine lv_istore_n hx hb d_M_withdraw_4 rfl hl (by decide) rfl (fun ls hl => ?_)
  have hl : lv_has ls 2 [(1, .int r1), (0, .ref (q 22))] := hl
  refine lv_aload_n hx hb d_M_withdraw_5 rfl (lv_at hl 1 rfl) ?_
  refine gf_M_54 hx hb hts hown hK hP d_M_withdraw_6 ?_
  refine lv_if_le (tgt := 22) hx hb d_M_withdraw_9 rfl (fun hc => ?_) (fun hc => ?_)
  · have h := if_t hc h
    refine lv_iload_n hx hb d_M_withdraw_22 rfl (lv_at hl 0 rfl) ?_
    obtain rfl := Option.some.inj h
    exact W.iret hx hb hr (fun t ht hW => ⟨rfl, by rw [ht]; exact hP, hS.F ht⟩) hS.2.2 d_M_withdraw_23
  · have h := if_f hc h
    refine lv_aload_n hx hb d_M_withdraw_12 rfl (lv_at hl 1 rfl) ?_
    refine lv_dup hx hb d_M_withdraw_13 rfl ?_
    refine gf_M_54 hx hb hts hown hK hP d_M_withdraw_14 ?_
    refine lv_iconst (v := 1) hx hb d_M_withdraw_17 (by decide) ?_
    refine lv_isub hx hb d_M_withdraw_18 ?_
    refine pf_M_54 hx hb hts hown hK hP hD hS d_M_withdraw_19 (fun H locs hP hS => ?_)
    obtain ⟨σ1, eσ1, h⟩ := st_some h
    rw [← eσ1] at hP
    have hD : va_D (AX q) (wX q cA σ1) := dd_re (wX_f _ _ _ _) hD
    refine lv_iload_n hx hb d_M_withdraw_22 rfl (lv_at hl 0 rfl) ?_
    obtain rfl := Option.some.inj h
    exact W.iret hx hb hr (fun t ht hW => ⟨rfl, by rw [ht]; exact hP, hS.F ht⟩) hS.2.2 d_M_withdraw_23
def y_M_joinLastTwo : MethodName := ⟨"StagedParsers$Machine", "joinLastTwo", "(I)I"⟩
def w_M_joinLastTwo : List Cond := .code y_M_joinLastTwo prog_5_method_15_code 4 (some .int) :: AW_
def rm_M_joinLastTwo : Room := { frames := 2, cells := 0, slots := 0, locals := 43 }
theorem d_M_joinLastTwo_0 : decode prog_5_method_15_code 0 = .ok (.aload_n 0, 1) := by decide +kernel
theorem d_M_joinLastTwo_1 : decode prog_5_method_15_code 1 = .ok (.invokevirtual 137, 3) := by decide +kernel
theorem d_M_joinLastTwo_4 : decode prog_5_method_15_code 4 = .ok (.istore_n 2, 1) := by decide +kernel
theorem d_M_joinLastTwo_5 : decode prog_5_method_15_code 5 = .ok (.aload_n 0, 1) := by decide +kernel
theorem d_M_joinLastTwo_6 : decode prog_5_method_15_code 6 = .ok (.invokevirtual 137, 3) := by decide +kernel
theorem d_M_joinLastTwo_9 : decode prog_5_method_15_code 9 = .ok (.istore_n 3, 1) := by decide +kernel
theorem d_M_joinLastTwo_10 : decode prog_5_method_15_code 10 = .ok (.iload_n 1, 1) := by decide +kernel
theorem d_M_joinLastTwo_11 : decode prog_5_method_15_code 11 = .ok (.iload_n 3, 1) := by decide +kernel
theorem d_M_joinLastTwo_12 : decode prog_5_method_15_code 12 = .ok (.iload_n 2, 1) := by decide +kernel
theorem d_M_joinLastTwo_13 : decode prog_5_method_15_code 13 = .ok (.invokestatic 140, 3) := by decide +kernel
theorem d_M_joinLastTwo_16 : decode prog_5_method_15_code 16 = .ok (.ireturn, 1) := by decide +kernel
section RW
variable {p : Program} {l : Launch} {e : Env} {R : Room} {s : State} {m : MethodId} {args : Array Value} {below : List Frame} {meth : Method} {c : Code} {H : Heap} {locs : List Loc} {cells slots : Nat} {Q : State → Prop}
variable {cc : ByteArray} {pc : Nat} {ls : Array Slot} {rest : List Value} {dC : Nat → ClassId} {dI : Nat → Nat → Nat} {q : Nat → Nat} {cA : Nat → ClassId} {σ : MZ_} {H0 : Heap} {A : Nat → Prop}

theorem cw_M_137 (hts : ∀ w ∈ AW_, w.before args s = true) (hR : rm_M_withdraw.frames + 1 ≤ R.frames ∧ 8 + (2 + 11) + rm_M_withdraw.locals ≤ R.locals) : CallW R s args "StagedParsers$Machine" "StagedParsers$Machine" 137 y_M_withdraw prog_5_method_14_code 2 (some .int) w_M_withdraw rm_M_withdraw 0 0 0 :=
  ⟨callB_of 0 hts (aw_in kw_747) rfl rfl rfl (hts _ kw_7) (hts _ kw_744) ⟨by decide, by decide, by decide +kernel⟩ hR, hts _ kw_746, hts _ ks_37⟩
theorem cw_M_140 (hts : ∀ w ∈ AW_, w.before args s = true) (hN : ∀ w ∈ NW_, va_Nw w s) (hR : rm_S_joined.frames + 1 ≤ R.frames ∧ 8 + (3 + 11) + rm_S_joined.locals ≤ R.locals) : va_CN R s args "StagedParsers$Machine" 140 y_S_joined "StagedParsers" prog_1_method_16_code 3 (some .int) w_S_joined rm_S_joined 0 0 3 ∧ (Cond.static y_S_joined).before args s = true ∧ True :=
  ⟨va_cnB 3 hts (aw_in kw_754) rfl rfl rfl (hN _ (List.mem_of_getElem? (i := 8) rfl)) (hts _ kw_1) ⟨by decide, by decide, by decide +kernel⟩ hR, hts _ kw_753, trivial⟩
end RW
def f_M_joinLastTwo (σ : MZ_) (a1 : Int32) : Option (Int32 × MZ_) :=
  (f_M_withdraw σ).bind fun u1 => (f_M_withdraw u1.2).bind fun u2 => (f_S_joined a1 u2.1 u1.1).bind fun r3 => some (r3, u2.2)
set_option maxHeartbeats 4000000 in
set_option maxRecDepth 100000 in
theorem c_M_joinLastTwo (l : Launch) (dC : Nat → ClassId) (dI : Nat → Nat → Nat) (q : Nat → Nat) (cA : Nat → ClassId) (pt : Nat) (σ : MZ_) (a1 : Int32) (u : Int32 × MZ_) (h : f_M_joinLastTwo σ a1 = some u) : Met l y_M_joinLastTwo w_M_joinLastTwo rm_M_joinLastTwo (va_Pc [.ref (q 22), .int a1] (PX_ dC dI q cA pt σ)) (QW_ (some (.int u.1)) (fun H => va_P (dC, dI) cls_ (wX q cA u.2) H) (AX q)) 0 0 (AX q) := by
  refine Met.ofW (cc := prog_5_method_15_code) (maxL := 4) (ret := (some .int)) (by decide) rfl ?_
  intro p e s m args below meth c s₁ B hml hv
  obtain ⟨rfl, hP, hK, hD, hN, hZ⟩ := hv
  have hx := B.exec
  have hb := B.bytes
  have hr := B.returns
  have hts : ∀ w ∈ AW_, w.before _ s = true := fun w h => atoms_spec (ws := w_M_joinLastTwo) B.pre w (List.mem_cons_of_mem _ h)
  have hown : s.vm.findClass "StagedParsers$Machine" = some m.cls := findClass_of_methodNamed B.named
  have hlocks := B.notSynchronized
  have hS : va_S (AX q) s.heap s.heap [] := va_S.rf
  have hl := lv_entry ([.ref (q 22), .int a1]) (n := 4) (Nat.le_of_ble_eq_true rfl)
  rw [lg_entry_eq]
  generalize (lg_sl ([.ref (q 22), .int a1]) ++ List.replicate (4 - (lg_sl ([.ref (q 22), .int a1])).length) Slot.unset).toArray = ls at hl ⊢
  have hl : lv_has ls 4 [(0, .ref (q 22)), (1, .int a1)] := hl
  rw [f_M_joinLastTwo] at h
  refine lv_aload_n hx hb d_M_joinLastTwo_0 rfl (lv_at hl 0 rfl) ?_
  obtain ⟨u1, hcl, h⟩ := bd_some h
  refine cx_wri (va_runV (As := []) (rest := []) ⟨hx, hb, hml, hown, hts⟩ (c_M_withdraw l dC dI q cA pt σ _ hcl) (cw_M_137 hts ⟨Nat.le_of_ble_eq_true rfl, Nat.le_of_ble_eq_true rfl⟩) ⟨pxX_B, va_recv hK hP (ci := 5) (q0 := 22) rfl rfl, pxX_U hP hK hD hN hZ hS⟩ rfl rfl hl.1 rfl (lv_room (Nat.le_of_ble_eq_true rfl)) d_M_joinLastTwo_1 ⟨Nat.zero_le _, Nat.zero_le _⟩) hS (fun _ h => h) (fun H locs hP hS => ?_)
  have hD : va_D (AX q) (wX q cA u1.2) := dd_re (wX_f _ _ _ _) hD
  refine lv_istore_n hx hb d_M_joinLastTwo_4 rfl hl (by decide) rfl (fun ls hl => ?_)
  have hl : lv_has ls 4 [(2, .int u1.1), (0, .ref (q 22)), (1, .int a1)] := hl
  refine lv_aload_n hx hb d_M_joinLastTwo_5 rfl (lv_at hl 1 rfl) ?_
  obtain ⟨u2, hcl, h⟩ := bd_some h
  refine cx_wri (va_runV (As := []) (rest := []) ⟨hx, hb, hml, hown, hts⟩ (c_M_withdraw l dC dI q cA pt u1.2 _ hcl) (cw_M_137 hts ⟨Nat.le_of_ble_eq_true rfl, Nat.le_of_ble_eq_true rfl⟩) ⟨pxX_B, va_recv hK hP (ci := 5) (q0 := 22) rfl rfl, pxX_U hP hK hD hN hZ hS⟩ rfl rfl hl.1 rfl (lv_room (Nat.le_of_ble_eq_true rfl)) d_M_joinLastTwo_6 ⟨Nat.zero_le _, Nat.zero_le _⟩) hS (fun _ h => h) (fun H locs hP hS => ?_)
  have hD : va_D (AX q) (wX q cA u2.2) := dd_re (wX_f _ _ _ _) hD
  refine lv_istore_n hx hb d_M_joinLastTwo_9 rfl hl (by decide) rfl (fun ls hl => ?_)
  have hl : lv_has ls 4 [(3, .int u2.1), (2, .int u1.1), (0, .ref (q 22)), (1, .int a1)] := hl
  refine lv_iload_n hx hb d_M_joinLastTwo_10 rfl (lv_at hl 3 rfl) ?_
  refine lv_iload_n hx hb d_M_joinLastTwo_11 rfl (lv_at hl 0 rfl) ?_
  refine lv_iload_n hx hb d_M_joinLastTwo_12 rfl (lv_at hl 1 rfl) ?_
  obtain ⟨r3, hcl, h⟩ := bd_some h
  refine cx_read (va_runSN (As := [.int a1, .int u2.1, .int u1.1]) (rest := []) ⟨hx, hb, hml, hown, hts⟩ (c_S_joined l dC dI q cA pt u2.2 a1 u2.1 u1.1 _ hcl) (cw_M_140 hts hN ⟨Nat.le_of_ble_eq_true rfl, Nat.le_of_ble_eq_true rfl⟩) ⟨pxX_B, pxX_U hP hK hD hN hZ hS⟩ rfl rfl hl.1 rfl (lv_room (Nat.le_of_ble_eq_true rfl)) d_M_joinLastTwo_13 ⟨Nat.zero_le _, Nat.zero_le _⟩) ?_
  obtain rfl := Option.some.inj h
  exact W.iret hx hb hr (fun t ht hW => ⟨rfl, by rw [ht]; exact hP, hS.F ht⟩) hS.2.2 d_M_joinLastTwo_16
def y_M_linkLastThree : MethodName := ⟨"StagedParsers$Machine", "linkLastThree", "()I"⟩
def w_M_linkLastThree : List Cond := .code y_M_linkLastThree prog_5_method_16_code 4 (some .int) :: AW_
def rm_M_linkLastThree : Room := { frames := 2, cells := 0, slots := 0, locals := 43 }
theorem d_M_linkLastThree_0 : decode prog_5_method_16_code 0 = .ok (.aload_n 0, 1) := by decide +kernel
theorem d_M_linkLastThree_1 : decode prog_5_method_16_code 1 = .ok (.invokevirtual 137, 3) := by decide +kernel
theorem d_M_linkLastThree_4 : decode prog_5_method_16_code 4 = .ok (.istore_n 1, 1) := by decide +kernel
theorem d_M_linkLastThree_5 : decode prog_5_method_16_code 5 = .ok (.aload_n 0, 1) := by decide +kernel
theorem d_M_linkLastThree_6 : decode prog_5_method_16_code 6 = .ok (.invokevirtual 137, 3) := by decide +kernel
theorem d_M_linkLastThree_9 : decode prog_5_method_16_code 9 = .ok (.istore_n 2, 1) := by decide +kernel
theorem d_M_linkLastThree_10 : decode prog_5_method_16_code 10 = .ok (.aload_n 0, 1) := by decide +kernel
theorem d_M_linkLastThree_11 : decode prog_5_method_16_code 11 = .ok (.invokevirtual 137, 3) := by decide +kernel
theorem d_M_linkLastThree_14 : decode prog_5_method_16_code 14 = .ok (.istore_n 3, 1) := by decide +kernel
theorem d_M_linkLastThree_15 : decode prog_5_method_16_code 15 = .ok (.iload_n 2, 1) := by decide +kernel
theorem d_M_linkLastThree_16 : decode prog_5_method_16_code 16 = .ok (.invokestatic 144, 3) := by decide +kernel
theorem d_M_linkLastThree_19 : decode prog_5_method_16_code 19 = .ok (.iload_n 3, 1) := by decide +kernel
theorem d_M_linkLastThree_20 : decode prog_5_method_16_code 20 = .ok (.iload_n 1, 1) := by decide +kernel
theorem d_M_linkLastThree_21 : decode prog_5_method_16_code 21 = .ok (.invokestatic 140, 3) := by decide +kernel
theorem d_M_linkLastThree_24 : decode prog_5_method_16_code 24 = .ok (.ireturn, 1) := by decide +kernel
section RW
variable {p : Program} {l : Launch} {e : Env} {R : Room} {s : State} {m : MethodId} {args : Array Value} {below : List Frame} {meth : Method} {c : Code} {H : Heap} {locs : List Loc} {cells slots : Nat} {Q : State → Prop}
variable {cc : ByteArray} {pc : Nat} {ls : Array Slot} {rest : List Value} {dC : Nat → ClassId} {dI : Nat → Nat → Nat} {q : Nat → Nat} {cA : Nat → ClassId} {σ : MZ_} {H0 : Heap} {A : Nat → Prop}

theorem cw_M_144 (hts : ∀ w ∈ AW_, w.before args s = true) (hN : ∀ w ∈ NW_, va_Nw w s) (hR : rm_S_wayOfSign.frames + 1 ≤ R.frames ∧ 8 + (1 + 11) + rm_S_wayOfSign.locals ≤ R.locals) : va_CN R s args "StagedParsers$Machine" 144 y_S_wayOfSign "StagedParsers" prog_1_method_17_code 1 (some .int) w_S_wayOfSign rm_S_wayOfSign 0 0 1 ∧ (Cond.static y_S_wayOfSign).before args s = true ∧ True :=
  ⟨va_cnB 1 hts (aw_in kw_762) rfl rfl rfl (hN _ (List.mem_of_getElem? (i := 9) rfl)) (hts _ kw_1) ⟨by decide, by decide, by decide +kernel⟩ hR, hts _ kw_761, trivial⟩
end RW
def f_M_linkLastThree (σ : MZ_) : Option (Int32 × MZ_) :=
  (f_M_withdraw σ).bind fun u1 => (f_M_withdraw u1.2).bind fun u2 => (f_M_withdraw u2.2).bind fun u3 => (f_S_wayOfSign u2.1).bind fun r4 => (f_S_joined r4 u3.1 u1.1).bind fun r5 => some (r5, u3.2)
set_option maxHeartbeats 4000000 in
set_option maxRecDepth 100000 in
theorem c_M_linkLastThree (l : Launch) (dC : Nat → ClassId) (dI : Nat → Nat → Nat) (q : Nat → Nat) (cA : Nat → ClassId) (pt : Nat) (σ : MZ_) (u : Int32 × MZ_) (h : f_M_linkLastThree σ = some u) : Met l y_M_linkLastThree w_M_linkLastThree rm_M_linkLastThree (va_Pc [.ref (q 22)] (PX_ dC dI q cA pt σ)) (QW_ (some (.int u.1)) (fun H => va_P (dC, dI) cls_ (wX q cA u.2) H) (AX q)) 0 0 (AX q) := by
  refine Met.ofW (cc := prog_5_method_16_code) (maxL := 4) (ret := (some .int)) (by decide) rfl ?_
  intro p e s m args below meth c s₁ B hml hv
  obtain ⟨rfl, hP, hK, hD, hN, hZ⟩ := hv
  have hx := B.exec
  have hb := B.bytes
  have hr := B.returns
  have hts : ∀ w ∈ AW_, w.before _ s = true := fun w h => atoms_spec (ws := w_M_linkLastThree) B.pre w (List.mem_cons_of_mem _ h)
  have hown : s.vm.findClass "StagedParsers$Machine" = some m.cls := findClass_of_methodNamed B.named
  have hlocks := B.notSynchronized
  have hS : va_S (AX q) s.heap s.heap [] := va_S.rf
  have hl := lv_entry ([.ref (q 22)]) (n := 4) (Nat.le_of_ble_eq_true rfl)
  rw [lg_entry_eq]
  generalize (lg_sl ([.ref (q 22)]) ++ List.replicate (4 - (lg_sl ([.ref (q 22)])).length) Slot.unset).toArray = ls at hl ⊢
  have hl : lv_has ls 4 [(0, .ref (q 22))] := hl
  rw [f_M_linkLastThree] at h
  refine lv_aload_n hx hb d_M_linkLastThree_0 rfl (lv_at hl 0 rfl) ?_
  obtain ⟨u1, hcl, h⟩ := bd_some h
  refine cx_wri (va_runV (As := []) (rest := []) ⟨hx, hb, hml, hown, hts⟩ (c_M_withdraw l dC dI q cA pt σ _ hcl) (cw_M_137 hts ⟨Nat.le_of_ble_eq_true rfl, Nat.le_of_ble_eq_true rfl⟩) ⟨pxX_B, va_recv hK hP (ci := 5) (q0 := 22) rfl rfl, pxX_U hP hK hD hN hZ hS⟩ rfl rfl hl.1 rfl (lv_room (Nat.le_of_ble_eq_true rfl)) d_M_linkLastThree_1 ⟨Nat.zero_le _, Nat.zero_le _⟩) hS (fun _ h => h) (fun H locs hP hS => ?_)
  have hD : va_D (AX q) (wX q cA u1.2) := dd_re (wX_f _ _ _ _) hD
  refine lv_istore_n hx hb d_M_linkLastThree_4 rfl hl (by decide) rfl (fun ls hl => ?_)
  have hl : lv_has ls 4 [(1, .int u1.1), (0, .ref (q 22))] := hl
  refine lv_aload_n hx hb d_M_linkLastThree_5 rfl (lv_at hl 1 rfl) ?_
  obtain ⟨u2, hcl, h⟩ := bd_some h
  refine cx_wri (va_runV (As := []) (rest := []) ⟨hx, hb, hml, hown, hts⟩ (c_M_withdraw l dC dI q cA pt u1.2 _ hcl) (cw_M_137 hts ⟨Nat.le_of_ble_eq_true rfl, Nat.le_of_ble_eq_true rfl⟩) ⟨pxX_B, va_recv hK hP (ci := 5) (q0 := 22) rfl rfl, pxX_U hP hK hD hN hZ hS⟩ rfl rfl hl.1 rfl (lv_room (Nat.le_of_ble_eq_true rfl)) d_M_linkLastThree_6 ⟨Nat.zero_le _, Nat.zero_le _⟩) hS (fun _ h => h) (fun H locs hP hS => ?_)
  have hD : va_D (AX q) (wX q cA u2.2) := dd_re (wX_f _ _ _ _) hD
  refine lv_istore_n hx hb d_M_linkLastThree_9 rfl hl (by decide) rfl (fun ls hl => ?_)
  have hl : lv_has ls 4 [(2, .int u2.1), (1, .int u1.1), (0, .ref (q 22))] := hl
  refine lv_aload_n hx hb d_M_linkLastThree_10 rfl (lv_at hl 2 rfl) ?_
  obtain ⟨u3, hcl, h⟩ := bd_some h
  refine cx_wri (va_runV (As := []) (rest := []) ⟨hx, hb, hml, hown, hts⟩ (c_M_withdraw l dC dI q cA pt u2.2 _ hcl) (cw_M_137 hts ⟨Nat.le_of_ble_eq_true rfl, Nat.le_of_ble_eq_true rfl⟩) ⟨pxX_B, va_recv hK hP (ci := 5) (q0 := 22) rfl rfl, pxX_U hP hK hD hN hZ hS⟩ rfl rfl hl.1 rfl (lv_room (Nat.le_of_ble_eq_true rfl)) d_M_linkLastThree_11 ⟨Nat.zero_le _, Nat.zero_le _⟩) hS (fun _ h => h) (fun H locs hP hS => ?_)
  have hD : va_D (AX q) (wX q cA u3.2) := dd_re (wX_f _ _ _ _) hD
  refine lv_istore_n hx hb d_M_linkLastThree_14 rfl hl (by decide) rfl (fun ls hl => ?_)
  have hl : lv_has ls 4 [(3, .int u3.1), (2, .int u2.1), (1, .int u1.1), (0, .ref (q 22))] := hl
  refine lv_iload_n hx hb d_M_linkLastThree_15 rfl (lv_at hl 1 rfl) ?_
  obtain ⟨r4, hcl, h⟩ := bd_some h
  refine cx_read (va_runSN (As := [.int u2.1]) (rest := []) ⟨hx, hb, hml, hown, hts⟩ (c_S_wayOfSign l dC dI q cA pt u3.2 u2.1 _ hcl) (cw_M_144 hts hN ⟨Nat.le_of_ble_eq_true rfl, Nat.le_of_ble_eq_true rfl⟩) ⟨pxX_B, pxX_U hP hK hD hN hZ hS⟩ rfl rfl hl.1 rfl (lv_room (Nat.le_of_ble_eq_true rfl)) d_M_linkLastThree_16 ⟨Nat.zero_le _, Nat.zero_le _⟩) ?_
  refine lv_iload_n hx hb d_M_linkLastThree_19 rfl (lv_at hl 0 rfl) ?_
  refine lv_iload_n hx hb d_M_linkLastThree_20 rfl (lv_at hl 2 rfl) ?_
  obtain ⟨r5, hcl, h⟩ := bd_some h
  refine cx_read (va_runSN (As := [.int r4, .int u3.1, .int u1.1]) (rest := []) ⟨hx, hb, hml, hown, hts⟩ (c_S_joined l dC dI q cA pt u3.2 r4 u3.1 u1.1 _ hcl) (cw_M_140 hts hN ⟨Nat.le_of_ble_eq_true rfl, Nat.le_of_ble_eq_true rfl⟩) ⟨pxX_B, pxX_U hP hK hD hN hZ hS⟩ rfl rfl hl.1 rfl (lv_room (Nat.le_of_ble_eq_true rfl)) d_M_linkLastThree_21 ⟨Nat.zero_le _, Nat.zero_le _⟩) ?_
  obtain rfl := Option.some.inj h
  exact W.iret hx hb hr (fun t ht hW => ⟨rfl, by rw [ht]; exact hP, hS.F ht⟩) hS.2.2 d_M_linkLastThree_24
def y_M_store : MethodName := ⟨"StagedParsers$Machine", "store", "(II)V"⟩
def w_M_store : List Cond := .code y_M_store prog_5_method_17_code 3 none :: AW_
def rm_M_store : Room := { frames := 1, cells := 0, slots := 0, locals := 20 }
theorem d_M_store_0 : decode prog_5_method_17_code 0 = .ok (.iload_n 1, 1) := by decide +kernel
theorem d_M_store_1 : decode prog_5_method_17_code 1 = .ok (.invokestatic 50, 3) := by decide +kernel
theorem d_M_store_4 : decode prog_5_method_17_code 4 = .ok (.ifCond .eq 10, 3) := by decide +kernel
theorem d_M_store_7 : decode prog_5_method_17_code 7 = .ok (.aload_n 0, 1) := by decide +kernel
theorem d_M_store_8 : decode prog_5_method_17_code 8 = .ok (.getfield 22, 3) := by decide +kernel
theorem d_M_store_11 : decode prog_5_method_17_code 11 = .ok (.iload_n 1, 1) := by decide +kernel
theorem d_M_store_12 : decode prog_5_method_17_code 12 = .ok (.iload_n 2, 1) := by decide +kernel
theorem d_M_store_13 : decode prog_5_method_17_code 13 = .ok (.iastore, 1) := by decide +kernel
theorem d_M_store_14 : decode prog_5_method_17_code 14 = .ok (.return_, 1) := by decide +kernel
def f_M_store (σ : MZ_) (a1 : Int32) (a2 : Int32) : Option (MZ_) :=
  (f_S_isRegister a1).bind fun r1 => if r1 = 0 then some σ
  else gd_ a1 4 (st_ (va_up σ 24 (upd (σ 24) a1.toNatClampNeg a2)) fun σ1 => some σ1)
set_option maxHeartbeats 4000000 in
set_option maxRecDepth 100000 in
theorem c_M_store (l : Launch) (dC : Nat → ClassId) (dI : Nat → Nat → Nat) (q : Nat → Nat) (cA : Nat → ClassId) (pt : Nat) (σ : MZ_) (a1 : Int32) (a2 : Int32) (u : MZ_) (h : f_M_store σ a1 a2 = some u) : Met l y_M_store w_M_store rm_M_store (va_Pc [.ref (q 22), .int a1, .int a2] (PX_ dC dI q cA pt σ)) (QW_ none (fun H => va_P (dC, dI) cls_ (wX q cA u) H) (AX q)) 0 0 (AX q) := by
  refine Met.ofW (cc := prog_5_method_17_code) (maxL := 3) (ret := none) (by decide) rfl ?_
  intro p e s m args below meth c s₁ B hml hv
  obtain ⟨rfl, hP, hK, hD, hN, hZ⟩ := hv
  have hx := B.exec
  have hb := B.bytes
  have hr := B.returns
  have hts : ∀ w ∈ AW_, w.before _ s = true := fun w h => atoms_spec (ws := w_M_store) B.pre w (List.mem_cons_of_mem _ h)
  have hown : s.vm.findClass "StagedParsers$Machine" = some m.cls := findClass_of_methodNamed B.named
  have hlocks := B.notSynchronized
  have hS : va_S (AX q) s.heap s.heap [] := va_S.rf
  have hl := lv_entry ([.ref (q 22), .int a1, .int a2]) (n := 3) (Nat.le_of_ble_eq_true rfl)
  rw [lg_entry_eq]
  generalize (lg_sl ([.ref (q 22), .int a1, .int a2]) ++ List.replicate (3 - (lg_sl ([.ref (q 22), .int a1, .int a2])).length) Slot.unset).toArray = ls at hl ⊢
  have hl : lv_has ls 3 [(0, .ref (q 22)), (1, .int a1), (2, .int a2)] := hl
  rw [f_M_store] at h
  refine lv_iload_n hx hb d_M_store_0 rfl (lv_at hl 1 rfl) ?_
  obtain ⟨r1, hcl, h⟩ := bd_some h
  refine cx_read (va_runSN (As := [.int a1]) (rest := []) ⟨hx, hb, hml, hown, hts⟩ (c_S_isRegister l dC dI q cA pt σ a1 _ hcl) (cw_M_50 hts hN ⟨Nat.le_of_ble_eq_true rfl, Nat.le_of_ble_eq_true rfl⟩) ⟨pxX_B, pxX_U hP hK hD hN hZ hS⟩ rfl rfl hl.1 rfl (lv_room (Nat.le_of_ble_eq_true rfl)) d_M_store_1 ⟨Nat.zero_le _, Nat.zero_le _⟩) ?_
  refine lv_if_eq (tgt := 14) hx hb d_M_store_4 rfl (fun hc => ?_) (fun hc => ?_)
  · have h := if_t hc h
    obtain rfl := Option.some.inj h
    exact W.vret hx hb hr (fun t ht hW => ⟨rfl, by rw [ht]; exact hP, hS.F ht⟩) hS.2.2 d_M_store_14
  · have h := if_f hc h
    refine lv_aload_n hx hb d_M_store_7 rfl (lv_at hl 0 rfl) ?_
    refine gf_M_22 hx hb hts hown hK hP d_M_store_8 ?_
    refine lv_iload_n hx hb d_M_store_11 rfl (lv_at hl 1 rfl) ?_
    refine lv_iload_n hx hb d_M_store_12 rfl (lv_at hl 2 rfl) ?_
    obtain ⟨hgd, h⟩ := gd_some h
    refine as_X_24 hx hb hK hP hD hS hgd d_M_store_13 (fun H locs hP hS => ?_)
    obtain ⟨σ1, eσ1, h⟩ := st_some h
    rw [← eσ1] at hP
    have hD : va_D (AX q) (wX q cA σ1) := dd_re (wX_f _ _ _ _) hD
    obtain rfl := Option.some.inj h
    exact W.vret hx hb hr (fun t ht hW => ⟨rfl, by rw [ht]; exact hP, hS.F ht⟩) hS.2.2 d_M_store_14
def y_M_pushFrame : MethodName := ⟨"StagedParsers$Machine", "pushFrame", "(II)V"⟩
def w_M_pushFrame : List Cond := .code y_M_pushFrame prog_5_method_19_code 3 none :: AW_
def rm_M_pushFrame : Room := { frames := 1, cells := 0, slots := 0, locals := 24 }
theorem d_M_pushFrame_0 : decode prog_5_method_19_code 0 = .ok (.aload_n 0, 1) := by decide +kernel
theorem d_M_pushFrame_1 : decode prog_5_method_19_code 1 = .ok (.getfield 12, 3) := by decide +kernel
theorem d_M_pushFrame_4 : decode prog_5_method_19_code 4 = .ok (.invokevirtual 158, 3) := by decide +kernel
theorem d_M_pushFrame_7 : decode prog_5_method_19_code 7 = .ok (.ifCond .eq 9, 3) := by decide +kernel
theorem d_M_pushFrame_10 : decode prog_5_method_19_code 10 = .ok (.aload_n 0, 1) := by decide +kernel
theorem d_M_pushFrame_11 : decode prog_5_method_19_code 11 = .ok (.iconst 3, 1) := by decide +kernel
theorem d_M_pushFrame_12 : decode prog_5_method_19_code 12 = .ok (.putfield 37, 3) := by decide +kernel
theorem d_M_pushFrame_15 : decode prog_5_method_19_code 15 = .ok (.return_, 1) := by decide +kernel
theorem d_M_pushFrame_16 : decode prog_5_method_19_code 16 = .ok (.aload_n 0, 1) := by decide +kernel
theorem d_M_pushFrame_17 : decode prog_5_method_19_code 17 = .ok (.getfield 12, 3) := by decide +kernel
theorem d_M_pushFrame_20 : decode prog_5_method_19_code 20 = .ok (.iload_n 1, 1) := by decide +kernel
theorem d_M_pushFrame_21 : decode prog_5_method_19_code 21 = .ok (.iload_n 2, 1) := by decide +kernel
theorem d_M_pushFrame_22 : decode prog_5_method_19_code 22 = .ok (.aload_n 0, 1) := by decide +kernel
theorem d_M_pushFrame_23 : decode prog_5_method_19_code 23 = .ok (.getfield 41, 3) := by decide +kernel
theorem d_M_pushFrame_26 : decode prog_5_method_19_code 26 = .ok (.aload_n 0, 1) := by decide +kernel
theorem d_M_pushFrame_27 : decode prog_5_method_19_code 27 = .ok (.getfield 54, 3) := by decide +kernel
theorem d_M_pushFrame_30 : decode prog_5_method_19_code 30 = .ok (.invokevirtual 162, 3) := by decide +kernel
theorem d_M_pushFrame_33 : decode prog_5_method_19_code 33 = .ok (.return_, 1) := by decide +kernel
section RW
variable {p : Program} {l : Launch} {e : Env} {R : Room} {s : State} {m : MethodId} {args : Array Value} {below : List Frame} {meth : Method} {c : Code} {H : Heap} {locs : List Loc} {cells slots : Nat} {Q : State → Prop}
variable {cc : ByteArray} {pc : Nat} {ls : Array Slot} {rest : List Value} {dC : Nat → ClassId} {dI : Nat → Nat → Nat} {q : Nat → Nat} {cA : Nat → ClassId} {σ : MZ_} {H0 : Heap} {A : Nat → Prop}

theorem gf_M_12 (hx : p.tables.exec = Jvm.exec) (hb : c.code = cc) (hts : ∀ w ∈ AW_, w.before args s = true) (hown : s.vm.findClass "StagedParsers$Machine" = some m.cls) (hK : va_K (dC, dI) cls_ (tyX cA) s) (hP : va_P (dC, dI) cls_ (wX q cA σ) H) (hdg : decode cc pc = .ok (.getfield 12, 3)) (kk : W p l e R s m args below meth c H locs cells slots Q (F0 m (pc + 3) ls (.ref (q 25) :: rest))) : W p l e R s m args below meth c H locs cells slots Q (F0 m pc ls (.ref (q 22) :: rest)) :=
  va_get (D := (dC, dI)) (cl := cls_) (ci := 5) (v := .ref (q 25)) (ws := wX q cA σ) (tys := tyX cA) (C := Rz_M) (T := Tz_M) (N := 14) hx hb hts uz_M hown hK hP 22 rfl rfl 2 (by decide) (hts _ kw_153) (fun _ h9 => h9) rfl hdg kk
theorem cw_M_158 (hts : ∀ w ∈ AW_, w.before args s = true) (hR : rm_F_isFull.frames + 1 ≤ R.frames ∧ 8 + (1 + 11) + rm_F_isFull.locals ≤ R.locals) : CallW R s args "StagedParsers$Machine" "StagedParsers$Frames" 158 y_F_isFull prog_3_method_3_code 1 (some .boolean) w_F_isFull rm_F_isFull 0 0 0 :=
  ⟨callB_of 0 hts (aw_in kw_654) rfl rfl rfl (hts _ kw_8) (hts _ kw_651) ⟨by decide, by decide, by decide +kernel⟩ hR, hts _ kw_652, hts _ kw_653⟩
theorem cw_M_162 (hts : ∀ w ∈ AW_, w.before args s = true) (hR : rm_F_push.frames + 1 ≤ R.frames ∧ 8 + (5 + 11) + rm_F_push.locals ≤ R.locals) : CallW R s args "StagedParsers$Machine" "StagedParsers$Frames" 162 y_F_push prog_3_method_5_code 5 none w_F_push rm_F_push 0 0 4 :=
  ⟨callB_of 4 hts (aw_in kw_658) rfl rfl rfl (hts _ kw_8) (hts _ kw_655) ⟨by decide, by decide, by decide +kernel⟩ hR, hts _ kw_656, hts _ kw_657⟩
end RW
def f_M_pushFrame (σ : MZ_) (a1 : Int32) (a2 : Int32) : Option (MZ_) :=
  (f_F_isFull σ).bind fun r1 => if r1 = 0 then (f_F_push σ a1 a2 (σ 37 0) (σ 34 0)).bind fun u2 => some u2
  else st_ (va_up σ 35 (fun _ => 3)) fun σ1 => some σ1
set_option maxHeartbeats 4000000 in
set_option maxRecDepth 100000 in
theorem c_M_pushFrame (l : Launch) (dC : Nat → ClassId) (dI : Nat → Nat → Nat) (q : Nat → Nat) (cA : Nat → ClassId) (pt : Nat) (σ : MZ_) (a1 : Int32) (a2 : Int32) (u : MZ_) (h : f_M_pushFrame σ a1 a2 = some u) : Met l y_M_pushFrame w_M_pushFrame rm_M_pushFrame (va_Pc [.ref (q 22), .int a1, .int a2] (PX_ dC dI q cA pt σ)) (QW_ none (fun H => va_P (dC, dI) cls_ (wX q cA u) H) (AX q)) 0 0 (AX q) := by
  refine Met.ofW (cc := prog_5_method_19_code) (maxL := 3) (ret := none) (by decide) rfl ?_
  intro p e s m args below meth c s₁ B hml hv
  obtain ⟨rfl, hP, hK, hD, hN, hZ⟩ := hv
  have hx := B.exec
  have hb := B.bytes
  have hr := B.returns
  have hts : ∀ w ∈ AW_, w.before _ s = true := fun w h => atoms_spec (ws := w_M_pushFrame) B.pre w (List.mem_cons_of_mem _ h)
  have hown : s.vm.findClass "StagedParsers$Machine" = some m.cls := findClass_of_methodNamed B.named
  have hlocks := B.notSynchronized
  have hS : va_S (AX q) s.heap s.heap [] := va_S.rf
  have hl := lv_entry ([.ref (q 22), .int a1, .int a2]) (n := 3) (Nat.le_of_ble_eq_true rfl)
  rw [lg_entry_eq]
  generalize (lg_sl ([.ref (q 22), .int a1, .int a2]) ++ List.replicate (3 - (lg_sl ([.ref (q 22), .int a1, .int a2])).length) Slot.unset).toArray = ls at hl ⊢
  have hl : lv_has ls 3 [(0, .ref (q 22)), (1, .int a1), (2, .int a2)] := hl
  rw [f_M_pushFrame] at h
  refine lv_aload_n hx hb d_M_pushFrame_0 rfl (lv_at hl 0 rfl) ?_
  refine gf_M_12 hx hb hts hown hK hP d_M_pushFrame_1 ?_
  obtain ⟨r1, hcl, h⟩ := bd_some h
  refine cx_read (va_runV (As := []) (rest := []) ⟨hx, hb, hml, hown, hts⟩ (c_F_isFull l dC dI q cA pt σ _ hcl) (cw_M_158 hts ⟨Nat.le_of_ble_eq_true rfl, Nat.le_of_ble_eq_true rfl⟩) ⟨pxX_B, va_recv hK hP (ci := 6) (q0 := 25) rfl rfl, pxX_U hP hK hD hN hZ hS⟩ rfl rfl hl.1 rfl (lv_room (Nat.le_of_ble_eq_true rfl)) d_M_pushFrame_4 ⟨Nat.zero_le _, Nat.zero_le _⟩) ?_
  refine lv_if_eq (tgt := 16) hx hb d_M_pushFrame_7 rfl (fun hc => ?_) (fun hc => ?_)
  · have h := if_t hc h
    refine lv_aload_n hx hb d_M_pushFrame_16 rfl (lv_at hl 0 rfl) ?_
    refine gf_M_12 hx hb hts hown hK hP d_M_pushFrame_17 ?_
    refine lv_iload_n hx hb d_M_pushFrame_20 rfl (lv_at hl 1 rfl) ?_
    refine lv_iload_n hx hb d_M_pushFrame_21 rfl (lv_at hl 2 rfl) ?_
    refine lv_aload_n hx hb d_M_pushFrame_22 rfl (lv_at hl 0 rfl) ?_
    refine gf_M_41 hx hb hts hown hK hP d_M_pushFrame_23 ?_
    refine lv_aload_n hx hb d_M_pushFrame_26 rfl (lv_at hl 0 rfl) ?_
    refine gf_M_54 hx hb hts hown hK hP d_M_pushFrame_27 ?_
    obtain ⟨u2, hcl, h⟩ := bd_some h
    refine cx_wrv (va_runV (As := [.int a1, .int a2, .int (σ 37 0), .int (σ 34 0)]) (rest := []) ⟨hx, hb, hml, hown, hts⟩ (c_F_push l dC dI q cA pt σ a1 a2 (σ 37 0) (σ 34 0) _ hcl) (cw_M_162 hts ⟨Nat.le_of_ble_eq_true rfl, Nat.le_of_ble_eq_true rfl⟩) ⟨pxX_B, va_recv hK hP (ci := 6) (q0 := 25) rfl rfl, pxX_U hP hK hD hN hZ hS⟩ rfl rfl hl.1 rfl (lv_room (Nat.le_of_ble_eq_true rfl)) d_M_pushFrame_30 ⟨Nat.zero_le _, Nat.zero_le _⟩) hS (fun _ h => h) (fun H locs hP hS => ?_)
    have hD : va_D (AX q) (wX q cA u2) := dd_re (wX_f _ _ _ _) hD
    obtain rfl := Option.some.inj h
    exact W.vret hx hb hr (fun t ht hW => ⟨rfl, by rw [ht]; exact hP, hS.F ht⟩) hS.2.2 d_M_pushFrame_33
  · have h := if_f hc h
    refine lv_aload_n hx hb d_M_pushFrame_10 rfl (lv_at hl 0 rfl) ?_
    refine lv_iconst (v := 3) hx hb d_M_pushFrame_11 (by decide) ?_
    refine pf_M_37 hx hb hts hown hK hP hD hS d_M_pushFrame_12 (fun H locs hP hS => ?_)
    obtain ⟨σ1, eσ1, h⟩ := st_some h
    rw [← eσ1] at hP
    have hD : va_D (AX q) (wX q cA σ1) := dd_re (wX_f _ _ _ _) hD
    obtain rfl := Option.some.inj h
    exact W.vret hx hb hr (fun t ht hW => ⟨rfl, by rw [ht]; exact hP, hS.F ht⟩) hS.2.2 d_M_pushFrame_15
def y_M_callBody : MethodName := ⟨"StagedParsers$Machine", "callBody", "(I)V"⟩
def w_M_callBody : List Cond := .code y_M_callBody prog_5_method_20_code 2 none :: AW_
def rm_M_callBody : Room := { frames := 2, cells := 0, slots := 0, locals := 46 }
theorem d_M_callBody_0 : decode prog_5_method_20_code 0 = .ok (.aload_n 0, 1) := by decide +kernel
theorem d_M_callBody_1 : decode prog_5_method_20_code 1 = .ok (.getfield 94, 3) := by decide +kernel
theorem d_M_callBody_4 : decode prog_5_method_20_code 4 = .ok (.bipush 40, 2) := by decide +kernel
theorem d_M_callBody_6 : decode prog_5_method_20_code 6 = .ok (.if_icmp .ge 13, 3) := by decide +kernel
theorem d_M_callBody_9 : decode prog_5_method_20_code 9 = .ok (.aload_n 0, 1) := by decide +kernel
theorem d_M_callBody_10 : decode prog_5_method_20_code 10 = .ok (.getfield 91, 3) := by decide +kernel
theorem d_M_callBody_13 : decode prog_5_method_20_code 13 = .ok (.sipush 300, 3) := by decide +kernel
theorem d_M_callBody_16 : decode prog_5_method_20_code 16 = .ok (.if_icmp .lt 9, 3) := by decide +kernel
theorem d_M_callBody_19 : decode prog_5_method_20_code 19 = .ok (.aload_n 0, 1) := by decide +kernel
theorem d_M_callBody_20 : decode prog_5_method_20_code 20 = .ok (.iconst 3, 1) := by decide +kernel
theorem d_M_callBody_21 : decode prog_5_method_20_code 21 = .ok (.putfield 37, 3) := by decide +kernel
theorem d_M_callBody_24 : decode prog_5_method_20_code 24 = .ok (.return_, 1) := by decide +kernel
theorem d_M_callBody_25 : decode prog_5_method_20_code 25 = .ok (.aload_n 0, 1) := by decide +kernel
theorem d_M_callBody_26 : decode prog_5_method_20_code 26 = .ok (.dup, 1) := by decide +kernel
theorem d_M_callBody_27 : decode prog_5_method_20_code 27 = .ok (.getfield 94, 3) := by decide +kernel
theorem d_M_callBody_30 : decode prog_5_method_20_code 30 = .ok (.iconst 1, 1) := by decide +kernel
theorem d_M_callBody_31 : decode prog_5_method_20_code 31 = .ok (.iadd, 1) := by decide +kernel
theorem d_M_callBody_32 : decode prog_5_method_20_code 32 = .ok (.putfield 94, 3) := by decide +kernel
theorem d_M_callBody_35 : decode prog_5_method_20_code 35 = .ok (.aload_n 0, 1) := by decide +kernel
theorem d_M_callBody_36 : decode prog_5_method_20_code 36 = .ok (.dup, 1) := by decide +kernel
theorem d_M_callBody_37 : decode prog_5_method_20_code 37 = .ok (.getfield 91, 3) := by decide +kernel
theorem d_M_callBody_40 : decode prog_5_method_20_code 40 = .ok (.iconst 1, 1) := by decide +kernel
theorem d_M_callBody_41 : decode prog_5_method_20_code 41 = .ok (.iadd, 1) := by decide +kernel
theorem d_M_callBody_42 : decode prog_5_method_20_code 42 = .ok (.putfield 91, 3) := by decide +kernel
theorem d_M_callBody_45 : decode prog_5_method_20_code 45 = .ok (.aload_n 0, 1) := by decide +kernel
theorem d_M_callBody_46 : decode prog_5_method_20_code 46 = .ok (.iconst 1, 1) := by decide +kernel
theorem d_M_callBody_47 : decode prog_5_method_20_code 47 = .ok (.aload_n 0, 1) := by decide +kernel
theorem d_M_callBody_48 : decode prog_5_method_20_code 48 = .ok (.getfield 65, 3) := by decide +kernel
theorem d_M_callBody_51 : decode prog_5_method_20_code 51 = .ok (.invokevirtual 107, 3) := by decide +kernel
theorem d_M_callBody_54 : decode prog_5_method_20_code 54 = .ok (.aload_n 0, 1) := by decide +kernel
theorem d_M_callBody_55 : decode prog_5_method_20_code 55 = .ok (.aload_n 0, 1) := by decide +kernel
theorem d_M_callBody_56 : decode prog_5_method_20_code 56 = .ok (.getfield 25, 3) := by decide +kernel
theorem d_M_callBody_59 : decode prog_5_method_20_code 59 = .ok (.iload_n 1, 1) := by decide +kernel
theorem d_M_callBody_60 : decode prog_5_method_20_code 60 = .ok (.invokevirtual 166, 3) := by decide +kernel
theorem d_M_callBody_63 : decode prog_5_method_20_code 63 = .ok (.putfield 65, 3) := by decide +kernel
theorem d_M_callBody_66 : decode prog_5_method_20_code 66 = .ok (.return_, 1) := by decide +kernel
section RW
variable {p : Program} {l : Launch} {e : Env} {R : Room} {s : State} {m : MethodId} {args : Array Value} {below : List Frame} {meth : Method} {c : Code} {H : Heap} {locs : List Loc} {cells slots : Nat} {Q : State → Prop}
variable {cc : ByteArray} {pc : Nat} {ls : Array Slot} {rest : List Value} {dC : Nat → ClassId} {dI : Nat → Nat → Nat} {q : Nat → Nat} {cA : Nat → ClassId} {σ : MZ_} {H0 : Heap} {A : Nat → Prop}

theorem gf_M_94 (hx : p.tables.exec = Jvm.exec) (hb : c.code = cc) (hts : ∀ w ∈ AW_, w.before args s = true) (hown : s.vm.findClass "StagedParsers$Machine" = some m.cls) (hK : va_K (dC, dI) cls_ (tyX cA) s) (hP : va_P (dC, dI) cls_ (wX q cA σ) H) (hdg : decode cc pc = .ok (.getfield 94, 3)) (kk : W p l e R s m args below meth c H locs cells slots Q (F0 m (pc + 3) ls (.int (σ 41 0) :: rest))) : W p l e R s m args below meth c H locs cells slots Q (F0 m pc ls (.ref (q 22) :: rest)) :=
  va_get (D := (dC, dI)) (cl := cls_) (ci := 5) (v := .int (σ 41 0)) (ws := wX q cA σ) (tys := tyX cA) (C := Rz_M) (T := Tz_M) (N := 14) hx hb hts uz_M hown hK hP 22 rfl rfl 12 (by decide) (hts _ kw_163) (fun _ h9 => h9) rfl hdg kk
theorem gf_M_91 (hx : p.tables.exec = Jvm.exec) (hb : c.code = cc) (hts : ∀ w ∈ AW_, w.before args s = true) (hown : s.vm.findClass "StagedParsers$Machine" = some m.cls) (hK : va_K (dC, dI) cls_ (tyX cA) s) (hP : va_P (dC, dI) cls_ (wX q cA σ) H) (hdg : decode cc pc = .ok (.getfield 91, 3)) (kk : W p l e R s m args below meth c H locs cells slots Q (F0 m (pc + 3) ls (.int (σ 40 0) :: rest))) : W p l e R s m args below meth c H locs cells slots Q (F0 m pc ls (.ref (q 22) :: rest)) :=
  va_get (D := (dC, dI)) (cl := cls_) (ci := 5) (v := .int (σ 40 0)) (ws := wX q cA σ) (tys := tyX cA) (C := Rz_M) (T := Tz_M) (N := 14) hx hb hts uz_M hown hK hP 22 rfl rfl 11 (by decide) (hts _ kw_162) (fun _ h9 => h9) rfl hdg kk
theorem pf_M_94 (hx : p.tables.exec = Jvm.exec) (hb : c.code = cc) (hts : ∀ w ∈ AW_, w.before args s = true) (hown : s.vm.findClass "StagedParsers$Machine" = some m.cls) (hK : va_K (dC, dI) cls_ (tyX cA) s) (hP : va_P (dC, dI) cls_ (wX q cA σ) H) (hD : va_D A (wX q cA σ)) (hS : va_S A H0 H locs) {v : Int32} (hdg : decode cc pc = .ok (.putfield 94, 3)) (kk : ∀ (H1 : Heap) (locs1 : List Loc), va_P (dC, dI) cls_ (wX q cA (va_up σ 41 (fun _ => v))) H1 → va_S A H0 H1 locs1 → W p l e R s m args below meth c H1 locs1 cells slots Q (F0 m (pc + 3) ls rest)) : W p l e R s m args below meth c H locs cells slots Q (F0 m pc ls (.int v :: .ref (q 22) :: rest)) :=
  va_put (D := (dC, dI)) (cl := cls_) (ci := 5) (v := .int v) (ty := .int) (ws := wX q cA σ) (tys := tyX cA) (C := Rz_M) (T := Tz_M) (N := 14) hx hb hts uz_M tz_M tz_M_ok nz_M hown hK hP hD hS 22 rfl rfl 12 (by decide) (hts _ kw_163) (fun _ h9 => h9) rfl (by decide +kernel) rfl rfl (Nat.le_of_ble_eq_true rfl) hdg (fun H1 locs1 hP _ hS => kk H1 locs1 hP hS)
theorem pf_M_91 (hx : p.tables.exec = Jvm.exec) (hb : c.code = cc) (hts : ∀ w ∈ AW_, w.before args s = true) (hown : s.vm.findClass "StagedParsers$Machine" = some m.cls) (hK : va_K (dC, dI) cls_ (tyX cA) s) (hP : va_P (dC, dI) cls_ (wX q cA σ) H) (hD : va_D A (wX q cA σ)) (hS : va_S A H0 H locs) {v : Int32} (hdg : decode cc pc = .ok (.putfield 91, 3)) (kk : ∀ (H1 : Heap) (locs1 : List Loc), va_P (dC, dI) cls_ (wX q cA (va_up σ 40 (fun _ => v))) H1 → va_S A H0 H1 locs1 → W p l e R s m args below meth c H1 locs1 cells slots Q (F0 m (pc + 3) ls rest)) : W p l e R s m args below meth c H locs cells slots Q (F0 m pc ls (.int v :: .ref (q 22) :: rest)) :=
  va_put (D := (dC, dI)) (cl := cls_) (ci := 5) (v := .int v) (ty := .int) (ws := wX q cA σ) (tys := tyX cA) (C := Rz_M) (T := Tz_M) (N := 14) hx hb hts uz_M tz_M tz_M_ok nz_M hown hK hP hD hS 22 rfl rfl 11 (by decide) (hts _ kw_162) (fun _ h9 => h9) rfl (by decide +kernel) rfl rfl (Nat.le_of_ble_eq_true rfl) hdg (fun H1 locs1 hP _ hS => kk H1 locs1 hP hS)
theorem gf_M_65 (hx : p.tables.exec = Jvm.exec) (hb : c.code = cc) (hts : ∀ w ∈ AW_, w.before args s = true) (hown : s.vm.findClass "StagedParsers$Machine" = some m.cls) (hK : va_K (dC, dI) cls_ (tyX cA) s) (hP : va_P (dC, dI) cls_ (wX q cA σ) H) (hdg : decode cc pc = .ok (.getfield 65, 3)) (kk : W p l e R s m args below meth c H locs cells slots Q (F0 m (pc + 3) ls (.int (σ 36 0) :: rest))) : W p l e R s m args below meth c H locs cells slots Q (F0 m pc ls (.ref (q 22) :: rest)) :=
  va_get (D := (dC, dI)) (cl := cls_) (ci := 5) (v := .int (σ 36 0)) (ws := wX q cA σ) (tys := tyX cA) (C := Rz_M) (T := Tz_M) (N := 14) hx hb hts uz_M hown hK hP 22 rfl rfl 7 (by decide) (hts _ kw_158) (fun _ h9 => h9) rfl hdg kk
theorem cw_M_107 (hts : ∀ w ∈ AW_, w.before args s = true) (hR : rm_M_pushFrame.frames + 1 ≤ R.frames ∧ 8 + (3 + 11) + rm_M_pushFrame.locals ≤ R.locals) : CallW R s args "StagedParsers$Machine" "StagedParsers$Machine" 107 y_M_pushFrame prog_5_method_19_code 3 none w_M_pushFrame rm_M_pushFrame 0 0 2 :=
  ⟨callB_of 2 hts (aw_in kw_650) rfl rfl rfl (hts _ kw_7) (hts _ kw_647) ⟨by decide, by decide, by decide +kernel⟩ hR, hts _ kw_649, hts _ ks_27⟩
theorem gf_M_25 (hx : p.tables.exec = Jvm.exec) (hb : c.code = cc) (hts : ∀ w ∈ AW_, w.before args s = true) (hown : s.vm.findClass "StagedParsers$Machine" = some m.cls) (hK : va_K (dC, dI) cls_ (tyX cA) s) (hP : va_P (dC, dI) cls_ (wX q cA σ) H) (hdg : decode cc pc = .ok (.getfield 25, 3)) (kk : W p l e R s m args below meth c H locs cells slots Q (F0 m (pc + 3) ls (.ref (q 14) :: rest))) : W p l e R s m args below meth c H locs cells slots Q (F0 m pc ls (.ref (q 22) :: rest)) :=
  va_get (D := (dC, dI)) (cl := cls_) (ci := 5) (v := .ref (q 14)) (ws := wX q cA σ) (tys := tyX cA) (C := Rz_M) (T := Tz_M) (N := 14) hx hb hts uz_M hown hK hP 22 rfl rfl 0 (by decide) (hts _ kw_151) (fun _ h9 => h9) rfl hdg kk
theorem cw_M_166 (hts : ∀ w ∈ AW_, w.before args s = true) (hR : rm_C_entry.frames + 1 ≤ R.frames ∧ 8 + (2 + 11) + rm_C_entry.locals ≤ R.locals) : CallW R s args "StagedParsers$Machine" "StagedParsers$Code" 166 y_C_entry prog_2_method_5_code 2 (some .int) w_C_entry rm_C_entry 0 0 1 :=
  ⟨callB_of 1 hts (aw_in kw_662) rfl rfl rfl (hts _ kw_5) (hts _ kw_659) ⟨by decide, by decide, by decide +kernel⟩ hR, hts _ kw_660, hts _ kw_661⟩
theorem pf_M_65 (hx : p.tables.exec = Jvm.exec) (hb : c.code = cc) (hts : ∀ w ∈ AW_, w.before args s = true) (hown : s.vm.findClass "StagedParsers$Machine" = some m.cls) (hK : va_K (dC, dI) cls_ (tyX cA) s) (hP : va_P (dC, dI) cls_ (wX q cA σ) H) (hD : va_D A (wX q cA σ)) (hS : va_S A H0 H locs) {v : Int32} (hdg : decode cc pc = .ok (.putfield 65, 3)) (kk : ∀ (H1 : Heap) (locs1 : List Loc), va_P (dC, dI) cls_ (wX q cA (va_up σ 36 (fun _ => v))) H1 → va_S A H0 H1 locs1 → W p l e R s m args below meth c H1 locs1 cells slots Q (F0 m (pc + 3) ls rest)) : W p l e R s m args below meth c H locs cells slots Q (F0 m pc ls (.int v :: .ref (q 22) :: rest)) :=
  va_put (D := (dC, dI)) (cl := cls_) (ci := 5) (v := .int v) (ty := .int) (ws := wX q cA σ) (tys := tyX cA) (C := Rz_M) (T := Tz_M) (N := 14) hx hb hts uz_M tz_M tz_M_ok nz_M hown hK hP hD hS 22 rfl rfl 7 (by decide) (hts _ kw_158) (fun _ h9 => h9) rfl (by decide +kernel) rfl rfl (Nat.le_of_ble_eq_true rfl) hdg (fun H1 locs1 hP _ hS => kk H1 locs1 hP hS)
end RW
def f_M_callBody (σ : MZ_) (a1 : Int32) : Option (MZ_) :=
  if 40 ≤ (σ 41 0) then st_ (va_up σ 35 (fun _ => 3)) fun σ1 => some σ1
  else if (σ 40 0) < 300 then st_ (va_up σ 41 (fun _ => (σ 41 0) + 1)) fun σ2 => st_ (va_up σ2 40 (fun _ => (σ2 40 0) + 1)) fun σ3 => (f_M_pushFrame σ3 1 (σ3 36 0)).bind fun u1 => (f_C_entry u1 a1).bind fun r2 => st_ (va_up u1 36 (fun _ => r2)) fun σ4 => some σ4
  else st_ (va_up σ 35 (fun _ => 3)) fun σ5 => some σ5
set_option maxHeartbeats 4000000 in
set_option maxRecDepth 100000 in
theorem c_M_callBody (l : Launch) (dC : Nat → ClassId) (dI : Nat → Nat → Nat) (q : Nat → Nat) (cA : Nat → ClassId) (pt : Nat) (σ : MZ_) (a1 : Int32) (u : MZ_) (h : f_M_callBody σ a1 = some u) : Met l y_M_callBody w_M_callBody rm_M_callBody (va_Pc [.ref (q 22), .int a1] (PX_ dC dI q cA pt σ)) (QW_ none (fun H => va_P (dC, dI) cls_ (wX q cA u) H) (AX q)) 0 0 (AX q) := by
  refine Met.ofW (cc := prog_5_method_20_code) (maxL := 2) (ret := none) (by decide) rfl ?_
  intro p e s m args below meth c s₁ B hml hv
  obtain ⟨rfl, hP, hK, hD, hN, hZ⟩ := hv
  have hx := B.exec
  have hb := B.bytes
  have hr := B.returns
  have hts : ∀ w ∈ AW_, w.before _ s = true := fun w h => atoms_spec (ws := w_M_callBody) B.pre w (List.mem_cons_of_mem _ h)
  have hown : s.vm.findClass "StagedParsers$Machine" = some m.cls := findClass_of_methodNamed B.named
  have hlocks := B.notSynchronized
  have hS : va_S (AX q) s.heap s.heap [] := va_S.rf
  have hl := lv_entry ([.ref (q 22), .int a1]) (n := 2) (Nat.le_of_ble_eq_true rfl)
  rw [lg_entry_eq]
  generalize (lg_sl ([.ref (q 22), .int a1]) ++ List.replicate (2 - (lg_sl ([.ref (q 22), .int a1])).length) Slot.unset).toArray = ls at hl ⊢
  have hl : lv_has ls 2 [(0, .ref (q 22)), (1, .int a1)] := hl
  rw [f_M_callBody] at h
  refine lv_aload_n hx hb d_M_callBody_0 rfl (lv_at hl 0 rfl) ?_
  refine gf_M_94 hx hb hts hown hK hP d_M_callBody_1 ?_
  refine lv_bipush (v := 40) hx hb d_M_callBody_4 (by decide) ?_
  refine lv_icmp_ge (tgt := 19) hx hb d_M_callBody_6 rfl (fun hc => ?_) (fun hc => ?_)
  · have h := if_t hc h
    refine lv_aload_n hx hb d_M_callBody_19 rfl (lv_at hl 0 rfl) ?_
    refine lv_iconst (v := 3) hx hb d_M_callBody_20 (by decide) ?_
    refine pf_M_37 hx hb hts hown hK hP hD hS d_M_callBody_21 (fun H locs hP hS => ?_)
    obtain ⟨σ1, eσ1, h⟩ := st_some h
    rw [← eσ1] at hP
    have hD : va_D (AX q) (wX q cA σ1) := dd_re (wX_f _ _ _ _) hD
    obtain rfl := Option.some.inj h
    exact W.vret hx hb hr (fun t ht hW => ⟨rfl, by rw [ht]; exact hP, hS.F ht⟩) hS.2.2 d_M_callBody_24
  · have h := if_f hc h
    refine lv_aload_n hx hb d_M_callBody_9 rfl (lv_at hl 0 rfl) ?_
    refine gf_M_91 hx hb hts hown hK hP d_M_callBody_10 ?_
    refine lv_sipush (v := 300) hx hb d_M_callBody_13 (by decide) ?_
    refine lv_icmp_lt (tgt := 25) hx hb d_M_callBody_16 rfl (fun hc => ?_) (fun hc => ?_)
    · have h := if_t hc h
      refine lv_aload_n hx hb d_M_callBody_25 rfl (lv_at hl 0 rfl) ?_
      refine lv_dup hx hb d_M_callBody_26 rfl ?_
      refine gf_M_94 hx hb hts hown hK hP d_M_callBody_27 ?_
      refine lv_iconst (v := 1) hx hb d_M_callBody_30 (by decide) ?_
      refine lv_iadd hx hb d_M_callBody_31 ?_
      refine pf_M_94 hx hb hts hown hK hP hD hS d_M_callBody_32 (fun H locs hP hS => ?_)
      obtain ⟨σ2, eσ2, h⟩ := st_some h
      rw [← eσ2] at hP
      have hD : va_D (AX q) (wX q cA σ2) := dd_re (wX_f _ _ _ _) hD
      refine lv_aload_n hx hb d_M_callBody_35 rfl (lv_at hl 0 rfl) ?_
      refine lv_dup hx hb d_M_callBody_36 rfl ?_
      refine gf_M_91 hx hb hts hown hK hP d_M_callBody_37 ?_
      refine lv_iconst (v := 1) hx hb d_M_callBody_40 (by decide) ?_
      refine lv_iadd hx hb d_M_callBody_41 ?_
      refine pf_M_91 hx hb hts hown hK hP hD hS d_M_callBody_42 (fun H locs hP hS => ?_)
      obtain ⟨σ3, eσ3, h⟩ := st_some h
      rw [← eσ3] at hP
      have hD : va_D (AX q) (wX q cA σ3) := dd_re (wX_f _ _ _ _) hD
      refine lv_aload_n hx hb d_M_callBody_45 rfl (lv_at hl 0 rfl) ?_
      refine lv_iconst (v := 1) hx hb d_M_callBody_46 (by decide) ?_
      refine lv_aload_n hx hb d_M_callBody_47 rfl (lv_at hl 0 rfl) ?_
      refine gf_M_65 hx hb hts hown hK hP d_M_callBody_48 ?_
      obtain ⟨u1, hcl, h⟩ := bd_some h
      refine cx_wrv (va_runV (As := [.int 1, .int (σ3 36 0)]) (rest := []) ⟨hx, hb, hml, hown, hts⟩ (c_M_pushFrame l dC dI q cA pt σ3 1 (σ3 36 0) _ hcl) (cw_M_107 hts ⟨Nat.le_of_ble_eq_true rfl, Nat.le_of_ble_eq_true rfl⟩) ⟨pxX_B, va_recv hK hP (ci := 5) (q0 := 22) rfl rfl, pxX_U hP hK hD hN hZ hS⟩ rfl rfl hl.1 rfl (lv_room (Nat.le_of_ble_eq_true rfl)) d_M_callBody_51 ⟨Nat.zero_le _, Nat.zero_le _⟩) hS (fun _ h => h) (fun H locs hP hS => ?_)
      have hD : va_D (AX q) (wX q cA u1) := dd_re (wX_f _ _ _ _) hD
      refine lv_aload_n hx hb d_M_callBody_54 rfl (lv_at hl 0 rfl) ?_
      refine lv_aload_n hx hb d_M_callBody_55 rfl (lv_at hl 0 rfl) ?_
      refine gf_M_25 hx hb hts hown hK hP d_M_callBody_56 ?_
      refine lv_iload_n hx hb d_M_callBody_59 rfl (lv_at hl 1 rfl) ?_
      obtain ⟨r2, hcl, h⟩ := bd_some h
      refine cx_read (va_runV (As := [.int a1]) (rest := [.ref (q 22)]) ⟨hx, hb, hml, hown, hts⟩ (c_C_entry l dC dI q cA pt u1 a1 _ hcl) (cw_M_166 hts ⟨Nat.le_of_ble_eq_true rfl, Nat.le_of_ble_eq_true rfl⟩) ⟨pxX_B, va_recv hK hP (ci := 3) (q0 := 14) rfl rfl, pxX_U hP hK hD hN hZ hS⟩ rfl rfl hl.1 rfl (lv_room (Nat.le_of_ble_eq_true rfl)) d_M_callBody_60 ⟨Nat.zero_le _, Nat.zero_le _⟩) ?_
      refine pf_M_65 hx hb hts hown hK hP hD hS d_M_callBody_63 (fun H locs hP hS => ?_)
      obtain ⟨σ4, eσ4, h⟩ := st_some h
      rw [← eσ4] at hP
      have hD : va_D (AX q) (wX q cA σ4) := dd_re (wX_f _ _ _ _) hD
      obtain rfl := Option.some.inj h
      exact W.vret hx hb hr (fun t ht hW => ⟨rfl, by rw [ht]; exact hP, hS.F ht⟩) hS.2.2 d_M_callBody_66
    · have h := if_f hc h
      refine lv_aload_n hx hb d_M_callBody_19 rfl (lv_at hl 0 rfl) ?_
      refine lv_iconst (v := 3) hx hb d_M_callBody_20 (by decide) ?_
      refine pf_M_37 hx hb hts hown hK hP hD hS d_M_callBody_21 (fun H locs hP hS => ?_)
      obtain ⟨σ5, eσ5, h⟩ := st_some h
      rw [← eσ5] at hP
      have hD : va_D (AX q) (wX q cA σ5) := dd_re (wX_f _ _ _ _) hD
      obtain rfl := Option.some.inj h
      exact W.vret hx hb hr (fun t ht hW => ⟨rfl, by rw [ht]; exact hP, hS.F ht⟩) hS.2.2 d_M_callBody_24
def y_M_dropFrame : MethodName := ⟨"StagedParsers$Machine", "dropFrame", "()V"⟩
def w_M_dropFrame : List Cond := .code y_M_dropFrame prog_5_method_22_code 1 none :: AW_
def rm_M_dropFrame : Room := { frames := 1, cells := 0, slots := 0, locals := 20 }
theorem d_M_dropFrame_0 : decode prog_5_method_22_code 0 = .ok (.aload_n 0, 1) := by decide +kernel
theorem d_M_dropFrame_1 : decode prog_5_method_22_code 1 = .ok (.getfield 12, 3) := by decide +kernel
theorem d_M_dropFrame_4 : decode prog_5_method_22_code 4 = .ok (.invokevirtual 175, 3) := by decide +kernel
theorem d_M_dropFrame_7 : decode prog_5_method_22_code 7 = .ok (.iconst 1, 1) := by decide +kernel
theorem d_M_dropFrame_8 : decode prog_5_method_22_code 8 = .ok (.if_icmp .ne 13, 3) := by decide +kernel
theorem d_M_dropFrame_11 : decode prog_5_method_22_code 11 = .ok (.aload_n 0, 1) := by decide +kernel
theorem d_M_dropFrame_12 : decode prog_5_method_22_code 12 = .ok (.dup, 1) := by decide +kernel
theorem d_M_dropFrame_13 : decode prog_5_method_22_code 13 = .ok (.getfield 94, 3) := by decide +kernel
theorem d_M_dropFrame_16 : decode prog_5_method_22_code 16 = .ok (.iconst 1, 1) := by decide +kernel
theorem d_M_dropFrame_17 : decode prog_5_method_22_code 17 = .ok (.isub, 1) := by decide +kernel
theorem d_M_dropFrame_18 : decode prog_5_method_22_code 18 = .ok (.putfield 94, 3) := by decide +kernel
theorem d_M_dropFrame_21 : decode prog_5_method_22_code 21 = .ok (.aload_n 0, 1) := by decide +kernel
theorem d_M_dropFrame_22 : decode prog_5_method_22_code 22 = .ok (.getfield 12, 3) := by decide +kernel
theorem d_M_dropFrame_25 : decode prog_5_method_22_code 25 = .ok (.invokevirtual 120, 3) := by decide +kernel
theorem d_M_dropFrame_28 : decode prog_5_method_22_code 28 = .ok (.return_, 1) := by decide +kernel
section RW
variable {p : Program} {l : Launch} {e : Env} {R : Room} {s : State} {m : MethodId} {args : Array Value} {below : List Frame} {meth : Method} {c : Code} {H : Heap} {locs : List Loc} {cells slots : Nat} {Q : State → Prop}
variable {cc : ByteArray} {pc : Nat} {ls : Array Slot} {rest : List Value} {dC : Nat → ClassId} {dI : Nat → Nat → Nat} {q : Nat → Nat} {cA : Nat → ClassId} {σ : MZ_} {H0 : Heap} {A : Nat → Prop}

theorem cw_M_175 (hts : ∀ w ∈ AW_, w.before args s = true) (hR : rm_F_manner.frames + 1 ≤ R.frames ∧ 8 + (1 + 11) + rm_F_manner.locals ≤ R.locals) : CallW R s args "StagedParsers$Machine" "StagedParsers$Frames" 175 y_F_manner prog_3_method_8_code 1 (some .int) w_F_manner rm_F_manner 0 0 0 :=
  ⟨callB_of 0 hts (aw_in kw_708) rfl rfl rfl (hts _ kw_8) (hts _ kw_705) ⟨by decide, by decide, by decide +kernel⟩ hR, hts _ kw_706, hts _ kw_707⟩
theorem cw_M_120 (hts : ∀ w ∈ AW_, w.before args s = true) (hR : rm_F_pop.frames + 1 ≤ R.frames ∧ 8 + (1 + 11) + rm_F_pop.locals ≤ R.locals) : CallW R s args "StagedParsers$Machine" "StagedParsers$Frames" 120 y_F_pop prog_3_method_6_code 1 none w_F_pop rm_F_pop 0 0 0 :=
  ⟨callB_of 0 hts (aw_in kw_731) rfl rfl rfl (hts _ kw_8) (hts _ kw_728) ⟨by decide, by decide, by decide +kernel⟩ hR, hts _ kw_729, hts _ kw_730⟩
end RW
def f_M_dropFrame (σ : MZ_) : Option (MZ_) :=
  (f_F_manner σ).bind fun r1 => if r1 = 1 then st_ (va_up σ 41 (fun _ => (σ 41 0) - 1)) fun σ1 => (f_F_pop σ1).bind fun u3 => some u3
  else (f_F_pop σ).bind fun u2 => some u2
set_option maxHeartbeats 4000000 in
set_option maxRecDepth 100000 in
theorem c_M_dropFrame (l : Launch) (dC : Nat → ClassId) (dI : Nat → Nat → Nat) (q : Nat → Nat) (cA : Nat → ClassId) (pt : Nat) (σ : MZ_) (u : MZ_) (h : f_M_dropFrame σ = some u) : Met l y_M_dropFrame w_M_dropFrame rm_M_dropFrame (va_Pc [.ref (q 22)] (PX_ dC dI q cA pt σ)) (QW_ none (fun H => va_P (dC, dI) cls_ (wX q cA u) H) (AX q)) 0 0 (AX q) := by
  refine Met.ofW (cc := prog_5_method_22_code) (maxL := 1) (ret := none) (by decide) rfl ?_
  intro p e s m args below meth c s₁ B hml hv
  obtain ⟨rfl, hP, hK, hD, hN, hZ⟩ := hv
  have hx := B.exec
  have hb := B.bytes
  have hr := B.returns
  have hts : ∀ w ∈ AW_, w.before _ s = true := fun w h => atoms_spec (ws := w_M_dropFrame) B.pre w (List.mem_cons_of_mem _ h)
  have hown : s.vm.findClass "StagedParsers$Machine" = some m.cls := findClass_of_methodNamed B.named
  have hlocks := B.notSynchronized
  have hS : va_S (AX q) s.heap s.heap [] := va_S.rf
  have hl := lv_entry ([.ref (q 22)]) (n := 1) (Nat.le_of_ble_eq_true rfl)
  rw [lg_entry_eq]
  generalize (lg_sl ([.ref (q 22)]) ++ List.replicate (1 - (lg_sl ([.ref (q 22)])).length) Slot.unset).toArray = ls at hl ⊢
  have hl : lv_has ls 1 [(0, .ref (q 22))] := hl
  rw [f_M_dropFrame] at h
  refine lv_aload_n hx hb d_M_dropFrame_0 rfl (lv_at hl 0 rfl) ?_
  refine gf_M_12 hx hb hts hown hK hP d_M_dropFrame_1 ?_
  obtain ⟨r1, hcl, h⟩ := bd_some h
  refine cx_read (va_runV (As := []) (rest := []) ⟨hx, hb, hml, hown, hts⟩ (c_F_manner l dC dI q cA pt σ _ hcl) (cw_M_175 hts ⟨Nat.le_of_ble_eq_true rfl, Nat.le_of_ble_eq_true rfl⟩) ⟨pxX_B, va_recv hK hP (ci := 6) (q0 := 25) rfl rfl, pxX_U hP hK hD hN hZ hS⟩ rfl rfl hl.1 rfl (lv_room (Nat.le_of_ble_eq_true rfl)) d_M_dropFrame_4 ⟨Nat.zero_le _, Nat.zero_le _⟩) ?_
  refine lv_iconst (v := 1) hx hb d_M_dropFrame_7 (by decide) ?_
  refine lv_icmp_ne (tgt := 21) hx hb d_M_dropFrame_8 rfl (fun hc => ?_) (fun hc => ?_)
  · have h := if_f hc h
    refine lv_aload_n hx hb d_M_dropFrame_21 rfl (lv_at hl 0 rfl) ?_
    refine gf_M_12 hx hb hts hown hK hP d_M_dropFrame_22 ?_
    obtain ⟨u2, hcl, h⟩ := bd_some h
    refine cx_wrv (va_runV (As := []) (rest := []) ⟨hx, hb, hml, hown, hts⟩ (c_F_pop l dC dI q cA pt σ _ hcl) (cw_M_120 hts ⟨Nat.le_of_ble_eq_true rfl, Nat.le_of_ble_eq_true rfl⟩) ⟨pxX_B, va_recv hK hP (ci := 6) (q0 := 25) rfl rfl, pxX_U hP hK hD hN hZ hS⟩ rfl rfl hl.1 rfl (lv_room (Nat.le_of_ble_eq_true rfl)) d_M_dropFrame_25 ⟨Nat.zero_le _, Nat.zero_le _⟩) hS (fun _ h => h) (fun H locs hP hS => ?_)
    have hD : va_D (AX q) (wX q cA u2) := dd_re (wX_f _ _ _ _) hD
    obtain rfl := Option.some.inj h
    exact W.vret hx hb hr (fun t ht hW => ⟨rfl, by rw [ht]; exact hP, hS.F ht⟩) hS.2.2 d_M_dropFrame_28
  · have h := if_t hc h
    refine lv_aload_n hx hb d_M_dropFrame_11 rfl (lv_at hl 0 rfl) ?_
    refine lv_dup hx hb d_M_dropFrame_12 rfl ?_
    refine gf_M_94 hx hb hts hown hK hP d_M_dropFrame_13 ?_
    refine lv_iconst (v := 1) hx hb d_M_dropFrame_16 (by decide) ?_
    refine lv_isub hx hb d_M_dropFrame_17 ?_
    refine pf_M_94 hx hb hts hown hK hP hD hS d_M_dropFrame_18 (fun H locs hP hS => ?_)
    obtain ⟨σ1, eσ1, h⟩ := st_some h
    rw [← eσ1] at hP
    have hD : va_D (AX q) (wX q cA σ1) := dd_re (wX_f _ _ _ _) hD
    refine lv_aload_n hx hb d_M_dropFrame_21 rfl (lv_at hl 0 rfl) ?_
    refine gf_M_12 hx hb hts hown hK hP d_M_dropFrame_22 ?_
    obtain ⟨u3, hcl, h⟩ := bd_some h
    refine cx_wrv (va_runV (As := []) (rest := []) ⟨hx, hb, hml, hown, hts⟩ (c_F_pop l dC dI q cA pt σ1 _ hcl) (cw_M_120 hts ⟨Nat.le_of_ble_eq_true rfl, Nat.le_of_ble_eq_true rfl⟩) ⟨pxX_B, va_recv hK hP (ci := 6) (q0 := 25) rfl rfl, pxX_U hP hK hD hN hZ hS⟩ rfl rfl hl.1 rfl (lv_room (Nat.le_of_ble_eq_true rfl)) d_M_dropFrame_25 ⟨Nat.zero_le _, Nat.zero_le _⟩) hS (fun _ h => h) (fun H locs hP hS => ?_)
    have hD : va_D (AX q) (wX q cA u3) := dd_re (wX_f _ _ _ _) hD
    obtain rfl := Option.some.inj h
    exact W.vret hx hb hr (fun t ht hW => ⟨rfl, by rw [ht]; exact hP, hS.F ht⟩) hS.2.2 d_M_dropFrame_28
def y_M_goBack : MethodName := ⟨"StagedParsers$Machine", "goBack", "()V"⟩
def w_M_goBack : List Cond := .code y_M_goBack prog_5_method_21_code 1 none :: AW_
def rm_M_goBack : Room := { frames := 2, cells := 0, slots := 0, locals := 40 }
theorem d_M_goBack_0 : decode prog_5_method_21_code 0 = .ok (.aload_n 0, 1) := by decide +kernel
theorem d_M_goBack_1 : decode prog_5_method_21_code 1 = .ok (.aload_n 0, 1) := by decide +kernel
theorem d_M_goBack_2 : decode prog_5_method_21_code 2 = .ok (.getfield 12, 3) := by decide +kernel
theorem d_M_goBack_5 : decode prog_5_method_21_code 5 = .ok (.invokevirtual 169, 3) := by decide +kernel
theorem d_M_goBack_8 : decode prog_5_method_21_code 8 = .ok (.putfield 65, 3) := by decide +kernel
theorem d_M_goBack_11 : decode prog_5_method_21_code 11 = .ok (.aload_n 0, 1) := by decide +kernel
theorem d_M_goBack_12 : decode prog_5_method_21_code 12 = .ok (.invokevirtual 172, 3) := by decide +kernel
theorem d_M_goBack_15 : decode prog_5_method_21_code 15 = .ok (.return_, 1) := by decide +kernel
section RW
variable {p : Program} {l : Launch} {e : Env} {R : Room} {s : State} {m : MethodId} {args : Array Value} {below : List Frame} {meth : Method} {c : Code} {H : Heap} {locs : List Loc} {cells slots : Nat} {Q : State → Prop}
variable {cc : ByteArray} {pc : Nat} {ls : Array Slot} {rest : List Value} {dC : Nat → ClassId} {dI : Nat → Nat → Nat} {q : Nat → Nat} {cA : Nat → ClassId} {σ : MZ_} {H0 : Heap} {A : Nat → Prop}

theorem cw_M_169 (hts : ∀ w ∈ AW_, w.before args s = true) (hR : rm_F_target.frames + 1 ≤ R.frames ∧ 8 + (1 + 11) + rm_F_target.locals ≤ R.locals) : CallW R s args "StagedParsers$Machine" "StagedParsers$Frames" 169 y_F_target prog_3_method_9_code 1 (some .int) w_F_target rm_F_target 0 0 0 :=
  ⟨callB_of 0 hts (aw_in kw_727) rfl rfl rfl (hts _ kw_8) (hts _ kw_724) ⟨by decide, by decide, by decide +kernel⟩ hR, hts _ kw_725, hts _ kw_726⟩
theorem cw_M_172 (hts : ∀ w ∈ AW_, w.before args s = true) (hR : rm_M_dropFrame.frames + 1 ≤ R.frames ∧ 8 + (1 + 11) + rm_M_dropFrame.locals ≤ R.locals) : CallW R s args "StagedParsers$Machine" "StagedParsers$Machine" 172 y_M_dropFrame prog_5_method_22_code 1 none w_M_dropFrame rm_M_dropFrame 0 0 0 :=
  ⟨callB_of 0 hts (aw_in kw_735) rfl rfl rfl (hts _ kw_7) (hts _ kw_732) ⟨by decide, by decide, by decide +kernel⟩ hR, hts _ kw_734, hts _ ks_34⟩
end RW
def f_M_goBack (σ : MZ_) : Option (MZ_) :=
  (f_F_target σ).bind fun r1 => st_ (va_up σ 36 (fun _ => r1)) fun σ1 => (f_M_dropFrame σ1).bind fun u2 => some u2
set_option maxHeartbeats 4000000 in
set_option maxRecDepth 100000 in
theorem c_M_goBack (l : Launch) (dC : Nat → ClassId) (dI : Nat → Nat → Nat) (q : Nat → Nat) (cA : Nat → ClassId) (pt : Nat) (σ : MZ_) (u : MZ_) (h : f_M_goBack σ = some u) : Met l y_M_goBack w_M_goBack rm_M_goBack (va_Pc [.ref (q 22)] (PX_ dC dI q cA pt σ)) (QW_ none (fun H => va_P (dC, dI) cls_ (wX q cA u) H) (AX q)) 0 0 (AX q) := by
  refine Met.ofW (cc := prog_5_method_21_code) (maxL := 1) (ret := none) (by decide) rfl ?_
  intro p e s m args below meth c s₁ B hml hv
  obtain ⟨rfl, hP, hK, hD, hN, hZ⟩ := hv
  have hx := B.exec
  have hb := B.bytes
  have hr := B.returns
  have hts : ∀ w ∈ AW_, w.before _ s = true := fun w h => atoms_spec (ws := w_M_goBack) B.pre w (List.mem_cons_of_mem _ h)
  have hown : s.vm.findClass "StagedParsers$Machine" = some m.cls := findClass_of_methodNamed B.named
  have hlocks := B.notSynchronized
  have hS : va_S (AX q) s.heap s.heap [] := va_S.rf
  have hl := lv_entry ([.ref (q 22)]) (n := 1) (Nat.le_of_ble_eq_true rfl)
  rw [lg_entry_eq]
  generalize (lg_sl ([.ref (q 22)]) ++ List.replicate (1 - (lg_sl ([.ref (q 22)])).length) Slot.unset).toArray = ls at hl ⊢
  have hl : lv_has ls 1 [(0, .ref (q 22))] := hl
  rw [f_M_goBack] at h
  refine lv_aload_n hx hb d_M_goBack_0 rfl (lv_at hl 0 rfl) ?_
  refine lv_aload_n hx hb d_M_goBack_1 rfl (lv_at hl 0 rfl) ?_
  refine gf_M_12 hx hb hts hown hK hP d_M_goBack_2 ?_
  obtain ⟨r1, hcl, h⟩ := bd_some h
  refine cx_read (va_runV (As := []) (rest := [.ref (q 22)]) ⟨hx, hb, hml, hown, hts⟩ (c_F_target l dC dI q cA pt σ _ hcl) (cw_M_169 hts ⟨Nat.le_of_ble_eq_true rfl, Nat.le_of_ble_eq_true rfl⟩) ⟨pxX_B, va_recv hK hP (ci := 6) (q0 := 25) rfl rfl, pxX_U hP hK hD hN hZ hS⟩ rfl rfl hl.1 rfl (lv_room (Nat.le_of_ble_eq_true rfl)) d_M_goBack_5 ⟨Nat.zero_le _, Nat.zero_le _⟩) ?_
  refine pf_M_65 hx hb hts hown hK hP hD hS d_M_goBack_8 (fun H locs hP hS => ?_)
  obtain ⟨σ1, eσ1, h⟩ := st_some h
  rw [← eσ1] at hP
  have hD : va_D (AX q) (wX q cA σ1) := dd_re (wX_f _ _ _ _) hD
  refine lv_aload_n hx hb d_M_goBack_11 rfl (lv_at hl 0 rfl) ?_
  obtain ⟨u2, hcl, h⟩ := bd_some h
  refine cx_wrv (va_runV (As := []) (rest := []) ⟨hx, hb, hml, hown, hts⟩ (c_M_dropFrame l dC dI q cA pt σ1 _ hcl) (cw_M_172 hts ⟨Nat.le_of_ble_eq_true rfl, Nat.le_of_ble_eq_true rfl⟩) ⟨pxX_B, va_recv hK hP (ci := 5) (q0 := 22) rfl rfl, pxX_U hP hK hD hN hZ hS⟩ rfl rfl hl.1 rfl (lv_room (Nat.le_of_ble_eq_true rfl)) d_M_goBack_12 ⟨Nat.zero_le _, Nat.zero_le _⟩) hS (fun _ h => h) (fun H locs hP hS => ?_)
  have hD : va_D (AX q) (wX q cA u2) := dd_re (wX_f _ _ _ _) hD
  obtain rfl := Option.some.inj h
  exact W.vret hx hb hr (fun t ht hW => ⟨rfl, by rw [ht]; exact hP, hS.F ht⟩) hS.2.2 d_M_goBack_15
def y_M_stops : MethodName := ⟨"StagedParsers$Machine", "stops", "(I)Z"⟩
def w_M_stops : List Cond := .code y_M_stops prog_5_method_24_code 2 (some .boolean) :: AW_
def rm_M_stops : Room := { frames := 1, cells := 0, slots := 0, locals := 20 }
theorem d_M_stops_0 : decode prog_5_method_24_code 0 = .ok (.aload_n 0, 1) := by decide +kernel
theorem d_M_stops_1 : decode prog_5_method_24_code 1 = .ok (.getfield 12, 3) := by decide +kernel
theorem d_M_stops_4 : decode prog_5_method_24_code 4 = .ok (.invokevirtual 175, 3) := by decide +kernel
theorem d_M_stops_7 : decode prog_5_method_24_code 7 = .ok (.lookupswitch 44 #[(2, 27), (5, 25)], 25) := by decide +kernel
theorem d_M_stops_32 : decode prog_5_method_24_code 32 = .ok (.iconst 1, 1) := by decide +kernel
theorem d_M_stops_33 : decode prog_5_method_24_code 33 = .ok (.ireturn, 1) := by decide +kernel
theorem d_M_stops_34 : decode prog_5_method_24_code 34 = .ok (.iload_n 1, 1) := by decide +kernel
theorem d_M_stops_35 : decode prog_5_method_24_code 35 = .ok (.aload_n 0, 1) := by decide +kernel
theorem d_M_stops_36 : decode prog_5_method_24_code 36 = .ok (.getfield 12, 3) := by decide +kernel
theorem d_M_stops_39 : decode prog_5_method_24_code 39 = .ok (.invokevirtual 123, 3) := by decide +kernel
theorem d_M_stops_42 : decode prog_5_method_24_code 42 = .ok (.if_icmp .ne 7, 3) := by decide +kernel
theorem d_M_stops_45 : decode prog_5_method_24_code 45 = .ok (.iconst 1, 1) := by decide +kernel
theorem d_M_stops_46 : decode prog_5_method_24_code 46 = .ok (.goto 4, 3) := by decide +kernel
theorem d_M_stops_49 : decode prog_5_method_24_code 49 = .ok (.iconst 0, 1) := by decide +kernel
theorem d_M_stops_50 : decode prog_5_method_24_code 50 = .ok (.ireturn, 1) := by decide +kernel
theorem d_M_stops_51 : decode prog_5_method_24_code 51 = .ok (.iconst 0, 1) := by decide +kernel
theorem d_M_stops_52 : decode prog_5_method_24_code 52 = .ok (.ireturn, 1) := by decide +kernel
section RW
variable {p : Program} {l : Launch} {e : Env} {R : Room} {s : State} {m : MethodId} {args : Array Value} {below : List Frame} {meth : Method} {c : Code} {H : Heap} {locs : List Loc} {cells slots : Nat} {Q : State → Prop}
variable {cc : ByteArray} {pc : Nat} {ls : Array Slot} {rest : List Value} {dC : Nat → ClassId} {dI : Nat → Nat → Nat} {q : Nat → Nat} {cA : Nat → ClassId} {σ : MZ_} {H0 : Heap} {A : Nat → Prop}

theorem cw_M_123 (hts : ∀ w ∈ AW_, w.before args s = true) (hR : rm_F_place.frames + 1 ≤ R.frames ∧ 8 + (1 + 11) + rm_F_place.locals ≤ R.locals) : CallW R s args "StagedParsers$Machine" "StagedParsers$Frames" 123 y_F_place prog_3_method_10_code 1 (some .int) w_F_place rm_F_place 0 0 0 :=
  ⟨callB_of 0 hts (aw_in kw_712) rfl rfl rfl (hts _ kw_8) (hts _ kw_709) ⟨by decide, by decide, by decide +kernel⟩ hR, hts _ kw_710, hts _ kw_711⟩
end RW
def f_M_stops (σ : MZ_) (a1 : Int32) : Option (Int32) :=
  (f_F_manner σ).bind fun r1 => if r1 = 2 then (f_F_place σ).bind fun r2 => if a1 = r2 then some 1
    else some 0
  else if r1 = 5 then some 1
  else some 0
set_option maxHeartbeats 4000000 in
set_option maxRecDepth 100000 in
theorem c_M_stops (l : Launch) (dC : Nat → ClassId) (dI : Nat → Nat → Nat) (q : Nat → Nat) (cA : Nat → ClassId) (pt : Nat) (σ : MZ_) (a1 : Int32) (u : Int32) (h : f_M_stops σ a1 = some u) : Met l y_M_stops w_M_stops rm_M_stops (va_Pc [.ref (q 22), .int a1] (PX_ dC dI q cA pt σ)) (QcRead u) 0 0 (fun _ => False) := by
  refine Met.ofW (cc := prog_5_method_24_code) (maxL := 2) (ret := (some .boolean)) (by decide) rfl ?_
  intro p e s m args below meth c s₁ B hml hv
  obtain ⟨rfl, hP, hK, hD, hN, hZ⟩ := hv
  have hx := B.exec
  have hb := B.bytes
  have hr := B.returns
  have hts : ∀ w ∈ AW_, w.before _ s = true := fun w h => atoms_spec (ws := w_M_stops) B.pre w (List.mem_cons_of_mem _ h)
  have hown : s.vm.findClass "StagedParsers$Machine" = some m.cls := findClass_of_methodNamed B.named
  have hlocks := B.notSynchronized
  have hS : va_S (AX q) s.heap s.heap [] := va_S.rf
  have hl := lv_entry ([.ref (q 22), .int a1]) (n := 2) (Nat.le_of_ble_eq_true rfl)
  rw [lg_entry_eq]
  generalize (lg_sl ([.ref (q 22), .int a1]) ++ List.replicate (2 - (lg_sl ([.ref (q 22), .int a1])).length) Slot.unset).toArray = ls at hl ⊢
  have hl : lv_has ls 2 [(0, .ref (q 22)), (1, .int a1)] := hl
  rw [f_M_stops] at h
  refine lv_aload_n hx hb d_M_stops_0 rfl (lv_at hl 0 rfl) ?_
  refine gf_M_12 hx hb hts hown hK hP d_M_stops_1 ?_
  obtain ⟨r1, hcl, h⟩ := bd_some h
  refine cx_read (va_runV (As := []) (rest := []) ⟨hx, hb, hml, hown, hts⟩ (c_F_manner l dC dI q cA pt σ _ hcl) (cw_M_175 hts ⟨Nat.le_of_ble_eq_true rfl, Nat.le_of_ble_eq_true rfl⟩) ⟨pxX_B, va_recv hK hP (ci := 6) (q0 := 25) rfl rfl, pxX_U hP hK hD hN hZ hS⟩ rfl rfl hl.1 rfl (lv_room (Nat.le_of_ble_eq_true rfl)) d_M_stops_4 ⟨Nat.zero_le _, Nat.zero_le _⟩) ?_
  by_cases hc0 : r1 = 2
  · have h := if_t hc0 h
    refine sw_lk (tgt := 34) hx hb d_M_stops_7 rfl hc0 rfl rfl ?_
    refine lv_iload_n hx hb d_M_stops_34 rfl (lv_at hl 1 rfl) ?_
    refine lv_aload_n hx hb d_M_stops_35 rfl (lv_at hl 0 rfl) ?_
    refine gf_M_12 hx hb hts hown hK hP d_M_stops_36 ?_
    obtain ⟨r2, hcl, h⟩ := bd_some h
    refine cx_read (va_runV (As := []) (rest := [.int a1]) ⟨hx, hb, hml, hown, hts⟩ (c_F_place l dC dI q cA pt σ _ hcl) (cw_M_123 hts ⟨Nat.le_of_ble_eq_true rfl, Nat.le_of_ble_eq_true rfl⟩) ⟨pxX_B, va_recv hK hP (ci := 6) (q0 := 25) rfl rfl, pxX_U hP hK hD hN hZ hS⟩ rfl rfl hl.1 rfl (lv_room (Nat.le_of_ble_eq_true rfl)) d_M_stops_39 ⟨Nat.zero_le _, Nat.zero_le _⟩) ?_
    refine lv_icmp_ne (tgt := 49) hx hb d_M_stops_42 rfl (fun hc => ?_) (fun hc => ?_)
    · have h := if_f hc h
      refine lv_iconst (v := 0) hx hb d_M_stops_49 (by decide) ?_
      obtain rfl := Option.some.inj h
      exact W.zret hx hb hr rfl (fun t ht hW => ⟨rfl, ht⟩) (fun _ h9 => nomatch h9) d_M_stops_50
    · have h := if_t hc h
      refine lv_iconst (v := 1) hx hb d_M_stops_45 (by decide) ?_
      refine lv_goto (tgt := 50) hx hb d_M_stops_46 rfl ?_
      obtain rfl := Option.some.inj h
      exact W.zret hx hb hr rfl (fun t ht hW => ⟨rfl, ht⟩) (fun _ h9 => nomatch h9) d_M_stops_50
  have h := if_f hc0 h
  by_cases hc1 : r1 = 5
  · have h := if_t hc1 h
    refine sw_lk (tgt := 32) hx hb d_M_stops_7 rfl hc1 rfl rfl ?_
    refine lv_iconst (v := 1) hx hb d_M_stops_32 (by decide) ?_
    obtain rfl := Option.some.inj h
    exact W.zret hx hb hr rfl (fun t ht hW => ⟨rfl, ht⟩) (fun _ h9 => nomatch h9) d_M_stops_33
  have h := if_f hc1 h
  refine lv_lookup (tgt := 51) hx hb d_M_stops_7 rfl ((lv_osw hc0 (by decide)).trans ((lv_osw hc1 (by decide)).trans rfl)) rfl ?_
  refine lv_iconst (v := 0) hx hb d_M_stops_51 (by decide) ?_
  obtain rfl := Option.some.inj h
  exact W.zret hx hb hr rfl (fun t ht hW => ⟨rfl, ht⟩) (fun _ h9 => nomatch h9) d_M_stops_52
def y_M_goOnFromGuard : MethodName := ⟨"StagedParsers$Machine", "goOnFromGuard", "()V"⟩
def w_M_goOnFromGuard : List Cond := .code y_M_goOnFromGuard prog_5_method_25_code 1 none :: AW_
def rm_M_goOnFromGuard : Room := { frames := 1, cells := 0, slots := 0, locals := 21 }
theorem d_M_goOnFromGuard_0 : decode prog_5_method_25_code 0 = .ok (.aload_n 0, 1) := by decide +kernel
theorem d_M_goOnFromGuard_1 : decode prog_5_method_25_code 1 = .ok (.aload_n 0, 1) := by decide +kernel
theorem d_M_goOnFromGuard_2 : decode prog_5_method_25_code 2 = .ok (.getfield 12, 3) := by decide +kernel
theorem d_M_goOnFromGuard_5 : decode prog_5_method_25_code 5 = .ok (.invokevirtual 123, 3) := by decide +kernel
theorem d_M_goOnFromGuard_8 : decode prog_5_method_25_code 8 = .ok (.putfield 41, 3) := by decide +kernel
theorem d_M_goOnFromGuard_11 : decode prog_5_method_25_code 11 = .ok (.aload_n 0, 1) := by decide +kernel
theorem d_M_goOnFromGuard_12 : decode prog_5_method_25_code 12 = .ok (.aload_n 0, 1) := by decide +kernel
theorem d_M_goOnFromGuard_13 : decode prog_5_method_25_code 13 = .ok (.getfield 54, 3) := by decide +kernel
theorem d_M_goOnFromGuard_16 : decode prog_5_method_25_code 16 = .ok (.aload_n 0, 1) := by decide +kernel
theorem d_M_goOnFromGuard_17 : decode prog_5_method_25_code 17 = .ok (.getfield 12, 3) := by decide +kernel
theorem d_M_goOnFromGuard_20 : decode prog_5_method_25_code 20 = .ok (.invokevirtual 187, 3) := by decide +kernel
theorem d_M_goOnFromGuard_23 : decode prog_5_method_25_code 23 = .ok (.invokestatic 190, 3) := by decide +kernel
theorem d_M_goOnFromGuard_26 : decode prog_5_method_25_code 26 = .ok (.putfield 54, 3) := by decide +kernel
theorem d_M_goOnFromGuard_29 : decode prog_5_method_25_code 29 = .ok (.aload_n 0, 1) := by decide +kernel
theorem d_M_goOnFromGuard_30 : decode prog_5_method_25_code 30 = .ok (.aload_n 0, 1) := by decide +kernel
theorem d_M_goOnFromGuard_31 : decode prog_5_method_25_code 31 = .ok (.getfield 12, 3) := by decide +kernel
theorem d_M_goOnFromGuard_34 : decode prog_5_method_25_code 34 = .ok (.invokevirtual 169, 3) := by decide +kernel
theorem d_M_goOnFromGuard_37 : decode prog_5_method_25_code 37 = .ok (.putfield 65, 3) := by decide +kernel
theorem d_M_goOnFromGuard_40 : decode prog_5_method_25_code 40 = .ok (.aload_n 0, 1) := by decide +kernel
theorem d_M_goOnFromGuard_41 : decode prog_5_method_25_code 41 = .ok (.getfield 12, 3) := by decide +kernel
theorem d_M_goOnFromGuard_44 : decode prog_5_method_25_code 44 = .ok (.invokevirtual 120, 3) := by decide +kernel
theorem d_M_goOnFromGuard_47 : decode prog_5_method_25_code 47 = .ok (.return_, 1) := by decide +kernel
section RW
variable {p : Program} {l : Launch} {e : Env} {R : Room} {s : State} {m : MethodId} {args : Array Value} {below : List Frame} {meth : Method} {c : Code} {H : Heap} {locs : List Loc} {cells slots : Nat} {Q : State → Prop}
variable {cc : ByteArray} {pc : Nat} {ls : Array Slot} {rest : List Value} {dC : Nat → ClassId} {dI : Nat → Nat → Nat} {q : Nat → Nat} {cA : Nat → ClassId} {σ : MZ_} {H0 : Heap} {A : Nat → Prop}

theorem pf_M_41 (hx : p.tables.exec = Jvm.exec) (hb : c.code = cc) (hts : ∀ w ∈ AW_, w.before args s = true) (hown : s.vm.findClass "StagedParsers$Machine" = some m.cls) (hK : va_K (dC, dI) cls_ (tyX cA) s) (hP : va_P (dC, dI) cls_ (wX q cA σ) H) (hD : va_D A (wX q cA σ)) (hS : va_S A H0 H locs) {v : Int32} (hdg : decode cc pc = .ok (.putfield 41, 3)) (kk : ∀ (H1 : Heap) (locs1 : List Loc), va_P (dC, dI) cls_ (wX q cA (va_up σ 37 (fun _ => v))) H1 → va_S A H0 H1 locs1 → W p l e R s m args below meth c H1 locs1 cells slots Q (F0 m (pc + 3) ls rest)) : W p l e R s m args below meth c H locs cells slots Q (F0 m pc ls (.int v :: .ref (q 22) :: rest)) :=
  va_put (D := (dC, dI)) (cl := cls_) (ci := 5) (v := .int v) (ty := .int) (ws := wX q cA σ) (tys := tyX cA) (C := Rz_M) (T := Tz_M) (N := 14) hx hb hts uz_M tz_M tz_M_ok nz_M hown hK hP hD hS 22 rfl rfl 8 (by decide) (hts _ kw_159) (fun _ h9 => h9) rfl (by decide +kernel) rfl rfl (Nat.le_of_ble_eq_true rfl) hdg (fun H1 locs1 hP _ hS => kk H1 locs1 hP hS)
theorem cw_M_187 (hts : ∀ w ∈ AW_, w.before args s = true) (hR : rm_F_height.frames + 1 ≤ R.frames ∧ 8 + (1 + 11) + rm_F_height.locals ≤ R.locals) : CallW R s args "StagedParsers$Machine" "StagedParsers$Frames" 187 y_F_height prog_3_method_11_code 1 (some .int) w_F_height rm_F_height 0 0 0 :=
  ⟨callB_of 0 hts (aw_in kw_720) rfl rfl rfl (hts _ kw_8) (hts _ kw_717) ⟨by decide, by decide, by decide +kernel⟩ hR, hts _ kw_718, hts _ kw_719⟩
end RW
def f_M_goOnFromGuard (σ : MZ_) : Option (MZ_) :=
  (f_F_place σ).bind fun r1 => st_ (va_up σ 37 (fun _ => r1)) fun σ1 => (f_F_height σ1).bind fun r2 => st_ (va_up σ1 34 (fun _ => (if r2 < (σ1 34 0) then r2 else σ1 34 0))) fun σ2 => (f_F_target σ2).bind fun r3 => st_ (va_up σ2 36 (fun _ => r3)) fun σ3 => (f_F_pop σ3).bind fun u4 => some u4
set_option maxHeartbeats 4000000 in
set_option maxRecDepth 100000 in
theorem c_M_goOnFromGuard (l : Launch) (dC : Nat → ClassId) (dI : Nat → Nat → Nat) (q : Nat → Nat) (cA : Nat → ClassId) (pt : Nat) (σ : MZ_) (u : MZ_) (h : f_M_goOnFromGuard σ = some u) : Met l y_M_goOnFromGuard w_M_goOnFromGuard rm_M_goOnFromGuard (va_Pc [.ref (q 22)] (PX_ dC dI q cA pt σ)) (QW_ none (fun H => va_P (dC, dI) cls_ (wX q cA u) H) (AX q)) 0 0 (AX q) := by
  refine Met.ofW (cc := prog_5_method_25_code) (maxL := 1) (ret := none) (by decide) rfl ?_
  intro p e s m args below meth c s₁ B hml hv
  obtain ⟨rfl, hP, hK, hD, hN, hZ⟩ := hv
  have hx := B.exec
  have hb := B.bytes
  have hr := B.returns
  have hts : ∀ w ∈ AW_, w.before _ s = true := fun w h => atoms_spec (ws := w_M_goOnFromGuard) B.pre w (List.mem_cons_of_mem _ h)
  have hown : s.vm.findClass "StagedParsers$Machine" = some m.cls := findClass_of_methodNamed B.named
  have hlocks := B.notSynchronized
  have hS : va_S (AX q) s.heap s.heap [] := va_S.rf
  have hl := lv_entry ([.ref (q 22)]) (n := 1) (Nat.le_of_ble_eq_true rfl)
  rw [lg_entry_eq]
  generalize (lg_sl ([.ref (q 22)]) ++ List.replicate (1 - (lg_sl ([.ref (q 22)])).length) Slot.unset).toArray = ls at hl ⊢
  have hl : lv_has ls 1 [(0, .ref (q 22))] := hl
  rw [f_M_goOnFromGuard] at h
  refine lv_aload_n hx hb d_M_goOnFromGuard_0 rfl (lv_at hl 0 rfl) ?_
  refine lv_aload_n hx hb d_M_goOnFromGuard_1 rfl (lv_at hl 0 rfl) ?_
  refine gf_M_12 hx hb hts hown hK hP d_M_goOnFromGuard_2 ?_
  obtain ⟨r1, hcl, h⟩ := bd_some h
  refine cx_read (va_runV (As := []) (rest := [.ref (q 22)]) ⟨hx, hb, hml, hown, hts⟩ (c_F_place l dC dI q cA pt σ _ hcl) (cw_M_123 hts ⟨Nat.le_of_ble_eq_true rfl, Nat.le_of_ble_eq_true rfl⟩) ⟨pxX_B, va_recv hK hP (ci := 6) (q0 := 25) rfl rfl, pxX_U hP hK hD hN hZ hS⟩ rfl rfl hl.1 rfl (lv_room (Nat.le_of_ble_eq_true rfl)) d_M_goOnFromGuard_5 ⟨Nat.zero_le _, Nat.zero_le _⟩) ?_
  refine pf_M_41 hx hb hts hown hK hP hD hS d_M_goOnFromGuard_8 (fun H locs hP hS => ?_)
  obtain ⟨σ1, eσ1, h⟩ := st_some h
  rw [← eσ1] at hP
  have hD : va_D (AX q) (wX q cA σ1) := dd_re (wX_f _ _ _ _) hD
  refine lv_aload_n hx hb d_M_goOnFromGuard_11 rfl (lv_at hl 0 rfl) ?_
  refine lv_aload_n hx hb d_M_goOnFromGuard_12 rfl (lv_at hl 0 rfl) ?_
  refine gf_M_54 hx hb hts hown hK hP d_M_goOnFromGuard_13 ?_
  refine lv_aload_n hx hb d_M_goOnFromGuard_16 rfl (lv_at hl 0 rfl) ?_
  refine gf_M_12 hx hb hts hown hK hP d_M_goOnFromGuard_17 ?_
  obtain ⟨r2, hcl, h⟩ := bd_some h
  refine cx_read (va_runV (As := []) (rest := [.int (σ1 34 0), .ref (q 22)]) ⟨hx, hb, hml, hown, hts⟩ (c_F_height l dC dI q cA pt σ1 _ hcl) (cw_M_187 hts ⟨Nat.le_of_ble_eq_true rfl, Nat.le_of_ble_eq_true rfl⟩) ⟨pxX_B, va_recv hK hP (ci := 6) (q0 := 25) rfl rfl, pxX_U hP hK hD hN hZ hS⟩ rfl rfl hl.1 rfl (lv_room (Nat.le_of_ble_eq_true rfl)) d_M_goOnFromGuard_20 ⟨Nat.zero_le _, Nat.zero_le _⟩) ?_
  refine va_mmin hx hb (hml.trans hl.1.symm) hown (hts _ kw_721) (hts _ kw_722) (hts _ kw_15) (hts _ kw_723) (Nat.le_of_ble_eq_true rfl) (Nat.le_of_ble_eq_true rfl) (Nat.zero_le _) (Nat.zero_le _) d_M_goOnFromGuard_23 ?_
  refine pf_M_54 hx hb hts hown hK hP hD hS d_M_goOnFromGuard_26 (fun H locs hP hS => ?_)
  obtain ⟨σ2, eσ2, h⟩ := st_some h
  rw [← eσ2] at hP
  have hD : va_D (AX q) (wX q cA σ2) := dd_re (wX_f _ _ _ _) hD
  refine lv_aload_n hx hb d_M_goOnFromGuard_29 rfl (lv_at hl 0 rfl) ?_
  refine lv_aload_n hx hb d_M_goOnFromGuard_30 rfl (lv_at hl 0 rfl) ?_
  refine gf_M_12 hx hb hts hown hK hP d_M_goOnFromGuard_31 ?_
  obtain ⟨r3, hcl, h⟩ := bd_some h
  refine cx_read (va_runV (As := []) (rest := [.ref (q 22)]) ⟨hx, hb, hml, hown, hts⟩ (c_F_target l dC dI q cA pt σ2 _ hcl) (cw_M_169 hts ⟨Nat.le_of_ble_eq_true rfl, Nat.le_of_ble_eq_true rfl⟩) ⟨pxX_B, va_recv hK hP (ci := 6) (q0 := 25) rfl rfl, pxX_U hP hK hD hN hZ hS⟩ rfl rfl hl.1 rfl (lv_room (Nat.le_of_ble_eq_true rfl)) d_M_goOnFromGuard_34 ⟨Nat.zero_le _, Nat.zero_le _⟩) ?_
  refine pf_M_65 hx hb hts hown hK hP hD hS d_M_goOnFromGuard_37 (fun H locs hP hS => ?_)
  obtain ⟨σ3, eσ3, h⟩ := st_some h
  rw [← eσ3] at hP
  have hD : va_D (AX q) (wX q cA σ3) := dd_re (wX_f _ _ _ _) hD
  refine lv_aload_n hx hb d_M_goOnFromGuard_40 rfl (lv_at hl 0 rfl) ?_
  refine gf_M_12 hx hb hts hown hK hP d_M_goOnFromGuard_41 ?_
  obtain ⟨u4, hcl, h⟩ := bd_some h
  refine cx_wrv (va_runV (As := []) (rest := []) ⟨hx, hb, hml, hown, hts⟩ (c_F_pop l dC dI q cA pt σ3 _ hcl) (cw_M_120 hts ⟨Nat.le_of_ble_eq_true rfl, Nat.le_of_ble_eq_true rfl⟩) ⟨pxX_B, va_recv hK hP (ci := 6) (q0 := 25) rfl rfl, pxX_U hP hK hD hN hZ hS⟩ rfl rfl hl.1 rfl (lv_room (Nat.le_of_ble_eq_true rfl)) d_M_goOnFromGuard_44 ⟨Nat.zero_le _, Nat.zero_le _⟩) hS (fun _ h => h) (fun H locs hP hS => ?_)
  have hD : va_D (AX q) (wX q cA u4) := dd_re (wX_f _ _ _ _) hD
  obtain rfl := Option.some.inj h
  exact W.vret hx hb hr (fun t ht hW => ⟨rfl, by rw [ht]; exact hP, hS.F ht⟩) hS.2.2 d_M_goOnFromGuard_47
