/-! Study, second -/
def y_Y_markInBodies : MethodName := ⟨"StagedParsers$Study", "markInBodies", "(I)V"⟩
def w_Y_markInBodies : List Cond := .code y_Y_markInBodies prog_6_method_17_code 2 none :: AW_
def rm_Y_markInBodies : Room := { frames := 1, cells := 0, slots := 0, locals := 21 }
theorem d_Y_markInBodies_0 : decode prog_6_method_17_code 0 = .ok (.aload_n 0, 1) := by decide +kernel
theorem d_Y_markInBodies_1 : decode prog_6_method_17_code 1 = .ok (.getfield 28, 3) := by decide +kernel
theorem d_Y_markInBodies_4 : decode prog_6_method_17_code 4 = .ok (.iload_n 1, 1) := by decide +kernel
theorem d_Y_markInBodies_5 : decode prog_6_method_17_code 5 = .ok (.invokevirtual 59, 3) := by decide +kernel
theorem d_Y_markInBodies_8 : decode prog_6_method_17_code 8 = .ok (.ifCond .eq 10, 3) := by decide +kernel
theorem d_Y_markInBodies_11 : decode prog_6_method_17_code 11 = .ok (.aload_n 0, 1) := by decide +kernel
theorem d_Y_markInBodies_12 : decode prog_6_method_17_code 12 = .ok (.getfield 18, 3) := by decide +kernel
theorem d_Y_markInBodies_15 : decode prog_6_method_17_code 15 = .ok (.iload_n 1, 1) := by decide +kernel
theorem d_Y_markInBodies_16 : decode prog_6_method_17_code 16 = .ok (.iconst 1, 1) := by decide +kernel
theorem d_Y_markInBodies_17 : decode prog_6_method_17_code 17 = .ok (.bastore, 1) := by decide +kernel
theorem d_Y_markInBodies_18 : decode prog_6_method_17_code 18 = .ok (.return_, 1) := by decide +kernel
section RW
variable {p : Program} {l : Launch} {e : Env} {R : Room} {s : State} {m : MethodId} {args : Array Value} {below : List Frame} {meth : Method} {c : Code} {H : Heap} {locs : List Loc} {cells slots : Nat} {Q : State → Prop}
variable {cc : ByteArray} {pc : Nat} {ls : Array Slot} {rest : List Value} {dC : Nat → ClassId} {dI : Nat → Nat → Nat} {q : Nat → Nat} {cA : Nat → ClassId} {σ : MZ_} {H0 : Heap} {A : Nat → Prop}

theorem gf_Y_18 (hx : p.tables.exec = Jvm.exec) (hb : c.code = cc) (hts : ∀ w ∈ AW_, w.before args s = true) (hown : s.vm.findClass "StagedParsers$Study" = some m.cls) (hK : va_K (dC, dI) cls_ (tyX cA) s) (hP : va_P (dC, dI) cls_ (wX q cA σ) H) (hdg : decode cc pc = .ok (.getfield 18, 3)) (kk : W p l e R s m args below meth c H locs cells slots Q (F0 m (pc + 3) ls (.ref (q 11) :: rest))) : W p l e R s m args below meth c H locs cells slots Q (F0 m pc ls (.ref (q 8) :: rest)) :=
  va_get (D := (dC, dI)) (cl := cls_) (ci := 2) (v := .ref (q 11)) (ws := wX q cA σ) (tys := tyX cA) (C := Rz_Y) (T := Tz_Y) (N := 6) hx hb hts uz_Y hown hK hP 8 rfl rfl 3 (by decide) (hts _ kw_67) (fun _ h9 => h9) rfl hdg kk
end RW
def f_Y_markInBodies (σ : MZ_) (a1 : Int32) : Option (MZ_) :=
  (f_G_isNode σ a1).bind fun r1 => if r1 = 0 then some σ
  else gd_ a1 80 (st_ (va_up σ 11 (upd (σ 11) a1.toNatClampNeg (vp_nar .boolean 1))) fun σ1 => some σ1)
set_option maxHeartbeats 4000000 in
set_option maxRecDepth 100000 in
theorem c_Y_markInBodies (l : Launch) (dC : Nat → ClassId) (dI : Nat → Nat → Nat) (q : Nat → Nat) (cA : Nat → ClassId) (pt : Nat) (σ : MZ_) (a1 : Int32) (u : MZ_) (h : f_Y_markInBodies σ a1 = some u) : Met l y_Y_markInBodies w_Y_markInBodies rm_Y_markInBodies (va_Pc [.ref (q 8), .int a1] (PX_ dC dI q cA pt σ)) (QW_ none (fun H => va_P (dC, dI) cls_ (wX q cA u) H) (AX q)) 0 0 (AX q) := by
  refine Met.ofW (cc := prog_6_method_17_code) (maxL := 2) (ret := none) (by decide) rfl ?_
  intro p e s m args below meth c s₁ B hml hv
  obtain ⟨rfl, hP, hK, hD, hN, hZ⟩ := hv
  have hx := B.exec
  have hb := B.bytes
  have hr := B.returns
  have hts : ∀ w ∈ AW_, w.before _ s = true := fun w h => atoms_spec (ws := w_Y_markInBodies) B.pre w (List.mem_cons_of_mem _ h)
  have hown : s.vm.findClass "StagedParsers$Study" = some m.cls := findClass_of_methodNamed B.named
  have hlocks := B.notSynchronized
  have hS : va_S (AX q) s.heap s.heap [] := va_S.rf
  have hl := lv_entry ([.ref (q 8), .int a1]) (n := 2) (Nat.le_of_ble_eq_true rfl)
  rw [lg_entry_eq]
  generalize (lg_sl ([.ref (q 8), .int a1]) ++ List.replicate (2 - (lg_sl ([.ref (q 8), .int a1])).length) Slot.unset).toArray = ls at hl ⊢
  have hl : lv_has ls 2 [(0, .ref (q 8)), (1, .int a1)] := hl
  rw [f_Y_markInBodies] at h
  refine lv_aload_n hx hb d_Y_markInBodies_0 rfl (lv_at hl 0 rfl) ?_
  refine gf_Y_28 hx hb hts hown hK hP d_Y_markInBodies_1 ?_
  refine lv_iload_n hx hb d_Y_markInBodies_4 rfl (lv_at hl 1 rfl) ?_
  obtain ⟨r1, hcl, h⟩ := bd_some h
  refine cx_read (va_runV (As := [.int a1]) (rest := []) ⟨hx, hb, hml, hown, hts⟩ (c_G_isNode l dC dI q cA pt σ a1 _ hcl) (cw_Y_59 hts ⟨Nat.le_of_ble_eq_true rfl, Nat.le_of_ble_eq_true rfl⟩) ⟨pxX_B, va_recv hK hP (ci := 1) (q0 := 1) rfl rfl, pxX_U hP hK hD hN hZ hS⟩ rfl rfl hl.1 rfl (lv_room (Nat.le_of_ble_eq_true rfl)) d_Y_markInBodies_5 ⟨Nat.zero_le _, Nat.zero_le _⟩) ?_
  refine lv_if_eq (tgt := 18) hx hb d_Y_markInBodies_8 rfl (fun hc => ?_) (fun hc => ?_)
  · have h := if_t hc h
    obtain rfl := Option.some.inj h
    exact W.vret hx hb hr (fun t ht hW => ⟨rfl, by rw [ht]; exact hP, hS.F ht⟩) hS.2.2 d_Y_markInBodies_18
  · have h := if_f hc h
    refine lv_aload_n hx hb d_Y_markInBodies_11 rfl (lv_at hl 0 rfl) ?_
    refine gf_Y_18 hx hb hts hown hK hP d_Y_markInBodies_12 ?_
    refine lv_iload_n hx hb d_Y_markInBodies_15 rfl (lv_at hl 1 rfl) ?_
    refine lv_iconst (v := 1) hx hb d_Y_markInBodies_16 (by decide) ?_
    obtain ⟨hgd, h⟩ := gd_some h
    refine as_X_11 hx hb hK hP hD hS hgd d_Y_markInBodies_17 (fun H locs hP hS => ?_)
    obtain ⟨σ1, eσ1, h⟩ := st_some h
    rw [← eσ1] at hP
    have hD : va_D (AX q) (wX q cA σ1) := dd_re (wX_f _ _ _ _) hD
    obtain rfl := Option.some.inj h
    exact W.vret hx hb hr (fun t ht hW => ⟨rfl, by rw [ht]; exact hP, hS.F ht⟩) hS.2.2 d_Y_markInBodies_18
def y_Y_findNodesInBodies : MethodName := ⟨"StagedParsers$Study", "findNodesInBodies", "()V"⟩
def w_Y_findNodesInBodies : List Cond := .code y_Y_findNodesInBodies prog_6_method_16_code 3 none :: AW_
def rm_Y_findNodesInBodies : Room := { frames := 2, cells := 0, slots := 0, locals := 42 }
theorem d_Y_findNodesInBodies_0 : decode prog_6_method_16_code 0 = .ok (.aload_n 0, 1) := by decide +kernel
theorem d_Y_findNodesInBodies_1 : decode prog_6_method_16_code 1 = .ok (.aload_n 0, 1) := by decide +kernel
theorem d_Y_findNodesInBodies_2 : decode prog_6_method_16_code 2 = .ok (.getfield 18, 3) := by decide +kernel
theorem d_Y_findNodesInBodies_5 : decode prog_6_method_16_code 5 = .ok (.invokevirtual 65, 3) := by decide +kernel
theorem d_Y_findNodesInBodies_8 : decode prog_6_method_16_code 8 = .ok (.iconst 0, 1) := by decide +kernel
theorem d_Y_findNodesInBodies_9 : decode prog_6_method_16_code 9 = .ok (.istore_n 1, 1) := by decide +kernel
theorem d_Y_findNodesInBodies_10 : decode prog_6_method_16_code 10 = .ok (.iload_n 1, 1) := by decide +kernel
theorem d_Y_findNodesInBodies_11 : decode prog_6_method_16_code 11 = .ok (.bipush 6, 2) := by decide +kernel
theorem d_Y_findNodesInBodies_13 : decode prog_6_method_16_code 13 = .ok (.if_icmp .ge 21, 3) := by decide +kernel
theorem d_Y_findNodesInBodies_16 : decode prog_6_method_16_code 16 = .ok (.aload_n 0, 1) := by decide +kernel
theorem d_Y_findNodesInBodies_17 : decode prog_6_method_16_code 17 = .ok (.aload_n 0, 1) := by decide +kernel
theorem d_Y_findNodesInBodies_18 : decode prog_6_method_16_code 18 = .ok (.getfield 28, 3) := by decide +kernel
theorem d_Y_findNodesInBodies_21 : decode prog_6_method_16_code 21 = .ok (.iload_n 1, 1) := by decide +kernel
theorem d_Y_findNodesInBodies_22 : decode prog_6_method_16_code 22 = .ok (.invokevirtual 86, 3) := by decide +kernel
theorem d_Y_findNodesInBodies_25 : decode prog_6_method_16_code 25 = .ok (.invokevirtual 99, 3) := by decide +kernel
theorem d_Y_findNodesInBodies_28 : decode prog_6_method_16_code 28 = .ok (.iinc 1 1, 3) := by decide +kernel
theorem d_Y_findNodesInBodies_31 : decode prog_6_method_16_code 31 = .ok (.goto (-21), 3) := by decide +kernel
theorem d_Y_findNodesInBodies_34 : decode prog_6_method_16_code 34 = .ok (.aload_n 0, 1) := by decide +kernel
theorem d_Y_findNodesInBodies_35 : decode prog_6_method_16_code 35 = .ok (.getfield 28, 3) := by decide +kernel
theorem d_Y_findNodesInBodies_38 : decode prog_6_method_16_code 38 = .ok (.invokevirtual 69, 3) := by decide +kernel
theorem d_Y_findNodesInBodies_41 : decode prog_6_method_16_code 41 = .ok (.iconst 1, 1) := by decide +kernel
theorem d_Y_findNodesInBodies_42 : decode prog_6_method_16_code 42 = .ok (.isub, 1) := by decide +kernel
theorem d_Y_findNodesInBodies_43 : decode prog_6_method_16_code 43 = .ok (.istore_n 1, 1) := by decide +kernel
theorem d_Y_findNodesInBodies_44 : decode prog_6_method_16_code 44 = .ok (.iload_n 1, 1) := by decide +kernel
theorem d_Y_findNodesInBodies_45 : decode prog_6_method_16_code 45 = .ok (.ifCond .lt 69, 3) := by decide +kernel
theorem d_Y_findNodesInBodies_48 : decode prog_6_method_16_code 48 = .ok (.aload_n 0, 1) := by decide +kernel
theorem d_Y_findNodesInBodies_49 : decode prog_6_method_16_code 49 = .ok (.getfield 18, 3) := by decide +kernel
theorem d_Y_findNodesInBodies_52 : decode prog_6_method_16_code 52 = .ok (.iload_n 1, 1) := by decide +kernel
theorem d_Y_findNodesInBodies_53 : decode prog_6_method_16_code 53 = .ok (.baload, 1) := by decide +kernel
theorem d_Y_findNodesInBodies_54 : decode prog_6_method_16_code 54 = .ok (.ifCond .eq 18, 3) := by decide +kernel
theorem d_Y_findNodesInBodies_57 : decode prog_6_method_16_code 57 = .ok (.getstatic 102, 3) := by decide +kernel
theorem d_Y_findNodesInBodies_60 : decode prog_6_method_16_code 60 = .ok (.aload_n 0, 1) := by decide +kernel
theorem d_Y_findNodesInBodies_61 : decode prog_6_method_16_code 61 = .ok (.getfield 28, 3) := by decide +kernel
theorem d_Y_findNodesInBodies_64 : decode prog_6_method_16_code 64 = .ok (.iload_n 1, 1) := by decide +kernel
theorem d_Y_findNodesInBodies_65 : decode prog_6_method_16_code 65 = .ok (.invokevirtual 83, 3) := by decide +kernel
theorem d_Y_findNodesInBodies_68 : decode prog_6_method_16_code 68 = .ok (.iaload, 1) := by decide +kernel
theorem d_Y_findNodesInBodies_69 : decode prog_6_method_16_code 69 = .ok (.goto 4, 3) := by decide +kernel
theorem d_Y_findNodesInBodies_72 : decode prog_6_method_16_code 72 = .ok (.iconst 0, 1) := by decide +kernel
theorem d_Y_findNodesInBodies_73 : decode prog_6_method_16_code 73 = .ok (.istore_n 2, 1) := by decide +kernel
theorem d_Y_findNodesInBodies_74 : decode prog_6_method_16_code 74 = .ok (.iload_n 2, 1) := by decide +kernel
theorem d_Y_findNodesInBodies_75 : decode prog_6_method_16_code 75 = .ok (.iconst 1, 1) := by decide +kernel
theorem d_Y_findNodesInBodies_76 : decode prog_6_method_16_code 76 = .ok (.if_icmp .lt 15, 3) := by decide +kernel
theorem d_Y_findNodesInBodies_79 : decode prog_6_method_16_code 79 = .ok (.aload_n 0, 1) := by decide +kernel
theorem d_Y_findNodesInBodies_80 : decode prog_6_method_16_code 80 = .ok (.aload_n 0, 1) := by decide +kernel
theorem d_Y_findNodesInBodies_81 : decode prog_6_method_16_code 81 = .ok (.getfield 28, 3) := by decide +kernel
theorem d_Y_findNodesInBodies_84 : decode prog_6_method_16_code 84 = .ok (.iload_n 1, 1) := by decide +kernel
theorem d_Y_findNodesInBodies_85 : decode prog_6_method_16_code 85 = .ok (.invokevirtual 76, 3) := by decide +kernel
theorem d_Y_findNodesInBodies_88 : decode prog_6_method_16_code 88 = .ok (.invokevirtual 99, 3) := by decide +kernel
theorem d_Y_findNodesInBodies_91 : decode prog_6_method_16_code 91 = .ok (.iload_n 2, 1) := by decide +kernel
theorem d_Y_findNodesInBodies_92 : decode prog_6_method_16_code 92 = .ok (.iconst 2, 1) := by decide +kernel
theorem d_Y_findNodesInBodies_93 : decode prog_6_method_16_code 93 = .ok (.if_icmp .lt 15, 3) := by decide +kernel
theorem d_Y_findNodesInBodies_96 : decode prog_6_method_16_code 96 = .ok (.aload_n 0, 1) := by decide +kernel
theorem d_Y_findNodesInBodies_97 : decode prog_6_method_16_code 97 = .ok (.aload_n 0, 1) := by decide +kernel
theorem d_Y_findNodesInBodies_98 : decode prog_6_method_16_code 98 = .ok (.getfield 28, 3) := by decide +kernel
theorem d_Y_findNodesInBodies_101 : decode prog_6_method_16_code 101 = .ok (.iload_n 1, 1) := by decide +kernel
theorem d_Y_findNodesInBodies_102 : decode prog_6_method_16_code 102 = .ok (.invokevirtual 80, 3) := by decide +kernel
theorem d_Y_findNodesInBodies_105 : decode prog_6_method_16_code 105 = .ok (.invokevirtual 99, 3) := by decide +kernel
theorem d_Y_findNodesInBodies_108 : decode prog_6_method_16_code 108 = .ok (.iinc 1 (-1), 3) := by decide +kernel
theorem d_Y_findNodesInBodies_111 : decode prog_6_method_16_code 111 = .ok (.goto (-67), 3) := by decide +kernel
theorem d_Y_findNodesInBodies_114 : decode prog_6_method_16_code 114 = .ok (.return_, 1) := by decide +kernel
section RW
variable {p : Program} {l : Launch} {e : Env} {R : Room} {s : State} {m : MethodId} {args : Array Value} {below : List Frame} {meth : Method} {c : Code} {H : Heap} {locs : List Loc} {cells slots : Nat} {Q : State → Prop}
variable {cc : ByteArray} {pc : Nat} {ls : Array Slot} {rest : List Value} {dC : Nat → ClassId} {dI : Nat → Nat → Nat} {q : Nat → Nat} {cA : Nat → ClassId} {σ : MZ_} {H0 : Heap} {A : Nat → Prop}

theorem cw_Y_99 (hts : ∀ w ∈ AW_, w.before args s = true) (hR : rm_Y_markInBodies.frames + 1 ≤ R.frames ∧ 8 + (2 + 11) + rm_Y_markInBodies.locals ≤ R.locals) : CallW R s args "StagedParsers$Study" "StagedParsers$Study" 99 y_Y_markInBodies prog_6_method_17_code 2 none w_Y_markInBodies rm_Y_markInBodies 0 0 1 :=
  ⟨callB_of 1 hts (aw_in kw_240) rfl rfl rfl (hts _ kw_4) (hts _ kw_237) ⟨by decide, by decide, by decide +kernel⟩ hR, hts _ kw_239, hts _ ks_2⟩
end RW
def f_Y_findNodesInBodies_L44 : Nat → MZ_ → Int32 → Option (MZ_)
  | 0, _, _ => none
  | N + 1, σ, x1 => if x1 < 0 then some σ
    else gd_ x1 80 (if (σ 11 x1.toNatClampNeg) = 0 then if (0 : Int32) < 1 then if (0 : Int32) < 2 then f_Y_findNodesInBodies_L44 N σ (x1 + (-1))
        else (f_G_b σ x1).bind fun r5 => (f_Y_markInBodies σ r5).bind fun u6 => f_Y_findNodesInBodies_L44 N u6 (x1 + (-1))
      else (f_G_a σ x1).bind fun r7 => (f_Y_markInBodies σ r7).bind fun u8 => if (0 : Int32) < 2 then f_Y_findNodesInBodies_L44 N u8 (x1 + (-1))
      else (f_G_b u8 x1).bind fun r9 => (f_Y_markInBodies u8 r9).bind fun u10 => f_Y_findNodesInBodies_L44 N u10 (x1 + (-1))
    else (f_G_kind σ x1).bind fun r11 => gd_ r11 14 (if (PT_ r11.toNatClampNeg) < 1 then if (PT_ r11.toNatClampNeg) < 2 then f_Y_findNodesInBodies_L44 N σ (x1 + (-1))
      else (f_G_b σ x1).bind fun r12 => (f_Y_markInBodies σ r12).bind fun u13 => f_Y_findNodesInBodies_L44 N u13 (x1 + (-1))
    else (f_G_a σ x1).bind fun r14 => (f_Y_markInBodies σ r14).bind fun u15 => if (PT_ r11.toNatClampNeg) < 2 then f_Y_findNodesInBodies_L44 N u15 (x1 + (-1))
    else (f_G_b u15 x1).bind fun r16 => (f_Y_markInBodies u15 r16).bind fun u17 => f_Y_findNodesInBodies_L44 N u17 (x1 + (-1))))
def f_Y_findNodesInBodies_L10 : Nat → MZ_ → Int32 → Option (MZ_)
  | 0, _, _ => none
  | N + 1, σ, x1 => if 6 ≤ x1 then (f_G_size σ).bind fun r2 => f_Y_findNodesInBodies_L44 100 σ (r2 - 1)
    else (f_G_body σ x1).bind fun r3 => (f_Y_markInBodies σ r3).bind fun u4 => f_Y_findNodesInBodies_L10 N u4 (x1 + 1)
def f_Y_findNodesInBodies (σ : MZ_) : Option (MZ_) :=
  (f_Y_unmark_11 σ).bind fun u1 => f_Y_findNodesInBodies_L10 100 u1 0
set_option maxHeartbeats 4000000 in
set_option maxRecDepth 100000 in
theorem c_Y_findNodesInBodies (l : Launch) (dC : Nat → ClassId) (dI : Nat → Nat → Nat) (q : Nat → Nat) (cA : Nat → ClassId) (pt : Nat) (σ : MZ_) (u : MZ_) (h : f_Y_findNodesInBodies σ = some u) : Met l y_Y_findNodesInBodies w_Y_findNodesInBodies rm_Y_findNodesInBodies (va_Pc [.ref (q 8)] (PX_ dC dI q cA pt σ)) (QW_ none (fun H => va_P (dC, dI) cls_ (wX q cA u) H) (AX q)) 0 0 (AX q) := by
  refine Met.ofW (cc := prog_6_method_16_code) (maxL := 3) (ret := none) (by decide) rfl ?_
  intro p e s m args below meth c s₁ B hml hv
  obtain ⟨rfl, hP, hK, hD, hN, hZ⟩ := hv
  have hx := B.exec
  have hb := B.bytes
  have hr := B.returns
  have hts : ∀ w ∈ AW_, w.before _ s = true := fun w h => atoms_spec (ws := w_Y_findNodesInBodies) B.pre w (List.mem_cons_of_mem _ h)
  have hown : s.vm.findClass "StagedParsers$Study" = some m.cls := findClass_of_methodNamed B.named
  have hlocks := B.notSynchronized
  have hS : va_S (AX q) s.heap s.heap [] := va_S.rf
  have hl := lv_entry ([.ref (q 8)]) (n := 3) (Nat.le_of_ble_eq_true rfl)
  rw [lg_entry_eq]
  generalize (lg_sl ([.ref (q 8)]) ++ List.replicate (3 - (lg_sl ([.ref (q 8)])).length) Slot.unset).toArray = ls at hl ⊢
  have hl : lv_has ls 3 [(0, .ref (q 8))] := hl
  have L44 : ∀ (N44 : Nat) (σ : MZ_) (x1 : Int32), f_Y_findNodesInBodies_L44 N44 σ x1 = some u → ∀ (H : Heap) (locs : List Loc) (ls : Array Slot), va_P (dC, dI) cls_ (wX q cA σ) H → va_S (AX q) s.heap H locs → lv_has ls 3 [(0, .ref (q 8)), (1, .int x1)] → W p l e (headSpec w_Y_findNodesInBodies rm_Y_findNodesInBodies).room s m ([.ref (q 8)] : List Value).toArray below meth c H locs 0 0 (MQ below (QW_ none (fun H => va_P (dC, dI) cls_ (wX q cA u) H) (AX q)) ([.ref (q 8)] : List Value).toArray s 0 0 (AX q)) (F0 m 44 ls []) := by
    intro N44
    induction N44 with
    | zero => intro σ x1 h; cases h
    | succ N44 ih44 =>
      intro σ x1 h H locs ls hP hS hl
      have hD : va_D (AX q) (wX q cA σ) := dd_re (wX_f _ _ _ _) hD
      rw [f_Y_findNodesInBodies_L44] at h
      refine lv_iload_n hx hb d_Y_findNodesInBodies_44 rfl (lv_at hl 1 rfl) ?_
      refine lv_if_lt (tgt := 114) hx hb d_Y_findNodesInBodies_45 rfl (fun hc => ?_) (fun hc => ?_)
      · have h := if_t hc h
        obtain rfl := Option.some.inj h
        exact W.vret hx hb hr (fun t ht hW => ⟨rfl, by rw [ht]; exact hP, hS.F ht⟩) hS.2.2 d_Y_findNodesInBodies_114
      · have h := if_f hc h
        refine lv_aload_n hx hb d_Y_findNodesInBodies_48 rfl (lv_at hl 0 rfl) ?_
        refine gf_Y_18 hx hb hts hown hK hP d_Y_findNodesInBodies_49 ?_
        refine lv_iload_n hx hb d_Y_findNodesInBodies_52 rfl (lv_at hl 1 rfl) ?_
        obtain ⟨hgd, h⟩ := gd_some h
        refine al_X_11 hx hb hK hP hgd d_Y_findNodesInBodies_53 ?_
        refine lv_if_eq (tgt := 72) hx hb d_Y_findNodesInBodies_54 rfl (fun hc => ?_) (fun hc => ?_)
        · have h := if_t hc h
          refine lv_iconst (v := 0) hx hb d_Y_findNodesInBodies_72 (by decide) ?_
          refine lv_istore_n hx hb d_Y_findNodesInBodies_73 rfl hl (by decide) rfl (fun ls hl => ?_)
          have hl : lv_has ls 3 [(2, .int 0), (0, .ref (q 8)), (1, .int x1)] := hl
          refine lv_iload_n hx hb d_Y_findNodesInBodies_74 rfl (lv_at hl 0 rfl) ?_
          refine lv_iconst (v := 1) hx hb d_Y_findNodesInBodies_75 (by decide) ?_
          refine lv_icmp_lt (tgt := 91) hx hb d_Y_findNodesInBodies_76 rfl (fun hc => ?_) (fun hc => ?_)
          · have h := if_t hc h
            refine lv_iload_n hx hb d_Y_findNodesInBodies_91 rfl (lv_at hl 0 rfl) ?_
            refine lv_iconst (v := 2) hx hb d_Y_findNodesInBodies_92 (by decide) ?_
            refine lv_icmp_lt (tgt := 108) hx hb d_Y_findNodesInBodies_93 rfl (fun hc => ?_) (fun hc => ?_)
            · have h := if_t hc h
              refine lv_iinc (v := x1 + (-1)) hx hb d_Y_findNodesInBodies_108 hl (k := 2) rfl rfl (by decide) rfl (fun ls hl => ?_)
              have hl : lv_has ls 3 [(1, .int (x1 + (-1))), (2, .int 0), (0, .ref (q 8))] := hl
              refine lv_goto (tgt := 44) hx hb d_Y_findNodesInBodies_111 rfl ?_
              exact ih44 _ _ h _ _ _ hP hS (lv_sub hl [2, 0] rfl)
            · have h := if_f hc h
              refine lv_aload_n hx hb d_Y_findNodesInBodies_96 rfl (lv_at hl 1 rfl) ?_
              refine lv_aload_n hx hb d_Y_findNodesInBodies_97 rfl (lv_at hl 1 rfl) ?_
              refine gf_Y_28 hx hb hts hown hK hP d_Y_findNodesInBodies_98 ?_
              refine lv_iload_n hx hb d_Y_findNodesInBodies_101 rfl (lv_at hl 2 rfl) ?_
              obtain ⟨r5, hcl, h⟩ := bd_some h
              refine cx_read (va_runV (As := [.int x1]) (rest := [.ref (q 8)]) ⟨hx, hb, hml, hown, hts⟩ (c_G_b l dC dI q cA pt σ x1 _ hcl) (cw_Y_80 hts ⟨Nat.le_of_ble_eq_true rfl, Nat.le_of_ble_eq_true rfl⟩) ⟨pxX_B, va_recv hK hP (ci := 1) (q0 := 1) rfl rfl, pxX_U hP hK hD hN hZ hS⟩ rfl rfl hl.1 rfl (lv_room (Nat.le_of_ble_eq_true rfl)) d_Y_findNodesInBodies_102 ⟨Nat.zero_le _, Nat.zero_le _⟩) ?_
              obtain ⟨u6, hcl, h⟩ := bd_some h
              refine cx_wrv (va_runV (As := [.int r5]) (rest := []) ⟨hx, hb, hml, hown, hts⟩ (c_Y_markInBodies l dC dI q cA pt σ r5 _ hcl) (cw_Y_99 hts ⟨Nat.le_of_ble_eq_true rfl, Nat.le_of_ble_eq_true rfl⟩) ⟨pxX_B, va_recv hK hP (ci := 2) (q0 := 8) rfl rfl, pxX_U hP hK hD hN hZ hS⟩ rfl rfl hl.1 rfl (lv_room (Nat.le_of_ble_eq_true rfl)) d_Y_findNodesInBodies_105 ⟨Nat.zero_le _, Nat.zero_le _⟩) hS (fun _ h => h) (fun H locs hP hS => ?_)
              have hD : va_D (AX q) (wX q cA u6) := dd_re (wX_f _ _ _ _) hD
              refine lv_iinc (v := x1 + (-1)) hx hb d_Y_findNodesInBodies_108 hl (k := 2) rfl rfl (by decide) rfl (fun ls hl => ?_)
              have hl : lv_has ls 3 [(1, .int (x1 + (-1))), (2, .int 0), (0, .ref (q 8))] := hl
              refine lv_goto (tgt := 44) hx hb d_Y_findNodesInBodies_111 rfl ?_
              exact ih44 _ _ h _ _ _ hP hS (lv_sub hl [2, 0] rfl)
          · have h := if_f hc h
            refine lv_aload_n hx hb d_Y_findNodesInBodies_79 rfl (lv_at hl 1 rfl) ?_
            refine lv_aload_n hx hb d_Y_findNodesInBodies_80 rfl (lv_at hl 1 rfl) ?_
            refine gf_Y_28 hx hb hts hown hK hP d_Y_findNodesInBodies_81 ?_
            refine lv_iload_n hx hb d_Y_findNodesInBodies_84 rfl (lv_at hl 2 rfl) ?_
            obtain ⟨r7, hcl, h⟩ := bd_some h
            refine cx_read (va_runV (As := [.int x1]) (rest := [.ref (q 8)]) ⟨hx, hb, hml, hown, hts⟩ (c_G_a l dC dI q cA pt σ x1 _ hcl) (cw_Y_76 hts ⟨Nat.le_of_ble_eq_true rfl, Nat.le_of_ble_eq_true rfl⟩) ⟨pxX_B, va_recv hK hP (ci := 1) (q0 := 1) rfl rfl, pxX_U hP hK hD hN hZ hS⟩ rfl rfl hl.1 rfl (lv_room (Nat.le_of_ble_eq_true rfl)) d_Y_findNodesInBodies_85 ⟨Nat.zero_le _, Nat.zero_le _⟩) ?_
            obtain ⟨u8, hcl, h⟩ := bd_some h
            refine cx_wrv (va_runV (As := [.int r7]) (rest := []) ⟨hx, hb, hml, hown, hts⟩ (c_Y_markInBodies l dC dI q cA pt σ r7 _ hcl) (cw_Y_99 hts ⟨Nat.le_of_ble_eq_true rfl, Nat.le_of_ble_eq_true rfl⟩) ⟨pxX_B, va_recv hK hP (ci := 2) (q0 := 8) rfl rfl, pxX_U hP hK hD hN hZ hS⟩ rfl rfl hl.1 rfl (lv_room (Nat.le_of_ble_eq_true rfl)) d_Y_findNodesInBodies_88 ⟨Nat.zero_le _, Nat.zero_le _⟩) hS (fun _ h => h) (fun H locs hP hS => ?_)
            have hD : va_D (AX q) (wX q cA u8) := dd_re (wX_f _ _ _ _) hD
            refine lv_iload_n hx hb d_Y_findNodesInBodies_91 rfl (lv_at hl 0 rfl) ?_
            refine lv_iconst (v := 2) hx hb d_Y_findNodesInBodies_92 (by decide) ?_
            refine lv_icmp_lt (tgt := 108) hx hb d_Y_findNodesInBodies_93 rfl (fun hc => ?_) (fun hc => ?_)
            · have h := if_t hc h
              refine lv_iinc (v := x1 + (-1)) hx hb d_Y_findNodesInBodies_108 hl (k := 2) rfl rfl (by decide) rfl (fun ls hl => ?_)
              have hl : lv_has ls 3 [(1, .int (x1 + (-1))), (2, .int 0), (0, .ref (q 8))] := hl
              refine lv_goto (tgt := 44) hx hb d_Y_findNodesInBodies_111 rfl ?_
              exact ih44 _ _ h _ _ _ hP hS (lv_sub hl [2, 0] rfl)
            · have h := if_f hc h
              refine lv_aload_n hx hb d_Y_findNodesInBodies_96 rfl (lv_at hl 1 rfl) ?_
              refine lv_aload_n hx hb d_Y_findNodesInBodies_97 rfl (lv_at hl 1 rfl) ?_
              refine gf_Y_28 hx hb hts hown hK hP d_Y_findNodesInBodies_98 ?_
              refine lv_iload_n hx hb d_Y_findNodesInBodies_101 rfl (lv_at hl 2 rfl) ?_
              obtain ⟨r9, hcl, h⟩ := bd_some h
              refine cx_read (va_runV (As := [.int x1]) (rest := [.ref (q 8)]) ⟨hx, hb, hml, hown, hts⟩ (c_G_b l dC dI q cA pt u8 x1 _ hcl) (cw_Y_80 hts ⟨Nat.le_of_ble_eq_true rfl, Nat.le_of_ble_eq_true rfl⟩) ⟨pxX_B, va_recv hK hP (ci := 1) (q0 := 1) rfl rfl, pxX_U hP hK hD hN hZ hS⟩ rfl rfl hl.1 rfl (lv_room (Nat.le_of_ble_eq_true rfl)) d_Y_findNodesInBodies_102 ⟨Nat.zero_le _, Nat.zero_le _⟩) ?_
              obtain ⟨u10, hcl, h⟩ := bd_some h
              refine cx_wrv (va_runV (As := [.int r9]) (rest := []) ⟨hx, hb, hml, hown, hts⟩ (c_Y_markInBodies l dC dI q cA pt u8 r9 _ hcl) (cw_Y_99 hts ⟨Nat.le_of_ble_eq_true rfl, Nat.le_of_ble_eq_true rfl⟩) ⟨pxX_B, va_recv hK hP (ci := 2) (q0 := 8) rfl rfl, pxX_U hP hK hD hN hZ hS⟩ rfl rfl hl.1 rfl (lv_room (Nat.le_of_ble_eq_true rfl)) d_Y_findNodesInBodies_105 ⟨Nat.zero_le _, Nat.zero_le _⟩) hS (fun _ h => h) (fun H locs hP hS => ?_)
              have hD : va_D (AX q) (wX q cA u10) := dd_re (wX_f _ _ _ _) hD
              refine lv_iinc (v := x1 + (-1)) hx hb d_Y_findNodesInBodies_108 hl (k := 2) rfl rfl (by decide) rfl (fun ls hl => ?_)
              have hl : lv_has ls 3 [(1, .int (x1 + (-1))), (2, .int 0), (0, .ref (q 8))] := hl
              refine lv_goto (tgt := 44) hx hb d_Y_findNodesInBodies_111 rfl ?_
              exact ih44 _ _ h _ _ _ hP hS (lv_sub hl [2, 0] rfl)
        · have h := if_f hc h
          refine va_pget_ hx hb hown (hN _ (List.mem_of_getElem? (i := 3) rfl)) hZ hS d_Y_findNodesInBodies_57 ?_
          refine lv_aload_n hx hb d_Y_findNodesInBodies_60 rfl (lv_at hl 0 rfl) ?_
          refine gf_Y_28 hx hb hts hown hK hP d_Y_findNodesInBodies_61 ?_
          refine lv_iload_n hx hb d_Y_findNodesInBodies_64 rfl (lv_at hl 1 rfl) ?_
          obtain ⟨r11, hcl, h⟩ := bd_some h
          refine cx_read (va_runV (As := [.int x1]) (rest := [.ref pt]) ⟨hx, hb, hml, hown, hts⟩ (c_G_kind l dC dI q cA pt σ x1 _ hcl) (cw_Y_83 hts ⟨Nat.le_of_ble_eq_true rfl, Nat.le_of_ble_eq_true rfl⟩) ⟨pxX_B, va_recv hK hP (ci := 1) (q0 := 1) rfl rfl, pxX_U hP hK hD hN hZ hS⟩ rfl rfl hl.1 rfl (lv_room (Nat.le_of_ble_eq_true rfl)) d_Y_findNodesInBodies_65 ⟨Nat.zero_le _, Nat.zero_le _⟩) ?_
          obtain ⟨hgd, h⟩ := gd_some h
          refine va_tald_ hx hb hZ hS hgd d_Y_findNodesInBodies_68 ?_
          refine lv_goto (tgt := 73) hx hb d_Y_findNodesInBodies_69 rfl ?_
          refine lv_istore_n hx hb d_Y_findNodesInBodies_73 rfl hl (by decide) rfl (fun ls hl => ?_)
          have hl : lv_has ls 3 [(2, .int (PT_ r11.toNatClampNeg)), (0, .ref (q 8)), (1, .int x1)] := hl
          refine lv_iload_n hx hb d_Y_findNodesInBodies_74 rfl (lv_at hl 0 rfl) ?_
          refine lv_iconst (v := 1) hx hb d_Y_findNodesInBodies_75 (by decide) ?_
          refine lv_icmp_lt (tgt := 91) hx hb d_Y_findNodesInBodies_76 rfl (fun hc => ?_) (fun hc => ?_)
          · have h := if_t hc h
            refine lv_iload_n hx hb d_Y_findNodesInBodies_91 rfl (lv_at hl 0 rfl) ?_
            refine lv_iconst (v := 2) hx hb d_Y_findNodesInBodies_92 (by decide) ?_
            refine lv_icmp_lt (tgt := 108) hx hb d_Y_findNodesInBodies_93 rfl (fun hc => ?_) (fun hc => ?_)
            · have h := if_t hc h
              refine lv_iinc (v := x1 + (-1)) hx hb d_Y_findNodesInBodies_108 hl (k := 2) rfl rfl (by decide) rfl (fun ls hl => ?_)
              have hl : lv_has ls 3 [(1, .int (x1 + (-1))), (2, .int (PT_ r11.toNatClampNeg)), (0, .ref (q 8))] := hl
              refine lv_goto (tgt := 44) hx hb d_Y_findNodesInBodies_111 rfl ?_
              exact ih44 _ _ h _ _ _ hP hS (lv_sub hl [2, 0] rfl)
            · have h := if_f hc h
              refine lv_aload_n hx hb d_Y_findNodesInBodies_96 rfl (lv_at hl 1 rfl) ?_
              refine lv_aload_n hx hb d_Y_findNodesInBodies_97 rfl (lv_at hl 1 rfl) ?_
              refine gf_Y_28 hx hb hts hown hK hP d_Y_findNodesInBodies_98 ?_
              refine lv_iload_n hx hb d_Y_findNodesInBodies_101 rfl (lv_at hl 2 rfl) ?_
              obtain ⟨r12, hcl, h⟩ := bd_some h
              refine cx_read (va_runV (As := [.int x1]) (rest := [.ref (q 8)]) ⟨hx, hb, hml, hown, hts⟩ (c_G_b l dC dI q cA pt σ x1 _ hcl) (cw_Y_80 hts ⟨Nat.le_of_ble_eq_true rfl, Nat.le_of_ble_eq_true rfl⟩) ⟨pxX_B, va_recv hK hP (ci := 1) (q0 := 1) rfl rfl, pxX_U hP hK hD hN hZ hS⟩ rfl rfl hl.1 rfl (lv_room (Nat.le_of_ble_eq_true rfl)) d_Y_findNodesInBodies_102 ⟨Nat.zero_le _, Nat.zero_le _⟩) ?_
              obtain ⟨u13, hcl, h⟩ := bd_some h
              refine cx_wrv (va_runV (As := [.int r12]) (rest := []) ⟨hx, hb, hml, hown, hts⟩ (c_Y_markInBodies l dC dI q cA pt σ r12 _ hcl) (cw_Y_99 hts ⟨Nat.le_of_ble_eq_true rfl, Nat.le_of_ble_eq_true rfl⟩) ⟨pxX_B, va_recv hK hP (ci := 2) (q0 := 8) rfl rfl, pxX_U hP hK hD hN hZ hS⟩ rfl rfl hl.1 rfl (lv_room (Nat.le_of_ble_eq_true rfl)) d_Y_findNodesInBodies_105 ⟨Nat.zero_le _, Nat.zero_le _⟩) hS (fun _ h => h) (fun H locs hP hS => ?_)
              have hD : va_D (AX q) (wX q cA u13) := dd_re (wX_f _ _ _ _) hD
              refine lv_iinc (v := x1 + (-1)) hx hb d_Y_findNodesInBodies_108 hl (k := 2) rfl rfl (by decide) rfl (fun ls hl => ?_)
              have hl : lv_has ls 3 [(1, .int (x1 + (-1))), (2, .int (PT_ r11.toNatClampNeg)), (0, .ref (q 8))] := hl
              refine lv_goto (tgt := 44) hx hb d_Y_findNodesInBodies_111 rfl ?_
              exact ih44 _ _ h _ _ _ hP hS (lv_sub hl [2, 0] rfl)
          · have h := if_f hc h
            refine lv_aload_n hx hb d_Y_findNodesInBodies_79 rfl (lv_at hl 1 rfl) ?_
            refine lv_aload_n hx hb d_Y_findNodesInBodies_80 rfl (lv_at hl 1 rfl) ?_
            refine gf_Y_28 hx hb hts hown hK hP d_Y_findNodesInBodies_81 ?_
            refine lv_iload_n hx hb d_Y_findNodesInBodies_84 rfl (lv_at hl 2 rfl) ?_
            obtain ⟨r14, hcl, h⟩ := bd_some h
            refine cx_read (va_runV (As := [.int x1]) (rest := [.ref (q 8)]) ⟨hx, hb, hml, hown, hts⟩ (c_G_a l dC dI q cA pt σ x1 _ hcl) (cw_Y_76 hts ⟨Nat.le_of_ble_eq_true rfl, Nat.le_of_ble_eq_true rfl⟩) ⟨pxX_B, va_recv hK hP (ci := 1) (q0 := 1) rfl rfl, pxX_U hP hK hD hN hZ hS⟩ rfl rfl hl.1 rfl (lv_room (Nat.le_of_ble_eq_true rfl)) d_Y_findNodesInBodies_85 ⟨Nat.zero_le _, Nat.zero_le _⟩) ?_
            obtain ⟨u15, hcl, h⟩ := bd_some h
            refine cx_wrv (va_runV (As := [.int r14]) (rest := []) ⟨hx, hb, hml, hown, hts⟩ (c_Y_markInBodies l dC dI q cA pt σ r14 _ hcl) (cw_Y_99 hts ⟨Nat.le_of_ble_eq_true rfl, Nat.le_of_ble_eq_true rfl⟩) ⟨pxX_B, va_recv hK hP (ci := 2) (q0 := 8) rfl rfl, pxX_U hP hK hD hN hZ hS⟩ rfl rfl hl.1 rfl (lv_room (Nat.le_of_ble_eq_true rfl)) d_Y_findNodesInBodies_88 ⟨Nat.zero_le _, Nat.zero_le _⟩) hS (fun _ h => h) (fun H locs hP hS => ?_)
            have hD : va_D (AX q) (wX q cA u15) := dd_re (wX_f _ _ _ _) hD
            refine lv_iload_n hx hb d_Y_findNodesInBodies_91 rfl (lv_at hl 0 rfl) ?_
            refine lv_iconst (v := 2) hx hb d_Y_findNodesInBodies_92 (by decide) ?_
            refine lv_icmp_lt (tgt := 108) hx hb d_Y_findNodesInBodies_93 rfl (fun hc => ?_) (fun hc => ?_)
            · have h := if_t hc h
              refine lv_iinc (v := x1 + (-1)) hx hb d_Y_findNodesInBodies_108 hl (k := 2) rfl rfl (by decide) rfl (fun ls hl => ?_)
              have hl : lv_has ls 3 [(1, .int (x1 + (-1))), (2, .int (PT_ r11.toNatClampNeg)), (0, .ref (q 8))] := hl
              refine lv_goto (tgt := 44) hx hb d_Y_findNodesInBodies_111 rfl ?_
              exact ih44 _ _ h _ _ _ hP hS (lv_sub hl [2, 0] rfl)
            · have h := if_f hc h
              refine lv_aload_n hx hb d_Y_findNodesInBodies_96 rfl (lv_at hl 1 rfl) ?_
              refine lv_aload_n hx hb d_Y_findNodesInBodies_97 rfl (lv_at hl 1 rfl) ?_
              refine gf_Y_28 hx hb hts hown hK hP d_Y_findNodesInBodies_98 ?_
              refine lv_iload_n hx hb d_Y_findNodesInBodies_101 rfl (lv_at hl 2 rfl) ?_
              obtain ⟨r16, hcl, h⟩ := bd_some h
              refine cx_read (va_runV (As := [.int x1]) (rest := [.ref (q 8)]) ⟨hx, hb, hml, hown, hts⟩ (c_G_b l dC dI q cA pt u15 x1 _ hcl) (cw_Y_80 hts ⟨Nat.le_of_ble_eq_true rfl, Nat.le_of_ble_eq_true rfl⟩) ⟨pxX_B, va_recv hK hP (ci := 1) (q0 := 1) rfl rfl, pxX_U hP hK hD hN hZ hS⟩ rfl rfl hl.1 rfl (lv_room (Nat.le_of_ble_eq_true rfl)) d_Y_findNodesInBodies_102 ⟨Nat.zero_le _, Nat.zero_le _⟩) ?_
              obtain ⟨u17, hcl, h⟩ := bd_some h
              refine cx_wrv (va_runV (As := [.int r16]) (rest := []) ⟨hx, hb, hml, hown, hts⟩ (c_Y_markInBodies l dC dI q cA pt u15 r16 _ hcl) (cw_Y_99 hts ⟨Nat.le_of_ble_eq_true rfl, Nat.le_of_ble_eq_true rfl⟩) ⟨pxX_B, va_recv hK hP (ci := 2) (q0 := 8) rfl rfl, pxX_U hP hK hD hN hZ hS⟩ rfl rfl hl.1 rfl (lv_room (Nat.le_of_ble_eq_true rfl)) d_Y_findNodesInBodies_105 ⟨Nat.zero_le _, Nat.zero_le _⟩) hS (fun _ h => h) (fun H locs hP hS => ?_)
              have hD : va_D (AX q) (wX q cA u17) := dd_re (wX_f _ _ _ _) hD
              refine lv_iinc (v := x1 + (-1)) hx hb d_Y_findNodesInBodies_108 hl (k := 2) rfl rfl (by decide) rfl (fun ls hl => ?_)
              have hl : lv_has ls 3 [(1, .int (x1 + (-1))), (2, .int (PT_ r11.toNatClampNeg)), (0, .ref (q 8))] := hl
              refine lv_goto (tgt := 44) hx hb d_Y_findNodesInBodies_111 rfl ?_
              exact ih44 _ _ h _ _ _ hP hS (lv_sub hl [2, 0] rfl)
  have L10 : ∀ (N10 : Nat) (σ : MZ_) (x1 : Int32), f_Y_findNodesInBodies_L10 N10 σ x1 = some u → ∀ (H : Heap) (locs : List Loc) (ls : Array Slot), va_P (dC, dI) cls_ (wX q cA σ) H → va_S (AX q) s.heap H locs → lv_has ls 3 [(0, .ref (q 8)), (1, .int x1)] → W p l e (headSpec w_Y_findNodesInBodies rm_Y_findNodesInBodies).room s m ([.ref (q 8)] : List Value).toArray below meth c H locs 0 0 (MQ below (QW_ none (fun H => va_P (dC, dI) cls_ (wX q cA u) H) (AX q)) ([.ref (q 8)] : List Value).toArray s 0 0 (AX q)) (F0 m 10 ls []) := by
    intro N10
    induction N10 with
    | zero => intro σ x1 h; cases h
    | succ N10 ih10 =>
      intro σ x1 h H locs ls hP hS hl
      have hD : va_D (AX q) (wX q cA σ) := dd_re (wX_f _ _ _ _) hD
      rw [f_Y_findNodesInBodies_L10] at h
      refine lv_iload_n hx hb d_Y_findNodesInBodies_10 rfl (lv_at hl 1 rfl) ?_
      refine lv_bipush (v := 6) hx hb d_Y_findNodesInBodies_11 (by decide) ?_
      refine lv_icmp_ge (tgt := 34) hx hb d_Y_findNodesInBodies_13 rfl (fun hc => ?_) (fun hc => ?_)
      · have h := if_t hc h
        refine lv_aload_n hx hb d_Y_findNodesInBodies_34 rfl (lv_at hl 0 rfl) ?_
        refine gf_Y_28 hx hb hts hown hK hP d_Y_findNodesInBodies_35 ?_
        obtain ⟨r2, hcl, h⟩ := bd_some h
        refine cx_read (va_runV (As := []) (rest := []) ⟨hx, hb, hml, hown, hts⟩ (c_G_size l dC dI q cA pt σ _ hcl) (cw_Y_69 hts ⟨Nat.le_of_ble_eq_true rfl, Nat.le_of_ble_eq_true rfl⟩) ⟨pxX_B, va_recv hK hP (ci := 1) (q0 := 1) rfl rfl, pxX_U hP hK hD hN hZ hS⟩ rfl rfl hl.1 rfl (lv_room (Nat.le_of_ble_eq_true rfl)) d_Y_findNodesInBodies_38 ⟨Nat.zero_le _, Nat.zero_le _⟩) ?_
        refine lv_iconst (v := 1) hx hb d_Y_findNodesInBodies_41 (by decide) ?_
        refine lv_isub hx hb d_Y_findNodesInBodies_42 ?_
        refine lv_istore_n hx hb d_Y_findNodesInBodies_43 rfl hl (by decide) rfl (fun ls hl => ?_)
        have hl : lv_has ls 3 [(1, .int (r2 - 1)), (0, .ref (q 8))] := hl
        exact L44 _ _ _ h _ _ _ hP hS (lv_sub hl [1, 0] rfl)
      · have h := if_f hc h
        refine lv_aload_n hx hb d_Y_findNodesInBodies_16 rfl (lv_at hl 0 rfl) ?_
        refine lv_aload_n hx hb d_Y_findNodesInBodies_17 rfl (lv_at hl 0 rfl) ?_
        refine gf_Y_28 hx hb hts hown hK hP d_Y_findNodesInBodies_18 ?_
        refine lv_iload_n hx hb d_Y_findNodesInBodies_21 rfl (lv_at hl 1 rfl) ?_
        obtain ⟨r3, hcl, h⟩ := bd_some h
        refine cx_read (va_runV (As := [.int x1]) (rest := [.ref (q 8)]) ⟨hx, hb, hml, hown, hts⟩ (c_G_body l dC dI q cA pt σ x1 _ hcl) (cw_Y_86 hts ⟨Nat.le_of_ble_eq_true rfl, Nat.le_of_ble_eq_true rfl⟩) ⟨pxX_B, va_recv hK hP (ci := 1) (q0 := 1) rfl rfl, pxX_U hP hK hD hN hZ hS⟩ rfl rfl hl.1 rfl (lv_room (Nat.le_of_ble_eq_true rfl)) d_Y_findNodesInBodies_22 ⟨Nat.zero_le _, Nat.zero_le _⟩) ?_
        obtain ⟨u4, hcl, h⟩ := bd_some h
        refine cx_wrv (va_runV (As := [.int r3]) (rest := []) ⟨hx, hb, hml, hown, hts⟩ (c_Y_markInBodies l dC dI q cA pt σ r3 _ hcl) (cw_Y_99 hts ⟨Nat.le_of_ble_eq_true rfl, Nat.le_of_ble_eq_true rfl⟩) ⟨pxX_B, va_recv hK hP (ci := 2) (q0 := 8) rfl rfl, pxX_U hP hK hD hN hZ hS⟩ rfl rfl hl.1 rfl (lv_room (Nat.le_of_ble_eq_true rfl)) d_Y_findNodesInBodies_25 ⟨Nat.zero_le _, Nat.zero_le _⟩) hS (fun _ h => h) (fun H locs hP hS => ?_)
        have hD : va_D (AX q) (wX q cA u4) := dd_re (wX_f _ _ _ _) hD
        refine lv_iinc (v := x1 + 1) hx hb d_Y_findNodesInBodies_28 hl (k := 1) rfl rfl (by decide) rfl (fun ls hl => ?_)
        have hl : lv_has ls 3 [(1, .int (x1 + 1)), (0, .ref (q 8))] := hl
        refine lv_goto (tgt := 10) hx hb d_Y_findNodesInBodies_31 rfl ?_
        exact ih10 _ _ h _ _ _ hP hS (lv_sub hl [1, 0] rfl)
  rw [f_Y_findNodesInBodies] at h
  refine lv_aload_n hx hb d_Y_findNodesInBodies_0 rfl (lv_at hl 0 rfl) ?_
  refine lv_aload_n hx hb d_Y_findNodesInBodies_1 rfl (lv_at hl 0 rfl) ?_
  refine gf_Y_18 hx hb hts hown hK hP d_Y_findNodesInBodies_2 ?_
  obtain ⟨u1, hcl, h⟩ := bd_some h
  refine cx_wrv (va_runV (As := [.ref (q 11)]) (rest := []) ⟨hx, hb, hml, hown, hts⟩ (c_Y_unmark_11 l dC dI q cA pt σ _ hcl) (cw_Y_65 hts ⟨Nat.le_of_ble_eq_true rfl, Nat.le_of_ble_eq_true rfl⟩) ⟨pxX_B, va_recv hK hP (ci := 2) (q0 := 8) rfl rfl, pxX_U hP hK hD hN hZ hS⟩ rfl rfl hl.1 rfl (lv_room (Nat.le_of_ble_eq_true rfl)) d_Y_findNodesInBodies_5 ⟨Nat.zero_le _, Nat.zero_le _⟩) hS (fun _ h => h) (fun H locs hP hS => ?_)
  have hD : va_D (AX q) (wX q cA u1) := dd_re (wX_f _ _ _ _) hD
  refine lv_iconst (v := 0) hx hb d_Y_findNodesInBodies_8 (by decide) ?_
  refine lv_istore_n hx hb d_Y_findNodesInBodies_9 rfl hl (by decide) rfl (fun ls hl => ?_)
  have hl : lv_has ls 3 [(1, .int 0), (0, .ref (q 8))] := hl
  exact L10 _ _ _ h _ _ _ hP hS (lv_sub hl [1, 0] rfl)
def y_Y_hasRuleWithoutBody : MethodName := ⟨"StagedParsers$Study", "hasRuleWithoutBody", "()Z"⟩
def w_Y_hasRuleWithoutBody : List Cond := .code y_Y_hasRuleWithoutBody prog_6_method_18_code 2 (some .boolean) :: AW_
def rm_Y_hasRuleWithoutBody : Room := { frames := 2, cells := 0, slots := 0, locals := 42 }
theorem d_Y_hasRuleWithoutBody_0 : decode prog_6_method_18_code 0 = .ok (.iconst 0, 1) := by decide +kernel
theorem d_Y_hasRuleWithoutBody_1 : decode prog_6_method_18_code 1 = .ok (.istore_n 1, 1) := by decide +kernel
theorem d_Y_hasRuleWithoutBody_2 : decode prog_6_method_18_code 2 = .ok (.iload_n 1, 1) := by decide +kernel
theorem d_Y_hasRuleWithoutBody_3 : decode prog_6_method_18_code 3 = .ok (.aload_n 0, 1) := by decide +kernel
theorem d_Y_hasRuleWithoutBody_4 : decode prog_6_method_18_code 4 = .ok (.getfield 28, 3) := by decide +kernel
theorem d_Y_hasRuleWithoutBody_7 : decode prog_6_method_18_code 7 = .ok (.invokevirtual 69, 3) := by decide +kernel
theorem d_Y_hasRuleWithoutBody_10 : decode prog_6_method_18_code 10 = .ok (.if_icmp .ge 51, 3) := by decide +kernel
theorem d_Y_hasRuleWithoutBody_13 : decode prog_6_method_18_code 13 = .ok (.aload_n 0, 1) := by decide +kernel
theorem d_Y_hasRuleWithoutBody_14 : decode prog_6_method_18_code 14 = .ok (.getfield 18, 3) := by decide +kernel
theorem d_Y_hasRuleWithoutBody_17 : decode prog_6_method_18_code 17 = .ok (.iload_n 1, 1) := by decide +kernel
theorem d_Y_hasRuleWithoutBody_18 : decode prog_6_method_18_code 18 = .ok (.baload, 1) := by decide +kernel
theorem d_Y_hasRuleWithoutBody_19 : decode prog_6_method_18_code 19 = .ok (.ifCond .eq 36, 3) := by decide +kernel
theorem d_Y_hasRuleWithoutBody_22 : decode prog_6_method_18_code 22 = .ok (.aload_n 0, 1) := by decide +kernel
theorem d_Y_hasRuleWithoutBody_23 : decode prog_6_method_18_code 23 = .ok (.getfield 28, 3) := by decide +kernel
theorem d_Y_hasRuleWithoutBody_26 : decode prog_6_method_18_code 26 = .ok (.iload_n 1, 1) := by decide +kernel
theorem d_Y_hasRuleWithoutBody_27 : decode prog_6_method_18_code 27 = .ok (.invokevirtual 83, 3) := by decide +kernel
theorem d_Y_hasRuleWithoutBody_30 : decode prog_6_method_18_code 30 = .ok (.bipush 11, 2) := by decide +kernel
theorem d_Y_hasRuleWithoutBody_32 : decode prog_6_method_18_code 32 = .ok (.if_icmp .ne 23, 3) := by decide +kernel
theorem d_Y_hasRuleWithoutBody_35 : decode prog_6_method_18_code 35 = .ok (.aload_n 0, 1) := by decide +kernel
theorem d_Y_hasRuleWithoutBody_36 : decode prog_6_method_18_code 36 = .ok (.getfield 28, 3) := by decide +kernel
theorem d_Y_hasRuleWithoutBody_39 : decode prog_6_method_18_code 39 = .ok (.aload_n 0, 1) := by decide +kernel
theorem d_Y_hasRuleWithoutBody_40 : decode prog_6_method_18_code 40 = .ok (.getfield 28, 3) := by decide +kernel
theorem d_Y_hasRuleWithoutBody_43 : decode prog_6_method_18_code 43 = .ok (.iload_n 1, 1) := by decide +kernel
theorem d_Y_hasRuleWithoutBody_44 : decode prog_6_method_18_code 44 = .ok (.invokevirtual 76, 3) := by decide +kernel
theorem d_Y_hasRuleWithoutBody_47 : decode prog_6_method_18_code 47 = .ok (.invokevirtual 105, 3) := by decide +kernel
theorem d_Y_hasRuleWithoutBody_50 : decode prog_6_method_18_code 50 = .ok (.ifCond .ne 5, 3) := by decide +kernel
theorem d_Y_hasRuleWithoutBody_53 : decode prog_6_method_18_code 53 = .ok (.iconst 1, 1) := by decide +kernel
theorem d_Y_hasRuleWithoutBody_54 : decode prog_6_method_18_code 54 = .ok (.ireturn, 1) := by decide +kernel
theorem d_Y_hasRuleWithoutBody_55 : decode prog_6_method_18_code 55 = .ok (.iinc 1 1, 3) := by decide +kernel
theorem d_Y_hasRuleWithoutBody_58 : decode prog_6_method_18_code 58 = .ok (.goto (-56), 3) := by decide +kernel
theorem d_Y_hasRuleWithoutBody_61 : decode prog_6_method_18_code 61 = .ok (.iconst 0, 1) := by decide +kernel
theorem d_Y_hasRuleWithoutBody_62 : decode prog_6_method_18_code 62 = .ok (.ireturn, 1) := by decide +kernel
section RW
variable {p : Program} {l : Launch} {e : Env} {R : Room} {s : State} {m : MethodId} {args : Array Value} {below : List Frame} {meth : Method} {c : Code} {H : Heap} {locs : List Loc} {cells slots : Nat} {Q : State → Prop}
variable {cc : ByteArray} {pc : Nat} {ls : Array Slot} {rest : List Value} {dC : Nat → ClassId} {dI : Nat → Nat → Nat} {q : Nat → Nat} {cA : Nat → ClassId} {σ : MZ_} {H0 : Heap} {A : Nat → Prop}

theorem cw_Y_105 (hts : ∀ w ∈ AW_, w.before args s = true) (hR : rm_G_hasBody.frames + 1 ≤ R.frames ∧ 8 + (2 + 11) + rm_G_hasBody.locals ≤ R.locals) : CallW R s args "StagedParsers$Study" "StagedParsers$Grammar" 105 y_G_hasBody prog_4_method_6_code 2 (some .boolean) w_G_hasBody rm_G_hasBody 0 0 1 :=
  ⟨callB_of 1 hts (aw_in kw_295) rfl rfl rfl (hts _ kw_2) (hts _ kw_292) ⟨by decide, by decide, by decide +kernel⟩ hR, hts _ kw_293, hts _ kw_294⟩
end RW
def f_Y_hasRuleWithoutBody_L2 (σ : MZ_) : Nat → Int32 → Option (Int32)
  | 0, _ => none
  | N + 1, x1 => (f_G_size σ).bind fun r1 => if r1 ≤ x1 then some 0
    else gd_ x1 80 (if (σ 11 x1.toNatClampNeg) = 0 then f_Y_hasRuleWithoutBody_L2 σ N (x1 + 1)
    else (f_G_kind σ x1).bind fun r2 => if r2 = 11 then (f_G_a σ x1).bind fun r3 => (f_G_hasBody σ r3).bind fun r4 => if r4 = 0 then some 1
      else f_Y_hasRuleWithoutBody_L2 σ N (x1 + 1)
    else f_Y_hasRuleWithoutBody_L2 σ N (x1 + 1))
def f_Y_hasRuleWithoutBody (σ : MZ_) : Option (Int32) :=
  f_Y_hasRuleWithoutBody_L2 σ 100 0
set_option maxHeartbeats 4000000 in
set_option maxRecDepth 100000 in
theorem c_Y_hasRuleWithoutBody (l : Launch) (dC : Nat → ClassId) (dI : Nat → Nat → Nat) (q : Nat → Nat) (cA : Nat → ClassId) (pt : Nat) (σ : MZ_) (u : Int32) (h : f_Y_hasRuleWithoutBody σ = some u) : Met l y_Y_hasRuleWithoutBody w_Y_hasRuleWithoutBody rm_Y_hasRuleWithoutBody (va_Pc [.ref (q 8)] (PX_ dC dI q cA pt σ)) (QcRead u) 0 0 (fun _ => False) := by
  refine Met.ofW (cc := prog_6_method_18_code) (maxL := 2) (ret := (some .boolean)) (by decide) rfl ?_
  intro p e s m args below meth c s₁ B hml hv
  obtain ⟨rfl, hP, hK, hD, hN, hZ⟩ := hv
  have hx := B.exec
  have hb := B.bytes
  have hr := B.returns
  have hts : ∀ w ∈ AW_, w.before _ s = true := fun w h => atoms_spec (ws := w_Y_hasRuleWithoutBody) B.pre w (List.mem_cons_of_mem _ h)
  have hown : s.vm.findClass "StagedParsers$Study" = some m.cls := findClass_of_methodNamed B.named
  have hlocks := B.notSynchronized
  have hS : va_S (AX q) s.heap s.heap [] := va_S.rf
  have hl := lv_entry ([.ref (q 8)]) (n := 2) (Nat.le_of_ble_eq_true rfl)
  rw [lg_entry_eq]
  generalize (lg_sl ([.ref (q 8)]) ++ List.replicate (2 - (lg_sl ([.ref (q 8)])).length) Slot.unset).toArray = ls at hl ⊢
  have hl : lv_has ls 2 [(0, .ref (q 8))] := hl
  have L2 : ∀ (N2 : Nat) (x1 : Int32), f_Y_hasRuleWithoutBody_L2 σ N2 x1 = some u → ∀ (ls : Array Slot), lv_has ls 2 [(0, .ref (q 8)), (1, .int x1)] → W p l e (headSpec w_Y_hasRuleWithoutBody rm_Y_hasRuleWithoutBody).room s m ([.ref (q 8)] : List Value).toArray below meth c s.heap [] 0 0 (MQ below (QcRead u) ([.ref (q 8)] : List Value).toArray s 0 0 (fun _ => False)) (F0 m 2 ls []) := by
    intro N2
    induction N2 with
    | zero => intro x1 h; cases h
    | succ N2 ih2 =>
      intro x1 h ls hl
      rw [f_Y_hasRuleWithoutBody_L2] at h
      refine lv_iload_n hx hb d_Y_hasRuleWithoutBody_2 rfl (lv_at hl 1 rfl) ?_
      refine lv_aload_n hx hb d_Y_hasRuleWithoutBody_3 rfl (lv_at hl 0 rfl) ?_
      refine gf_Y_28 hx hb hts hown hK hP d_Y_hasRuleWithoutBody_4 ?_
      obtain ⟨r1, hcl, h⟩ := bd_some h
      refine cx_read (va_runV (As := []) (rest := [.int x1]) ⟨hx, hb, hml, hown, hts⟩ (c_G_size l dC dI q cA pt σ _ hcl) (cw_Y_69 hts ⟨Nat.le_of_ble_eq_true rfl, Nat.le_of_ble_eq_true rfl⟩) ⟨pxX_B, va_recv hK hP (ci := 1) (q0 := 1) rfl rfl, pxX_U hP hK hD hN hZ hS⟩ rfl rfl hl.1 rfl (lv_room (Nat.le_of_ble_eq_true rfl)) d_Y_hasRuleWithoutBody_7 ⟨Nat.zero_le _, Nat.zero_le _⟩) ?_
      refine lv_icmp_ge (tgt := 61) hx hb d_Y_hasRuleWithoutBody_10 rfl (fun hc => ?_) (fun hc => ?_)
      · have h := if_t hc h
        refine lv_iconst (v := 0) hx hb d_Y_hasRuleWithoutBody_61 (by decide) ?_
        obtain rfl := Option.some.inj h
        exact W.zret hx hb hr rfl (fun t ht hW => ⟨rfl, ht⟩) (fun _ h9 => nomatch h9) d_Y_hasRuleWithoutBody_62
      · have h := if_f hc h
        refine lv_aload_n hx hb d_Y_hasRuleWithoutBody_13 rfl (lv_at hl 0 rfl) ?_
        refine gf_Y_18 hx hb hts hown hK hP d_Y_hasRuleWithoutBody_14 ?_
        refine lv_iload_n hx hb d_Y_hasRuleWithoutBody_17 rfl (lv_at hl 1 rfl) ?_
        obtain ⟨hgd, h⟩ := gd_some h
        refine al_X_11 hx hb hK hP hgd d_Y_hasRuleWithoutBody_18 ?_
        refine lv_if_eq (tgt := 55) hx hb d_Y_hasRuleWithoutBody_19 rfl (fun hc => ?_) (fun hc => ?_)
        · have h := if_t hc h
          refine lv_iinc (v := x1 + 1) hx hb d_Y_hasRuleWithoutBody_55 hl (k := 1) rfl rfl (by decide) rfl (fun ls hl => ?_)
          have hl : lv_has ls 2 [(1, .int (x1 + 1)), (0, .ref (q 8))] := hl
          refine lv_goto (tgt := 2) hx hb d_Y_hasRuleWithoutBody_58 rfl ?_
          exact ih2 _ h _ (lv_sub hl [1, 0] rfl)
        · have h := if_f hc h
          refine lv_aload_n hx hb d_Y_hasRuleWithoutBody_22 rfl (lv_at hl 0 rfl) ?_
          refine gf_Y_28 hx hb hts hown hK hP d_Y_hasRuleWithoutBody_23 ?_
          refine lv_iload_n hx hb d_Y_hasRuleWithoutBody_26 rfl (lv_at hl 1 rfl) ?_
          obtain ⟨r2, hcl, h⟩ := bd_some h
          refine cx_read (va_runV (As := [.int x1]) (rest := []) ⟨hx, hb, hml, hown, hts⟩ (c_G_kind l dC dI q cA pt σ x1 _ hcl) (cw_Y_83 hts ⟨Nat.le_of_ble_eq_true rfl, Nat.le_of_ble_eq_true rfl⟩) ⟨pxX_B, va_recv hK hP (ci := 1) (q0 := 1) rfl rfl, pxX_U hP hK hD hN hZ hS⟩ rfl rfl hl.1 rfl (lv_room (Nat.le_of_ble_eq_true rfl)) d_Y_hasRuleWithoutBody_27 ⟨Nat.zero_le _, Nat.zero_le _⟩) ?_
          refine lv_bipush (v := 11) hx hb d_Y_hasRuleWithoutBody_30 (by decide) ?_
          refine lv_icmp_ne (tgt := 55) hx hb d_Y_hasRuleWithoutBody_32 rfl (fun hc => ?_) (fun hc => ?_)
          · have h := if_f hc h
            refine lv_iinc (v := x1 + 1) hx hb d_Y_hasRuleWithoutBody_55 hl (k := 1) rfl rfl (by decide) rfl (fun ls hl => ?_)
            have hl : lv_has ls 2 [(1, .int (x1 + 1)), (0, .ref (q 8))] := hl
            refine lv_goto (tgt := 2) hx hb d_Y_hasRuleWithoutBody_58 rfl ?_
            exact ih2 _ h _ (lv_sub hl [1, 0] rfl)
          · have h := if_t hc h
            refine lv_aload_n hx hb d_Y_hasRuleWithoutBody_35 rfl (lv_at hl 0 rfl) ?_
            refine gf_Y_28 hx hb hts hown hK hP d_Y_hasRuleWithoutBody_36 ?_
            refine lv_aload_n hx hb d_Y_hasRuleWithoutBody_39 rfl (lv_at hl 0 rfl) ?_
            refine gf_Y_28 hx hb hts hown hK hP d_Y_hasRuleWithoutBody_40 ?_
            refine lv_iload_n hx hb d_Y_hasRuleWithoutBody_43 rfl (lv_at hl 1 rfl) ?_
            obtain ⟨r3, hcl, h⟩ := bd_some h
            refine cx_read (va_runV (As := [.int x1]) (rest := [.ref (q 1)]) ⟨hx, hb, hml, hown, hts⟩ (c_G_a l dC dI q cA pt σ x1 _ hcl) (cw_Y_76 hts ⟨Nat.le_of_ble_eq_true rfl, Nat.le_of_ble_eq_true rfl⟩) ⟨pxX_B, va_recv hK hP (ci := 1) (q0 := 1) rfl rfl, pxX_U hP hK hD hN hZ hS⟩ rfl rfl hl.1 rfl (lv_room (Nat.le_of_ble_eq_true rfl)) d_Y_hasRuleWithoutBody_44 ⟨Nat.zero_le _, Nat.zero_le _⟩) ?_
            obtain ⟨r4, hcl, h⟩ := bd_some h
            refine cx_read (va_runV (As := [.int r3]) (rest := []) ⟨hx, hb, hml, hown, hts⟩ (c_G_hasBody l dC dI q cA pt σ r3 _ hcl) (cw_Y_105 hts ⟨Nat.le_of_ble_eq_true rfl, Nat.le_of_ble_eq_true rfl⟩) ⟨pxX_B, va_recv hK hP (ci := 1) (q0 := 1) rfl rfl, pxX_U hP hK hD hN hZ hS⟩ rfl rfl hl.1 rfl (lv_room (Nat.le_of_ble_eq_true rfl)) d_Y_hasRuleWithoutBody_47 ⟨Nat.zero_le _, Nat.zero_le _⟩) ?_
            refine lv_if_ne (tgt := 55) hx hb d_Y_hasRuleWithoutBody_50 rfl (fun hc => ?_) (fun hc => ?_)
            · have h := if_f hc h
              refine lv_iinc (v := x1 + 1) hx hb d_Y_hasRuleWithoutBody_55 hl (k := 1) rfl rfl (by decide) rfl (fun ls hl => ?_)
              have hl : lv_has ls 2 [(1, .int (x1 + 1)), (0, .ref (q 8))] := hl
              refine lv_goto (tgt := 2) hx hb d_Y_hasRuleWithoutBody_58 rfl ?_
              exact ih2 _ h _ (lv_sub hl [1, 0] rfl)
            · have h := if_t hc h
              refine lv_iconst (v := 1) hx hb d_Y_hasRuleWithoutBody_53 (by decide) ?_
              obtain rfl := Option.some.inj h
              exact W.zret hx hb hr rfl (fun t ht hW => ⟨rfl, ht⟩) (fun _ h9 => nomatch h9) d_Y_hasRuleWithoutBody_54
  rw [f_Y_hasRuleWithoutBody] at h
  refine lv_iconst (v := 0) hx hb d_Y_hasRuleWithoutBody_0 (by decide) ?_
  refine lv_istore_n hx hb d_Y_hasRuleWithoutBody_1 rfl hl (by decide) rfl (fun ls hl => ?_)
  have hl : lv_has ls 2 [(1, .int 0), (0, .ref (q 8))] := hl
  exact L2 _ _ h _ (lv_sub hl [1, 0] rfl)
def y_Y_couldLoop : MethodName := ⟨"StagedParsers$Study", "couldLoop", "(I)Z"⟩
def w_Y_couldLoop : List Cond := .code y_Y_couldLoop prog_6_method_20_code 3 (some .boolean) :: AW_
def rm_Y_couldLoop : Room := { frames := 2, cells := 0, slots := 0, locals := 43 }
theorem d_Y_couldLoop_0 : decode prog_6_method_20_code 0 = .ok (.aload_n 0, 1) := by decide +kernel
theorem d_Y_couldLoop_1 : decode prog_6_method_20_code 1 = .ok (.aload_n 0, 1) := by decide +kernel
theorem d_Y_couldLoop_2 : decode prog_6_method_20_code 2 = .ok (.getfield 9, 3) := by decide +kernel
theorem d_Y_couldLoop_5 : decode prog_6_method_20_code 5 = .ok (.aload_n 0, 1) := by decide +kernel
theorem d_Y_couldLoop_6 : decode prog_6_method_20_code 6 = .ok (.getfield 28, 3) := by decide +kernel
theorem d_Y_couldLoop_9 : decode prog_6_method_20_code 9 = .ok (.iload_n 1, 1) := by decide +kernel
theorem d_Y_couldLoop_10 : decode prog_6_method_20_code 10 = .ok (.invokevirtual 76, 3) := by decide +kernel
theorem d_Y_couldLoop_13 : decode prog_6_method_20_code 13 = .ok (.invokevirtual 35, 3) := by decide +kernel
theorem d_Y_couldLoop_16 : decode prog_6_method_20_code 16 = .ok (.istore_n 2, 1) := by decide +kernel
theorem d_Y_couldLoop_17 : decode prog_6_method_20_code 17 = .ok (.aload_n 0, 1) := by decide +kernel
theorem d_Y_couldLoop_18 : decode prog_6_method_20_code 18 = .ok (.getfield 28, 3) := by decide +kernel
theorem d_Y_couldLoop_21 : decode prog_6_method_20_code 21 = .ok (.iload_n 1, 1) := by decide +kernel
theorem d_Y_couldLoop_22 : decode prog_6_method_20_code 22 = .ok (.invokevirtual 83, 3) := by decide +kernel
theorem d_Y_couldLoop_25 : decode prog_6_method_20_code 25 = .ok (.lookupswitch 58 #[(9, 27), (10, 29)], 27) := by decide +kernel
theorem d_Y_couldLoop_52 : decode prog_6_method_20_code 52 = .ok (.iload_n 2, 1) := by decide +kernel
theorem d_Y_couldLoop_53 : decode prog_6_method_20_code 53 = .ok (.ireturn, 1) := by decide +kernel
theorem d_Y_couldLoop_54 : decode prog_6_method_20_code 54 = .ok (.iload_n 2, 1) := by decide +kernel
theorem d_Y_couldLoop_55 : decode prog_6_method_20_code 55 = .ok (.ifCond .eq 26, 3) := by decide +kernel
theorem d_Y_couldLoop_58 : decode prog_6_method_20_code 58 = .ok (.aload_n 0, 1) := by decide +kernel
theorem d_Y_couldLoop_59 : decode prog_6_method_20_code 59 = .ok (.aload_n 0, 1) := by decide +kernel
theorem d_Y_couldLoop_60 : decode prog_6_method_20_code 60 = .ok (.getfield 9, 3) := by decide +kernel
theorem d_Y_couldLoop_63 : decode prog_6_method_20_code 63 = .ok (.aload_n 0, 1) := by decide +kernel
theorem d_Y_couldLoop_64 : decode prog_6_method_20_code 64 = .ok (.getfield 28, 3) := by decide +kernel
theorem d_Y_couldLoop_67 : decode prog_6_method_20_code 67 = .ok (.iload_n 1, 1) := by decide +kernel
theorem d_Y_couldLoop_68 : decode prog_6_method_20_code 68 = .ok (.invokevirtual 80, 3) := by decide +kernel
theorem d_Y_couldLoop_71 : decode prog_6_method_20_code 71 = .ok (.invokevirtual 35, 3) := by decide +kernel
theorem d_Y_couldLoop_74 : decode prog_6_method_20_code 74 = .ok (.ifCond .eq 7, 3) := by decide +kernel
theorem d_Y_couldLoop_77 : decode prog_6_method_20_code 77 = .ok (.iconst 1, 1) := by decide +kernel
theorem d_Y_couldLoop_78 : decode prog_6_method_20_code 78 = .ok (.goto 4, 3) := by decide +kernel
theorem d_Y_couldLoop_81 : decode prog_6_method_20_code 81 = .ok (.iconst 0, 1) := by decide +kernel
theorem d_Y_couldLoop_82 : decode prog_6_method_20_code 82 = .ok (.ireturn, 1) := by decide +kernel
theorem d_Y_couldLoop_83 : decode prog_6_method_20_code 83 = .ok (.iconst 0, 1) := by decide +kernel
theorem d_Y_couldLoop_84 : decode prog_6_method_20_code 84 = .ok (.ireturn, 1) := by decide +kernel
def f_Y_couldLoop (σ : MZ_) (a1 : Int32) : Option (Int32) :=
  (f_G_a σ a1).bind fun r1 => (f_Y_marked_9 σ r1).bind fun r2 => (f_G_kind σ a1).bind fun r3 => if r3 = 9 then bo_ r2 (some r2)
  else if r3 = 10 then if r2 = 0 then some 0
    else (f_G_b σ a1).bind fun r4 => (f_Y_marked_9 σ r4).bind fun r5 => if r5 = 0 then some 0
    else some 1
  else some 0
set_option maxHeartbeats 4000000 in
set_option maxRecDepth 100000 in
theorem c_Y_couldLoop (l : Launch) (dC : Nat → ClassId) (dI : Nat → Nat → Nat) (q : Nat → Nat) (cA : Nat → ClassId) (pt : Nat) (σ : MZ_) (a1 : Int32) (u : Int32) (h : f_Y_couldLoop σ a1 = some u) : Met l y_Y_couldLoop w_Y_couldLoop rm_Y_couldLoop (va_Pc [.ref (q 8), .int a1] (PX_ dC dI q cA pt σ)) (QcRead u) 0 0 (fun _ => False) := by
  refine Met.ofW (cc := prog_6_method_20_code) (maxL := 3) (ret := (some .boolean)) (by decide) rfl ?_
  intro p e s m args below meth c s₁ B hml hv
  obtain ⟨rfl, hP, hK, hD, hN, hZ⟩ := hv
  have hx := B.exec
  have hb := B.bytes
  have hr := B.returns
  have hts : ∀ w ∈ AW_, w.before _ s = true := fun w h => atoms_spec (ws := w_Y_couldLoop) B.pre w (List.mem_cons_of_mem _ h)
  have hown : s.vm.findClass "StagedParsers$Study" = some m.cls := findClass_of_methodNamed B.named
  have hlocks := B.notSynchronized
  have hS : va_S (AX q) s.heap s.heap [] := va_S.rf
  have hl := lv_entry ([.ref (q 8), .int a1]) (n := 3) (Nat.le_of_ble_eq_true rfl)
  rw [lg_entry_eq]
  generalize (lg_sl ([.ref (q 8), .int a1]) ++ List.replicate (3 - (lg_sl ([.ref (q 8), .int a1])).length) Slot.unset).toArray = ls at hl ⊢
  have hl : lv_has ls 3 [(0, .ref (q 8)), (1, .int a1)] := hl
  rw [f_Y_couldLoop] at h
  refine lv_aload_n hx hb d_Y_couldLoop_0 rfl (lv_at hl 0 rfl) ?_
  refine lv_aload_n hx hb d_Y_couldLoop_1 rfl (lv_at hl 0 rfl) ?_
  refine gf_Y_9 hx hb hts hown hK hP d_Y_couldLoop_2 ?_
  refine lv_aload_n hx hb d_Y_couldLoop_5 rfl (lv_at hl 0 rfl) ?_
  refine gf_Y_28 hx hb hts hown hK hP d_Y_couldLoop_6 ?_
  refine lv_iload_n hx hb d_Y_couldLoop_9 rfl (lv_at hl 1 rfl) ?_
  obtain ⟨r1, hcl, h⟩ := bd_some h
  refine cx_read (va_runV (As := [.int a1]) (rest := [.ref (q 9), .ref (q 8)]) ⟨hx, hb, hml, hown, hts⟩ (c_G_a l dC dI q cA pt σ a1 _ hcl) (cw_Y_76 hts ⟨Nat.le_of_ble_eq_true rfl, Nat.le_of_ble_eq_true rfl⟩) ⟨pxX_B, va_recv hK hP (ci := 1) (q0 := 1) rfl rfl, pxX_U hP hK hD hN hZ hS⟩ rfl rfl hl.1 rfl (lv_room (Nat.le_of_ble_eq_true rfl)) d_Y_couldLoop_10 ⟨Nat.zero_le _, Nat.zero_le _⟩) ?_
  obtain ⟨r2, hcl, h⟩ := bd_some h
  refine cx_read (va_runV (As := [.ref (q 9), .int r1]) (rest := []) ⟨hx, hb, hml, hown, hts⟩ (c_Y_marked_9 l dC dI q cA pt σ r1 _ hcl) (cw_Y_35 hts ⟨Nat.le_of_ble_eq_true rfl, Nat.le_of_ble_eq_true rfl⟩) ⟨pxX_B, va_recv hK hP (ci := 2) (q0 := 8) rfl rfl, pxX_U hP hK hD hN hZ hS⟩ rfl rfl hl.1 rfl (lv_room (Nat.le_of_ble_eq_true rfl)) d_Y_couldLoop_13 ⟨Nat.zero_le _, Nat.zero_le _⟩) ?_
  refine lv_istore_n hx hb d_Y_couldLoop_16 rfl hl (by decide) rfl (fun ls hl => ?_)
  have hl : lv_has ls 3 [(2, .int r2), (0, .ref (q 8)), (1, .int a1)] := hl
  refine lv_aload_n hx hb d_Y_couldLoop_17 rfl (lv_at hl 1 rfl) ?_
  refine gf_Y_28 hx hb hts hown hK hP d_Y_couldLoop_18 ?_
  refine lv_iload_n hx hb d_Y_couldLoop_21 rfl (lv_at hl 2 rfl) ?_
  obtain ⟨r3, hcl, h⟩ := bd_some h
  refine cx_read (va_runV (As := [.int a1]) (rest := []) ⟨hx, hb, hml, hown, hts⟩ (c_G_kind l dC dI q cA pt σ a1 _ hcl) (cw_Y_83 hts ⟨Nat.le_of_ble_eq_true rfl, Nat.le_of_ble_eq_true rfl⟩) ⟨pxX_B, va_recv hK hP (ci := 1) (q0 := 1) rfl rfl, pxX_U hP hK hD hN hZ hS⟩ rfl rfl hl.1 rfl (lv_room (Nat.le_of_ble_eq_true rfl)) d_Y_couldLoop_22 ⟨Nat.zero_le _, Nat.zero_le _⟩) ?_
  by_cases hc0 : r3 = 9
  · have h := if_t hc0 h
    refine sw_lk (tgt := 52) hx hb d_Y_couldLoop_25 rfl hc0 rfl rfl ?_
    refine lv_iload_n hx hb d_Y_couldLoop_52 rfl (lv_at hl 0 rfl) ?_
    obtain ⟨hbo, h⟩ := bo_some h
    obtain rfl := Option.some.inj h
    exact W.zret hx hb hr (bo_nar hbo) (fun t ht hW => ⟨rfl, ht⟩) (fun _ h9 => nomatch h9) d_Y_couldLoop_53
  have h := if_f hc0 h
  by_cases hc1 : r3 = 10
  · have h := if_t hc1 h
    refine sw_lk (tgt := 54) hx hb d_Y_couldLoop_25 rfl hc1 rfl rfl ?_
    refine lv_iload_n hx hb d_Y_couldLoop_54 rfl (lv_at hl 0 rfl) ?_
    refine lv_if_eq (tgt := 81) hx hb d_Y_couldLoop_55 rfl (fun hc => ?_) (fun hc => ?_)
    · have h := if_t hc h
      refine lv_iconst (v := 0) hx hb d_Y_couldLoop_81 (by decide) ?_
      obtain rfl := Option.some.inj h
      exact W.zret hx hb hr rfl (fun t ht hW => ⟨rfl, ht⟩) (fun _ h9 => nomatch h9) d_Y_couldLoop_82
    · have h := if_f hc h
      refine lv_aload_n hx hb d_Y_couldLoop_58 rfl (lv_at hl 1 rfl) ?_
      refine lv_aload_n hx hb d_Y_couldLoop_59 rfl (lv_at hl 1 rfl) ?_
      refine gf_Y_9 hx hb hts hown hK hP d_Y_couldLoop_60 ?_
      refine lv_aload_n hx hb d_Y_couldLoop_63 rfl (lv_at hl 1 rfl) ?_
      refine gf_Y_28 hx hb hts hown hK hP d_Y_couldLoop_64 ?_
      refine lv_iload_n hx hb d_Y_couldLoop_67 rfl (lv_at hl 2 rfl) ?_
      obtain ⟨r4, hcl, h⟩ := bd_some h
      refine cx_read (va_runV (As := [.int a1]) (rest := [.ref (q 9), .ref (q 8)]) ⟨hx, hb, hml, hown, hts⟩ (c_G_b l dC dI q cA pt σ a1 _ hcl) (cw_Y_80 hts ⟨Nat.le_of_ble_eq_true rfl, Nat.le_of_ble_eq_true rfl⟩) ⟨pxX_B, va_recv hK hP (ci := 1) (q0 := 1) rfl rfl, pxX_U hP hK hD hN hZ hS⟩ rfl rfl hl.1 rfl (lv_room (Nat.le_of_ble_eq_true rfl)) d_Y_couldLoop_68 ⟨Nat.zero_le _, Nat.zero_le _⟩) ?_
      obtain ⟨r5, hcl, h⟩ := bd_some h
      refine cx_read (va_runV (As := [.ref (q 9), .int r4]) (rest := []) ⟨hx, hb, hml, hown, hts⟩ (c_Y_marked_9 l dC dI q cA pt σ r4 _ hcl) (cw_Y_35 hts ⟨Nat.le_of_ble_eq_true rfl, Nat.le_of_ble_eq_true rfl⟩) ⟨pxX_B, va_recv hK hP (ci := 2) (q0 := 8) rfl rfl, pxX_U hP hK hD hN hZ hS⟩ rfl rfl hl.1 rfl (lv_room (Nat.le_of_ble_eq_true rfl)) d_Y_couldLoop_71 ⟨Nat.zero_le _, Nat.zero_le _⟩) ?_
      refine lv_if_eq (tgt := 81) hx hb d_Y_couldLoop_74 rfl (fun hc => ?_) (fun hc => ?_)
      · have h := if_t hc h
        refine lv_iconst (v := 0) hx hb d_Y_couldLoop_81 (by decide) ?_
        obtain rfl := Option.some.inj h
        exact W.zret hx hb hr rfl (fun t ht hW => ⟨rfl, ht⟩) (fun _ h9 => nomatch h9) d_Y_couldLoop_82
      · have h := if_f hc h
        refine lv_iconst (v := 1) hx hb d_Y_couldLoop_77 (by decide) ?_
        refine lv_goto (tgt := 82) hx hb d_Y_couldLoop_78 rfl ?_
        obtain rfl := Option.some.inj h
        exact W.zret hx hb hr rfl (fun t ht hW => ⟨rfl, ht⟩) (fun _ h9 => nomatch h9) d_Y_couldLoop_82
  have h := if_f hc1 h
  refine lv_lookup (tgt := 83) hx hb d_Y_couldLoop_25 rfl ((lv_osw hc0 (by decide)).trans ((lv_osw hc1 (by decide)).trans rfl)) rfl ?_
  refine lv_iconst (v := 0) hx hb d_Y_couldLoop_83 (by decide) ?_
  obtain rfl := Option.some.inj h
  exact W.zret hx hb hr rfl (fun t ht hW => ⟨rfl, ht⟩) (fun _ h9 => nomatch h9) d_Y_couldLoop_84
def y_Y_hasEndlessLoop : MethodName := ⟨"StagedParsers$Study", "hasEndlessLoop", "()Z"⟩
def w_Y_hasEndlessLoop : List Cond := .code y_Y_hasEndlessLoop prog_6_method_19_code 2 (some .boolean) :: AW_
def rm_Y_hasEndlessLoop : Room := { frames := 3, cells := 0, slots := 0, locals := 65 }
theorem d_Y_hasEndlessLoop_0 : decode prog_6_method_19_code 0 = .ok (.iconst 0, 1) := by decide +kernel
theorem d_Y_hasEndlessLoop_1 : decode prog_6_method_19_code 1 = .ok (.istore_n 1, 1) := by decide +kernel
theorem d_Y_hasEndlessLoop_2 : decode prog_6_method_19_code 2 = .ok (.iload_n 1, 1) := by decide +kernel
theorem d_Y_hasEndlessLoop_3 : decode prog_6_method_19_code 3 = .ok (.aload_n 0, 1) := by decide +kernel
theorem d_Y_hasEndlessLoop_4 : decode prog_6_method_19_code 4 = .ok (.getfield 28, 3) := by decide +kernel
theorem d_Y_hasEndlessLoop_7 : decode prog_6_method_19_code 7 = .ok (.invokevirtual 69, 3) := by decide +kernel
theorem d_Y_hasEndlessLoop_10 : decode prog_6_method_19_code 10 = .ok (.if_icmp .ge 28, 3) := by decide +kernel
theorem d_Y_hasEndlessLoop_13 : decode prog_6_method_19_code 13 = .ok (.aload_n 0, 1) := by decide +kernel
theorem d_Y_hasEndlessLoop_14 : decode prog_6_method_19_code 14 = .ok (.getfield 18, 3) := by decide +kernel
theorem d_Y_hasEndlessLoop_17 : decode prog_6_method_19_code 17 = .ok (.iload_n 1, 1) := by decide +kernel
theorem d_Y_hasEndlessLoop_18 : decode prog_6_method_19_code 18 = .ok (.baload, 1) := by decide +kernel
theorem d_Y_hasEndlessLoop_19 : decode prog_6_method_19_code 19 = .ok (.ifCond .eq 13, 3) := by decide +kernel
theorem d_Y_hasEndlessLoop_22 : decode prog_6_method_19_code 22 = .ok (.aload_n 0, 1) := by decide +kernel
theorem d_Y_hasEndlessLoop_23 : decode prog_6_method_19_code 23 = .ok (.iload_n 1, 1) := by decide +kernel
theorem d_Y_hasEndlessLoop_24 : decode prog_6_method_19_code 24 = .ok (.invokevirtual 108, 3) := by decide +kernel
theorem d_Y_hasEndlessLoop_27 : decode prog_6_method_19_code 27 = .ok (.ifCond .eq 5, 3) := by decide +kernel
theorem d_Y_hasEndlessLoop_30 : decode prog_6_method_19_code 30 = .ok (.iconst 1, 1) := by decide +kernel
theorem d_Y_hasEndlessLoop_31 : decode prog_6_method_19_code 31 = .ok (.ireturn, 1) := by decide +kernel
theorem d_Y_hasEndlessLoop_32 : decode prog_6_method_19_code 32 = .ok (.iinc 1 1, 3) := by decide +kernel
theorem d_Y_hasEndlessLoop_35 : decode prog_6_method_19_code 35 = .ok (.goto (-33), 3) := by decide +kernel
theorem d_Y_hasEndlessLoop_38 : decode prog_6_method_19_code 38 = .ok (.iconst 0, 1) := by decide +kernel
theorem d_Y_hasEndlessLoop_39 : decode prog_6_method_19_code 39 = .ok (.ireturn, 1) := by decide +kernel
section RW
variable {p : Program} {l : Launch} {e : Env} {R : Room} {s : State} {m : MethodId} {args : Array Value} {below : List Frame} {meth : Method} {c : Code} {H : Heap} {locs : List Loc} {cells slots : Nat} {Q : State → Prop}
variable {cc : ByteArray} {pc : Nat} {ls : Array Slot} {rest : List Value} {dC : Nat → ClassId} {dI : Nat → Nat → Nat} {q : Nat → Nat} {cA : Nat → ClassId} {σ : MZ_} {H0 : Heap} {A : Nat → Prop}

theorem cw_Y_108 (hts : ∀ w ∈ AW_, w.before args s = true) (hR : rm_Y_couldLoop.frames + 1 ≤ R.frames ∧ 8 + (3 + 11) + rm_Y_couldLoop.locals ≤ R.locals) : CallW R s args "StagedParsers$Study" "StagedParsers$Study" 108 y_Y_couldLoop prog_6_method_20_code 3 (some .boolean) w_Y_couldLoop rm_Y_couldLoop 0 0 1 :=
  ⟨callB_of 1 hts (aw_in kw_303) rfl rfl rfl (hts _ kw_4) (hts _ kw_300) ⟨by decide, by decide, by decide +kernel⟩ hR, hts _ kw_302, hts _ ks_11⟩
end RW
def f_Y_hasEndlessLoop_L2 (σ : MZ_) : Nat → Int32 → Option (Int32)
  | 0, _ => none
  | N + 1, x1 => (f_G_size σ).bind fun r1 => if r1 ≤ x1 then some 0
    else gd_ x1 80 (if (σ 11 x1.toNatClampNeg) = 0 then f_Y_hasEndlessLoop_L2 σ N (x1 + 1)
    else (f_Y_couldLoop σ x1).bind fun r2 => if r2 = 0 then f_Y_hasEndlessLoop_L2 σ N (x1 + 1)
    else some 1)
def f_Y_hasEndlessLoop (σ : MZ_) : Option (Int32) :=
  f_Y_hasEndlessLoop_L2 σ 100 0
set_option maxHeartbeats 4000000 in
set_option maxRecDepth 100000 in
theorem c_Y_hasEndlessLoop (l : Launch) (dC : Nat → ClassId) (dI : Nat → Nat → Nat) (q : Nat → Nat) (cA : Nat → ClassId) (pt : Nat) (σ : MZ_) (u : Int32) (h : f_Y_hasEndlessLoop σ = some u) : Met l y_Y_hasEndlessLoop w_Y_hasEndlessLoop rm_Y_hasEndlessLoop (va_Pc [.ref (q 8)] (PX_ dC dI q cA pt σ)) (QcRead u) 0 0 (fun _ => False) := by
  refine Met.ofW (cc := prog_6_method_19_code) (maxL := 2) (ret := (some .boolean)) (by decide) rfl ?_
  intro p e s m args below meth c s₁ B hml hv
  obtain ⟨rfl, hP, hK, hD, hN, hZ⟩ := hv
  have hx := B.exec
  have hb := B.bytes
  have hr := B.returns
  have hts : ∀ w ∈ AW_, w.before _ s = true := fun w h => atoms_spec (ws := w_Y_hasEndlessLoop) B.pre w (List.mem_cons_of_mem _ h)
  have hown : s.vm.findClass "StagedParsers$Study" = some m.cls := findClass_of_methodNamed B.named
  have hlocks := B.notSynchronized
  have hS : va_S (AX q) s.heap s.heap [] := va_S.rf
  have hl := lv_entry ([.ref (q 8)]) (n := 2) (Nat.le_of_ble_eq_true rfl)
  rw [lg_entry_eq]
  generalize (lg_sl ([.ref (q 8)]) ++ List.replicate (2 - (lg_sl ([.ref (q 8)])).length) Slot.unset).toArray = ls at hl ⊢
  have hl : lv_has ls 2 [(0, .ref (q 8))] := hl
  have L2 : ∀ (N2 : Nat) (x1 : Int32), f_Y_hasEndlessLoop_L2 σ N2 x1 = some u → ∀ (ls : Array Slot), lv_has ls 2 [(0, .ref (q 8)), (1, .int x1)] → W p l e (headSpec w_Y_hasEndlessLoop rm_Y_hasEndlessLoop).room s m ([.ref (q 8)] : List Value).toArray below meth c s.heap [] 0 0 (MQ below (QcRead u) ([.ref (q 8)] : List Value).toArray s 0 0 (fun _ => False)) (F0 m 2 ls []) := by
    intro N2
    induction N2 with
    | zero => intro x1 h; cases h
    | succ N2 ih2 =>
      intro x1 h ls hl
      rw [f_Y_hasEndlessLoop_L2] at h
      refine lv_iload_n hx hb d_Y_hasEndlessLoop_2 rfl (lv_at hl 1 rfl) ?_
      refine lv_aload_n hx hb d_Y_hasEndlessLoop_3 rfl (lv_at hl 0 rfl) ?_
      refine gf_Y_28 hx hb hts hown hK hP d_Y_hasEndlessLoop_4 ?_
      obtain ⟨r1, hcl, h⟩ := bd_some h
      refine cx_read (va_runV (As := []) (rest := [.int x1]) ⟨hx, hb, hml, hown, hts⟩ (c_G_size l dC dI q cA pt σ _ hcl) (cw_Y_69 hts ⟨Nat.le_of_ble_eq_true rfl, Nat.le_of_ble_eq_true rfl⟩) ⟨pxX_B, va_recv hK hP (ci := 1) (q0 := 1) rfl rfl, pxX_U hP hK hD hN hZ hS⟩ rfl rfl hl.1 rfl (lv_room (Nat.le_of_ble_eq_true rfl)) d_Y_hasEndlessLoop_7 ⟨Nat.zero_le _, Nat.zero_le _⟩) ?_
      refine lv_icmp_ge (tgt := 38) hx hb d_Y_hasEndlessLoop_10 rfl (fun hc => ?_) (fun hc => ?_)
      · have h := if_t hc h
        refine lv_iconst (v := 0) hx hb d_Y_hasEndlessLoop_38 (by decide) ?_
        obtain rfl := Option.some.inj h
        exact W.zret hx hb hr rfl (fun t ht hW => ⟨rfl, ht⟩) (fun _ h9 => nomatch h9) d_Y_hasEndlessLoop_39
      · have h := if_f hc h
        refine lv_aload_n hx hb d_Y_hasEndlessLoop_13 rfl (lv_at hl 0 rfl) ?_
        refine gf_Y_18 hx hb hts hown hK hP d_Y_hasEndlessLoop_14 ?_
        refine lv_iload_n hx hb d_Y_hasEndlessLoop_17 rfl (lv_at hl 1 rfl) ?_
        obtain ⟨hgd, h⟩ := gd_some h
        refine al_X_11 hx hb hK hP hgd d_Y_hasEndlessLoop_18 ?_
        refine lv_if_eq (tgt := 32) hx hb d_Y_hasEndlessLoop_19 rfl (fun hc => ?_) (fun hc => ?_)
        · have h := if_t hc h
          refine lv_iinc (v := x1 + 1) hx hb d_Y_hasEndlessLoop_32 hl (k := 1) rfl rfl (by decide) rfl (fun ls hl => ?_)
          have hl : lv_has ls 2 [(1, .int (x1 + 1)), (0, .ref (q 8))] := hl
          refine lv_goto (tgt := 2) hx hb d_Y_hasEndlessLoop_35 rfl ?_
          exact ih2 _ h _ (lv_sub hl [1, 0] rfl)
        · have h := if_f hc h
          refine lv_aload_n hx hb d_Y_hasEndlessLoop_22 rfl (lv_at hl 0 rfl) ?_
          refine lv_iload_n hx hb d_Y_hasEndlessLoop_23 rfl (lv_at hl 1 rfl) ?_
          obtain ⟨r2, hcl, h⟩ := bd_some h
          refine cx_read (va_runV (As := [.int x1]) (rest := []) ⟨hx, hb, hml, hown, hts⟩ (c_Y_couldLoop l dC dI q cA pt σ x1 _ hcl) (cw_Y_108 hts ⟨Nat.le_of_ble_eq_true rfl, Nat.le_of_ble_eq_true rfl⟩) ⟨pxX_B, va_recv hK hP (ci := 2) (q0 := 8) rfl rfl, pxX_U hP hK hD hN hZ hS⟩ rfl rfl hl.1 rfl (lv_room (Nat.le_of_ble_eq_true rfl)) d_Y_hasEndlessLoop_24 ⟨Nat.zero_le _, Nat.zero_le _⟩) ?_
          refine lv_if_eq (tgt := 32) hx hb d_Y_hasEndlessLoop_27 rfl (fun hc => ?_) (fun hc => ?_)
          · have h := if_t hc h
            refine lv_iinc (v := x1 + 1) hx hb d_Y_hasEndlessLoop_32 hl (k := 1) rfl rfl (by decide) rfl (fun ls hl => ?_)
            have hl : lv_has ls 2 [(1, .int (x1 + 1)), (0, .ref (q 8))] := hl
            refine lv_goto (tgt := 2) hx hb d_Y_hasEndlessLoop_35 rfl ?_
            exact ih2 _ h _ (lv_sub hl [1, 0] rfl)
          · have h := if_f hc h
            refine lv_iconst (v := 1) hx hb d_Y_hasEndlessLoop_30 (by decide) ?_
            obtain rfl := Option.some.inj h
            exact W.zret hx hb hr rfl (fun t ht hW => ⟨rfl, ht⟩) (fun _ h9 => nomatch h9) d_Y_hasEndlessLoop_31
  rw [f_Y_hasEndlessLoop] at h
  refine lv_iconst (v := 0) hx hb d_Y_hasEndlessLoop_0 (by decide) ?_
  refine lv_istore_n hx hb d_Y_hasEndlessLoop_1 rfl hl (by decide) rfl (fun ls hl => ?_)
  have hl : lv_has ls 2 [(1, .int 0), (0, .ref (q 8))] := hl
  exact L2 _ _ h _ (lv_sub hl [1, 0] rfl)
def y_Y_hasRuleThatLeadsToItself : MethodName := ⟨"StagedParsers$Study", "hasRuleThatLeadsToItself", "()Z"⟩
def w_Y_hasRuleThatLeadsToItself : List Cond := .code y_Y_hasRuleThatLeadsToItself prog_6_method_21_code 2 (some .boolean) :: AW_
def rm_Y_hasRuleThatLeadsToItself : Room := { frames := 0, cells := 0, slots := 0, locals := 0 }
theorem d_Y_hasRuleThatLeadsToItself_0 : decode prog_6_method_21_code 0 = .ok (.iconst 0, 1) := by decide +kernel
theorem d_Y_hasRuleThatLeadsToItself_1 : decode prog_6_method_21_code 1 = .ok (.istore_n 1, 1) := by decide +kernel
theorem d_Y_hasRuleThatLeadsToItself_2 : decode prog_6_method_21_code 2 = .ok (.iload_n 1, 1) := by decide +kernel
theorem d_Y_hasRuleThatLeadsToItself_3 : decode prog_6_method_21_code 3 = .ok (.bipush 6, 2) := by decide +kernel
theorem d_Y_hasRuleThatLeadsToItself_5 : decode prog_6_method_21_code 5 = .ok (.if_icmp .ge 25, 3) := by decide +kernel
theorem d_Y_hasRuleThatLeadsToItself_8 : decode prog_6_method_21_code 8 = .ok (.aload_n 0, 1) := by decide +kernel
theorem d_Y_hasRuleThatLeadsToItself_9 : decode prog_6_method_21_code 9 = .ok (.getfield 25, 3) := by decide +kernel
theorem d_Y_hasRuleThatLeadsToItself_12 : decode prog_6_method_21_code 12 = .ok (.iload_n 1, 1) := by decide +kernel
theorem d_Y_hasRuleThatLeadsToItself_13 : decode prog_6_method_21_code 13 = .ok (.iaload, 1) := by decide +kernel
theorem d_Y_hasRuleThatLeadsToItself_14 : decode prog_6_method_21_code 14 = .ok (.iload_n 1, 1) := by decide +kernel
theorem d_Y_hasRuleThatLeadsToItself_15 : decode prog_6_method_21_code 15 = .ok (.ishr, 1) := by decide +kernel
theorem d_Y_hasRuleThatLeadsToItself_16 : decode prog_6_method_21_code 16 = .ok (.iconst 1, 1) := by decide +kernel
theorem d_Y_hasRuleThatLeadsToItself_17 : decode prog_6_method_21_code 17 = .ok (.iand, 1) := by decide +kernel
theorem d_Y_hasRuleThatLeadsToItself_18 : decode prog_6_method_21_code 18 = .ok (.iconst 1, 1) := by decide +kernel
theorem d_Y_hasRuleThatLeadsToItself_19 : decode prog_6_method_21_code 19 = .ok (.if_icmp .ne 5, 3) := by decide +kernel
theorem d_Y_hasRuleThatLeadsToItself_22 : decode prog_6_method_21_code 22 = .ok (.iconst 1, 1) := by decide +kernel
theorem d_Y_hasRuleThatLeadsToItself_23 : decode prog_6_method_21_code 23 = .ok (.ireturn, 1) := by decide +kernel
theorem d_Y_hasRuleThatLeadsToItself_24 : decode prog_6_method_21_code 24 = .ok (.iinc 1 1, 3) := by decide +kernel
theorem d_Y_hasRuleThatLeadsToItself_27 : decode prog_6_method_21_code 27 = .ok (.goto (-25), 3) := by decide +kernel
theorem d_Y_hasRuleThatLeadsToItself_30 : decode prog_6_method_21_code 30 = .ok (.iconst 0, 1) := by decide +kernel
theorem d_Y_hasRuleThatLeadsToItself_31 : decode prog_6_method_21_code 31 = .ok (.ireturn, 1) := by decide +kernel
def f_Y_hasRuleThatLeadsToItself_L2 (σ : MZ_) : Nat → Int32 → Option (Int32)
  | 0, _ => none
  | N + 1, x1 => if 6 ≤ x1 then some 0
    else gd_ x1 6 (if (((σ 13 x1.toNatClampNeg) >>> (x1 &&& 31)) &&& 1) = 1 then some 1
    else f_Y_hasRuleThatLeadsToItself_L2 σ N (x1 + 1))
def f_Y_hasRuleThatLeadsToItself (σ : MZ_) : Option (Int32) :=
  f_Y_hasRuleThatLeadsToItself_L2 σ 100 0
set_option maxHeartbeats 4000000 in
set_option maxRecDepth 100000 in
theorem c_Y_hasRuleThatLeadsToItself (l : Launch) (dC : Nat → ClassId) (dI : Nat → Nat → Nat) (q : Nat → Nat) (cA : Nat → ClassId) (pt : Nat) (σ : MZ_) (u : Int32) (h : f_Y_hasRuleThatLeadsToItself σ = some u) : Met l y_Y_hasRuleThatLeadsToItself w_Y_hasRuleThatLeadsToItself rm_Y_hasRuleThatLeadsToItself (va_Pc [.ref (q 8)] (PX_ dC dI q cA pt σ)) (QcRead u) 0 0 (fun _ => False) := by
  refine Met.ofW (cc := prog_6_method_21_code) (maxL := 2) (ret := (some .boolean)) (by decide) rfl ?_
  intro p e s m args below meth c s₁ B hml hv
  obtain ⟨rfl, hP, hK, hD, hN, hZ⟩ := hv
  have hx := B.exec
  have hb := B.bytes
  have hr := B.returns
  have hts : ∀ w ∈ AW_, w.before _ s = true := fun w h => atoms_spec (ws := w_Y_hasRuleThatLeadsToItself) B.pre w (List.mem_cons_of_mem _ h)
  have hown : s.vm.findClass "StagedParsers$Study" = some m.cls := findClass_of_methodNamed B.named
  have hlocks := B.notSynchronized
  have hS : va_S (AX q) s.heap s.heap [] := va_S.rf
  have hl := lv_entry ([.ref (q 8)]) (n := 2) (Nat.le_of_ble_eq_true rfl)
  rw [lg_entry_eq]
  generalize (lg_sl ([.ref (q 8)]) ++ List.replicate (2 - (lg_sl ([.ref (q 8)])).length) Slot.unset).toArray = ls at hl ⊢
  have hl : lv_has ls 2 [(0, .ref (q 8))] := hl
  have L2 : ∀ (N2 : Nat) (x1 : Int32), f_Y_hasRuleThatLeadsToItself_L2 σ N2 x1 = some u → ∀ (ls : Array Slot), lv_has ls 2 [(0, .ref (q 8)), (1, .int x1)] → W p l e (headSpec w_Y_hasRuleThatLeadsToItself rm_Y_hasRuleThatLeadsToItself).room s m ([.ref (q 8)] : List Value).toArray below meth c s.heap [] 0 0 (MQ below (QcRead u) ([.ref (q 8)] : List Value).toArray s 0 0 (fun _ => False)) (F0 m 2 ls []) := by
    intro N2
    induction N2 with
    | zero => intro x1 h; cases h
    | succ N2 ih2 =>
      intro x1 h ls hl
      rw [f_Y_hasRuleThatLeadsToItself_L2] at h
      refine lv_iload_n hx hb d_Y_hasRuleThatLeadsToItself_2 rfl (lv_at hl 1 rfl) ?_
      refine lv_bipush (v := 6) hx hb d_Y_hasRuleThatLeadsToItself_3 (by decide) ?_
      refine lv_icmp_ge (tgt := 30) hx hb d_Y_hasRuleThatLeadsToItself_5 rfl (fun hc => ?_) (fun hc => ?_)
      · have h := if_t hc h
        refine lv_iconst (v := 0) hx hb d_Y_hasRuleThatLeadsToItself_30 (by decide) ?_
        obtain rfl := Option.some.inj h
        exact W.zret hx hb hr rfl (fun t ht hW => ⟨rfl, ht⟩) (fun _ h9 => nomatch h9) d_Y_hasRuleThatLeadsToItself_31
      · have h := if_f hc h
        refine lv_aload_n hx hb d_Y_hasRuleThatLeadsToItself_8 rfl (lv_at hl 0 rfl) ?_
        refine gf_Y_25 hx hb hts hown hK hP d_Y_hasRuleThatLeadsToItself_9 ?_
        refine lv_iload_n hx hb d_Y_hasRuleThatLeadsToItself_12 rfl (lv_at hl 1 rfl) ?_
        obtain ⟨hgd, h⟩ := gd_some h
        refine al_X_13 hx hb hK hP hgd d_Y_hasRuleThatLeadsToItself_13 ?_
        refine lv_iload_n hx hb d_Y_hasRuleThatLeadsToItself_14 rfl (lv_at hl 1 rfl) ?_
        refine lv_ishr hx hb d_Y_hasRuleThatLeadsToItself_15 ?_
        refine lv_iconst (v := 1) hx hb d_Y_hasRuleThatLeadsToItself_16 (by decide) ?_
        refine lv_iand hx hb d_Y_hasRuleThatLeadsToItself_17 ?_
        refine lv_iconst (v := 1) hx hb d_Y_hasRuleThatLeadsToItself_18 (by decide) ?_
        refine lv_icmp_ne (tgt := 24) hx hb d_Y_hasRuleThatLeadsToItself_19 rfl (fun hc => ?_) (fun hc => ?_)
        · have h := if_f hc h
          refine lv_iinc (v := x1 + 1) hx hb d_Y_hasRuleThatLeadsToItself_24 hl (k := 1) rfl rfl (by decide) rfl (fun ls hl => ?_)
          have hl : lv_has ls 2 [(1, .int (x1 + 1)), (0, .ref (q 8))] := hl
          refine lv_goto (tgt := 2) hx hb d_Y_hasRuleThatLeadsToItself_27 rfl ?_
          exact ih2 _ h _ (lv_sub hl [1, 0] rfl)
        · have h := if_t hc h
          refine lv_iconst (v := 1) hx hb d_Y_hasRuleThatLeadsToItself_22 (by decide) ?_
          obtain rfl := Option.some.inj h
          exact W.zret hx hb hr rfl (fun t ht hW => ⟨rfl, ht⟩) (fun _ h9 => nomatch h9) d_Y_hasRuleThatLeadsToItself_23
  rw [f_Y_hasRuleThatLeadsToItself] at h
  refine lv_iconst (v := 0) hx hb d_Y_hasRuleThatLeadsToItself_0 (by decide) ?_
  refine lv_istore_n hx hb d_Y_hasRuleThatLeadsToItself_1 rfl hl (by decide) rfl (fun ls hl => ?_)
  have hl : lv_has ls 2 [(1, .int 0), (0, .ref (q 8))] := hl
  exact L2 _ _ h _ (lv_sub hl [1, 0] rfl)
def y_Y_fault : MethodName := ⟨"StagedParsers$Study", "fault", "()I"⟩
def w_Y_fault : List Cond := .code y_Y_fault prog_6_method_6_code 1 (some .int) :: AW_
def rm_Y_fault : Room := { frames := 5, cells := 0, slots := 0, locals := 110 }
theorem d_Y_fault_0 : decode prog_6_method_6_code 0 = .ok (.aload_n 0, 1) := by decide +kernel
theorem d_Y_fault_1 : decode prog_6_method_6_code 1 = .ok (.invokevirtual 46, 3) := by decide +kernel
theorem d_Y_fault_4 : decode prog_6_method_6_code 4 = .ok (.aload_n 0, 1) := by decide +kernel
theorem d_Y_fault_5 : decode prog_6_method_6_code 5 = .ok (.invokevirtual 43, 3) := by decide +kernel
theorem d_Y_fault_8 : decode prog_6_method_6_code 8 = .ok (.aload_n 0, 1) := by decide +kernel
theorem d_Y_fault_9 : decode prog_6_method_6_code 9 = .ok (.invokevirtual 49, 3) := by decide +kernel
theorem d_Y_fault_12 : decode prog_6_method_6_code 12 = .ok (.ifCond .eq 5, 3) := by decide +kernel
theorem d_Y_fault_15 : decode prog_6_method_6_code 15 = .ok (.iconst 1, 1) := by decide +kernel
theorem d_Y_fault_16 : decode prog_6_method_6_code 16 = .ok (.ireturn, 1) := by decide +kernel
theorem d_Y_fault_17 : decode prog_6_method_6_code 17 = .ok (.aload_n 0, 1) := by decide +kernel
theorem d_Y_fault_18 : decode prog_6_method_6_code 18 = .ok (.invokevirtual 53, 3) := by decide +kernel
theorem d_Y_fault_21 : decode prog_6_method_6_code 21 = .ok (.ifCond .eq 5, 3) := by decide +kernel
theorem d_Y_fault_24 : decode prog_6_method_6_code 24 = .ok (.iconst 2, 1) := by decide +kernel
theorem d_Y_fault_25 : decode prog_6_method_6_code 25 = .ok (.ireturn, 1) := by decide +kernel
theorem d_Y_fault_26 : decode prog_6_method_6_code 26 = .ok (.aload_n 0, 1) := by decide +kernel
theorem d_Y_fault_27 : decode prog_6_method_6_code 27 = .ok (.invokevirtual 56, 3) := by decide +kernel
theorem d_Y_fault_30 : decode prog_6_method_6_code 30 = .ok (.ifCond .eq 7, 3) := by decide +kernel
theorem d_Y_fault_33 : decode prog_6_method_6_code 33 = .ok (.iconst 3, 1) := by decide +kernel
theorem d_Y_fault_34 : decode prog_6_method_6_code 34 = .ok (.goto 4, 3) := by decide +kernel
theorem d_Y_fault_37 : decode prog_6_method_6_code 37 = .ok (.iconst 0, 1) := by decide +kernel
theorem d_Y_fault_38 : decode prog_6_method_6_code 38 = .ok (.ireturn, 1) := by decide +kernel
section RW
variable {p : Program} {l : Launch} {e : Env} {R : Room} {s : State} {m : MethodId} {args : Array Value} {below : List Frame} {meth : Method} {c : Code} {H : Heap} {locs : List Loc} {cells slots : Nat} {Q : State → Prop}
variable {cc : ByteArray} {pc : Nat} {ls : Array Slot} {rest : List Value} {dC : Nat → ClassId} {dI : Nat → Nat → Nat} {q : Nat → Nat} {cA : Nat → ClassId} {σ : MZ_} {H0 : Heap} {A : Nat → Prop}

theorem cw_Y_46 (hts : ∀ w ∈ AW_, w.before args s = true) (hR : rm_Y_findNodesInBodies.frames + 1 ≤ R.frames ∧ 8 + (3 + 11) + rm_Y_findNodesInBodies.locals ≤ R.locals) : CallW R s args "StagedParsers$Study" "StagedParsers$Study" 46 y_Y_findNodesInBodies prog_6_method_16_code 3 none w_Y_findNodesInBodies rm_Y_findNodesInBodies 0 0 0 :=
  ⟨callB_of 0 hts (aw_in kw_224) rfl rfl rfl (hts _ kw_4) (hts _ kw_221) ⟨by decide, by decide, by decide +kernel⟩ hR, hts _ kw_223, hts _ ks_0⟩
theorem cw_Y_43 (hts : ∀ w ∈ AW_, w.before args s = true) (hR : rm_Y_findLeads.frames + 1 ≤ R.frames ∧ 8 + (3 + 11) + rm_Y_findLeads.locals ≤ R.locals) : CallW R s args "StagedParsers$Study" "StagedParsers$Study" 43 y_Y_findLeads prog_6_method_13_code 3 none w_Y_findLeads rm_Y_findLeads 0 0 0 :=
  ⟨callB_of 0 hts (aw_in kw_267) rfl rfl rfl (hts _ kw_4) (hts _ kw_264) ⟨by decide, by decide, by decide +kernel⟩ hR, hts _ kw_266, hts _ ks_3⟩
theorem cw_Y_49 (hts : ∀ w ∈ AW_, w.before args s = true) (hR : rm_Y_hasRuleWithoutBody.frames + 1 ≤ R.frames ∧ 8 + (2 + 11) + rm_Y_hasRuleWithoutBody.locals ≤ R.locals) : CallW R s args "StagedParsers$Study" "StagedParsers$Study" 49 y_Y_hasRuleWithoutBody prog_6_method_18_code 2 (some .boolean) w_Y_hasRuleWithoutBody rm_Y_hasRuleWithoutBody 0 0 0 :=
  ⟨callB_of 0 hts (aw_in kw_291) rfl rfl rfl (hts _ kw_4) (hts _ kw_288) ⟨by decide, by decide, by decide +kernel⟩ hR, hts _ kw_290, hts _ ks_9⟩
theorem cw_Y_53 (hts : ∀ w ∈ AW_, w.before args s = true) (hR : rm_Y_hasEndlessLoop.frames + 1 ≤ R.frames ∧ 8 + (2 + 11) + rm_Y_hasEndlessLoop.locals ≤ R.locals) : CallW R s args "StagedParsers$Study" "StagedParsers$Study" 53 y_Y_hasEndlessLoop prog_6_method_19_code 2 (some .boolean) w_Y_hasEndlessLoop rm_Y_hasEndlessLoop 0 0 0 :=
  ⟨callB_of 0 hts (aw_in kw_299) rfl rfl rfl (hts _ kw_4) (hts _ kw_296) ⟨by decide, by decide, by decide +kernel⟩ hR, hts _ kw_298, hts _ ks_10⟩
theorem cw_Y_56 (hts : ∀ w ∈ AW_, w.before args s = true) (hR : rm_Y_hasRuleThatLeadsToItself.frames + 1 ≤ R.frames ∧ 8 + (2 + 11) + rm_Y_hasRuleThatLeadsToItself.locals ≤ R.locals) : CallW R s args "StagedParsers$Study" "StagedParsers$Study" 56 y_Y_hasRuleThatLeadsToItself prog_6_method_21_code 2 (some .boolean) w_Y_hasRuleThatLeadsToItself rm_Y_hasRuleThatLeadsToItself 0 0 0 :=
  ⟨callB_of 0 hts (aw_in kw_307) rfl rfl rfl (hts _ kw_4) (hts _ kw_304) ⟨by decide, by decide, by decide +kernel⟩ hR, hts _ kw_306, hts _ ks_12⟩
end RW
def f_Y_fault (σ : MZ_) : Option (Int32 × MZ_) :=
  (f_Y_findNodesInBodies σ).bind fun u1 => (f_Y_findLeads u1).bind fun u2 => (f_Y_hasRuleWithoutBody u2).bind fun r3 => if r3 = 0 then (f_Y_hasEndlessLoop u2).bind fun r4 => if r4 = 0 then (f_Y_hasRuleThatLeadsToItself u2).bind fun r5 => if r5 = 0 then some (0, u2)
      else some (3, u2)
    else some (2, u2)
  else some (1, u2)
set_option maxHeartbeats 4000000 in
set_option maxRecDepth 100000 in
theorem c_Y_fault (l : Launch) (dC : Nat → ClassId) (dI : Nat → Nat → Nat) (q : Nat → Nat) (cA : Nat → ClassId) (pt : Nat) (σ : MZ_) (u : Int32 × MZ_) (h : f_Y_fault σ = some u) : Met l y_Y_fault w_Y_fault rm_Y_fault (va_Pc [.ref (q 8)] (PX_ dC dI q cA pt σ)) (QW_ (some (.int u.1)) (fun H => va_P (dC, dI) cls_ (wX q cA u.2) H) (AX q)) 0 0 (AX q) := by
  refine Met.ofW (cc := prog_6_method_6_code) (maxL := 1) (ret := (some .int)) (by decide) rfl ?_
  intro p e s m args below meth c s₁ B hml hv
  obtain ⟨rfl, hP, hK, hD, hN, hZ⟩ := hv
  have hx := B.exec
  have hb := B.bytes
  have hr := B.returns
  have hts : ∀ w ∈ AW_, w.before _ s = true := fun w h => atoms_spec (ws := w_Y_fault) B.pre w (List.mem_cons_of_mem _ h)
  have hown : s.vm.findClass "StagedParsers$Study" = some m.cls := findClass_of_methodNamed B.named
  have hlocks := B.notSynchronized
  have hS : va_S (AX q) s.heap s.heap [] := va_S.rf
  have hl := lv_entry ([.ref (q 8)]) (n := 1) (Nat.le_of_ble_eq_true rfl)
  rw [lg_entry_eq]
  generalize (lg_sl ([.ref (q 8)]) ++ List.replicate (1 - (lg_sl ([.ref (q 8)])).length) Slot.unset).toArray = ls at hl ⊢
  have hl : lv_has ls 1 [(0, .ref (q 8))] := hl
  rw [f_Y_fault] at h
  refine lv_aload_n hx hb d_Y_fault_0 rfl (lv_at hl 0 rfl) ?_
  obtain ⟨u1, hcl, h⟩ := bd_some h
  refine cx_wrv (va_runV (As := []) (rest := []) ⟨hx, hb, hml, hown, hts⟩ (c_Y_findNodesInBodies l dC dI q cA pt σ _ hcl) (cw_Y_46 hts ⟨Nat.le_of_ble_eq_true rfl, Nat.le_of_ble_eq_true rfl⟩) ⟨pxX_B, va_recv hK hP (ci := 2) (q0 := 8) rfl rfl, pxX_U hP hK hD hN hZ hS⟩ rfl rfl hl.1 rfl (lv_room (Nat.le_of_ble_eq_true rfl)) d_Y_fault_1 ⟨Nat.zero_le _, Nat.zero_le _⟩) hS (fun _ h => h) (fun H locs hP hS => ?_)
  have hD : va_D (AX q) (wX q cA u1) := dd_re (wX_f _ _ _ _) hD
  refine lv_aload_n hx hb d_Y_fault_4 rfl (lv_at hl 0 rfl) ?_
  obtain ⟨u2, hcl, h⟩ := bd_some h
  refine cx_wrv (va_runV (As := []) (rest := []) ⟨hx, hb, hml, hown, hts⟩ (c_Y_findLeads l dC dI q cA pt u1 _ hcl) (cw_Y_43 hts ⟨Nat.le_of_ble_eq_true rfl, Nat.le_of_ble_eq_true rfl⟩) ⟨pxX_B, va_recv hK hP (ci := 2) (q0 := 8) rfl rfl, pxX_U hP hK hD hN hZ hS⟩ rfl rfl hl.1 rfl (lv_room (Nat.le_of_ble_eq_true rfl)) d_Y_fault_5 ⟨Nat.zero_le _, Nat.zero_le _⟩) hS (fun _ h => h) (fun H locs hP hS => ?_)
  have hD : va_D (AX q) (wX q cA u2) := dd_re (wX_f _ _ _ _) hD
  refine lv_aload_n hx hb d_Y_fault_8 rfl (lv_at hl 0 rfl) ?_
  obtain ⟨r3, hcl, h⟩ := bd_some h
  refine cx_read (va_runV (As := []) (rest := []) ⟨hx, hb, hml, hown, hts⟩ (c_Y_hasRuleWithoutBody l dC dI q cA pt u2 _ hcl) (cw_Y_49 hts ⟨Nat.le_of_ble_eq_true rfl, Nat.le_of_ble_eq_true rfl⟩) ⟨pxX_B, va_recv hK hP (ci := 2) (q0 := 8) rfl rfl, pxX_U hP hK hD hN hZ hS⟩ rfl rfl hl.1 rfl (lv_room (Nat.le_of_ble_eq_true rfl)) d_Y_fault_9 ⟨Nat.zero_le _, Nat.zero_le _⟩) ?_
  refine lv_if_eq (tgt := 17) hx hb d_Y_fault_12 rfl (fun hc => ?_) (fun hc => ?_)
  · have h := if_t hc h
    refine lv_aload_n hx hb d_Y_fault_17 rfl (lv_at hl 0 rfl) ?_
    obtain ⟨r4, hcl, h⟩ := bd_some h
    refine cx_read (va_runV (As := []) (rest := []) ⟨hx, hb, hml, hown, hts⟩ (c_Y_hasEndlessLoop l dC dI q cA pt u2 _ hcl) (cw_Y_53 hts ⟨Nat.le_of_ble_eq_true rfl, Nat.le_of_ble_eq_true rfl⟩) ⟨pxX_B, va_recv hK hP (ci := 2) (q0 := 8) rfl rfl, pxX_U hP hK hD hN hZ hS⟩ rfl rfl hl.1 rfl (lv_room (Nat.le_of_ble_eq_true rfl)) d_Y_fault_18 ⟨Nat.zero_le _, Nat.zero_le _⟩) ?_
    refine lv_if_eq (tgt := 26) hx hb d_Y_fault_21 rfl (fun hc => ?_) (fun hc => ?_)
    · have h := if_t hc h
      refine lv_aload_n hx hb d_Y_fault_26 rfl (lv_at hl 0 rfl) ?_
      obtain ⟨r5, hcl, h⟩ := bd_some h
      refine cx_read (va_runV (As := []) (rest := []) ⟨hx, hb, hml, hown, hts⟩ (c_Y_hasRuleThatLeadsToItself l dC dI q cA pt u2 _ hcl) (cw_Y_56 hts ⟨Nat.le_of_ble_eq_true rfl, Nat.le_of_ble_eq_true rfl⟩) ⟨pxX_B, va_recv hK hP (ci := 2) (q0 := 8) rfl rfl, pxX_U hP hK hD hN hZ hS⟩ rfl rfl hl.1 rfl (lv_room (Nat.le_of_ble_eq_true rfl)) d_Y_fault_27 ⟨Nat.zero_le _, Nat.zero_le _⟩) ?_
      refine lv_if_eq (tgt := 37) hx hb d_Y_fault_30 rfl (fun hc => ?_) (fun hc => ?_)
      · have h := if_t hc h
        refine lv_iconst (v := 0) hx hb d_Y_fault_37 (by decide) ?_
        obtain rfl := Option.some.inj h
        exact W.iret hx hb hr (fun t ht hW => ⟨rfl, by rw [ht]; exact hP, hS.F ht⟩) hS.2.2 d_Y_fault_38
      · have h := if_f hc h
        refine lv_iconst (v := 3) hx hb d_Y_fault_33 (by decide) ?_
        refine lv_goto (tgt := 38) hx hb d_Y_fault_34 rfl ?_
        obtain rfl := Option.some.inj h
        exact W.iret hx hb hr (fun t ht hW => ⟨rfl, by rw [ht]; exact hP, hS.F ht⟩) hS.2.2 d_Y_fault_38
    · have h := if_f hc h
      refine lv_iconst (v := 2) hx hb d_Y_fault_24 (by decide) ?_
      obtain rfl := Option.some.inj h
      exact W.iret hx hb hr (fun t ht hW => ⟨rfl, by rw [ht]; exact hP, hS.F ht⟩) hS.2.2 d_Y_fault_25
  · have h := if_f hc h
    refine lv_iconst (v := 1) hx hb d_Y_fault_15 (by decide) ?_
    obtain rfl := Option.some.inj h
    exact W.iret hx hb hr (fun t ht hW => ⟨rfl, by rw [ht]; exact hP, hS.F ht⟩) hS.2.2 d_Y_fault_16
def y_Y_isEmpty : MethodName := ⟨"StagedParsers$Study", "isEmpty", "(I)Z"⟩
def w_Y_isEmpty : List Cond := .code y_Y_isEmpty prog_6_method_2_code 2 (some .boolean) :: AW_
def rm_Y_isEmpty : Room := { frames := 4, cells := 0, slots := 0, locals := 88 }
theorem d_Y_isEmpty_0 : decode prog_6_method_2_code 0 = .ok (.aload_n 0, 1) := by decide +kernel
theorem d_Y_isEmpty_1 : decode prog_6_method_2_code 1 = .ok (.invokevirtual 32, 3) := by decide +kernel
theorem d_Y_isEmpty_4 : decode prog_6_method_2_code 4 = .ok (.aload_n 0, 1) := by decide +kernel
theorem d_Y_isEmpty_5 : decode prog_6_method_2_code 5 = .ok (.aload_n 0, 1) := by decide +kernel
theorem d_Y_isEmpty_6 : decode prog_6_method_2_code 6 = .ok (.getfield 9, 3) := by decide +kernel
theorem d_Y_isEmpty_9 : decode prog_6_method_2_code 9 = .ok (.iload_n 1, 1) := by decide +kernel
theorem d_Y_isEmpty_10 : decode prog_6_method_2_code 10 = .ok (.invokevirtual 35, 3) := by decide +kernel
theorem d_Y_isEmpty_13 : decode prog_6_method_2_code 13 = .ok (.ireturn, 1) := by decide +kernel
def f_Y_isEmpty (σ : MZ_) (a1 : Int32) : Option (Int32 × MZ_) :=
  (f_Y_findEmptyNodes σ).bind fun u1 => (f_Y_marked_9 u1 a1).bind fun r2 => bo_ r2 (some (r2, u1))
set_option maxHeartbeats 4000000 in
set_option maxRecDepth 100000 in
theorem c_Y_isEmpty (l : Launch) (dC : Nat → ClassId) (dI : Nat → Nat → Nat) (q : Nat → Nat) (cA : Nat → ClassId) (pt : Nat) (σ : MZ_) (a1 : Int32) (u : Int32 × MZ_) (h : f_Y_isEmpty σ a1 = some u) : Met l y_Y_isEmpty w_Y_isEmpty rm_Y_isEmpty (va_Pc [.ref (q 8), .int a1] (PX_ dC dI q cA pt σ)) (QW_ (some (.int u.1)) (fun H => va_P (dC, dI) cls_ (wX q cA u.2) H) (AX q)) 0 0 (AX q) := by
  refine Met.ofW (cc := prog_6_method_2_code) (maxL := 2) (ret := (some .boolean)) (by decide) rfl ?_
  intro p e s m args below meth c s₁ B hml hv
  obtain ⟨rfl, hP, hK, hD, hN, hZ⟩ := hv
  have hx := B.exec
  have hb := B.bytes
  have hr := B.returns
  have hts : ∀ w ∈ AW_, w.before _ s = true := fun w h => atoms_spec (ws := w_Y_isEmpty) B.pre w (List.mem_cons_of_mem _ h)
  have hown : s.vm.findClass "StagedParsers$Study" = some m.cls := findClass_of_methodNamed B.named
  have hlocks := B.notSynchronized
  have hS : va_S (AX q) s.heap s.heap [] := va_S.rf
  have hl := lv_entry ([.ref (q 8), .int a1]) (n := 2) (Nat.le_of_ble_eq_true rfl)
  rw [lg_entry_eq]
  generalize (lg_sl ([.ref (q 8), .int a1]) ++ List.replicate (2 - (lg_sl ([.ref (q 8), .int a1])).length) Slot.unset).toArray = ls at hl ⊢
  have hl : lv_has ls 2 [(0, .ref (q 8)), (1, .int a1)] := hl
  rw [f_Y_isEmpty] at h
  refine lv_aload_n hx hb d_Y_isEmpty_0 rfl (lv_at hl 0 rfl) ?_
  obtain ⟨u1, hcl, h⟩ := bd_some h
  refine cx_wrv (va_runV (As := []) (rest := []) ⟨hx, hb, hml, hown, hts⟩ (c_Y_findEmptyNodes l dC dI q cA pt σ _ hcl) (cw_Y_32 hts ⟨Nat.le_of_ble_eq_true rfl, Nat.le_of_ble_eq_true rfl⟩) ⟨pxX_B, va_recv hK hP (ci := 2) (q0 := 8) rfl rfl, pxX_U hP hK hD hN hZ hS⟩ rfl rfl hl.1 rfl (lv_room (Nat.le_of_ble_eq_true rfl)) d_Y_isEmpty_1 ⟨Nat.zero_le _, Nat.zero_le _⟩) hS (fun _ h => h) (fun H locs hP hS => ?_)
  have hD : va_D (AX q) (wX q cA u1) := dd_re (wX_f _ _ _ _) hD
  refine lv_aload_n hx hb d_Y_isEmpty_4 rfl (lv_at hl 0 rfl) ?_
  refine lv_aload_n hx hb d_Y_isEmpty_5 rfl (lv_at hl 0 rfl) ?_
  refine gf_Y_9 hx hb hts hown hK hP d_Y_isEmpty_6 ?_
  refine lv_iload_n hx hb d_Y_isEmpty_9 rfl (lv_at hl 1 rfl) ?_
  obtain ⟨r2, hcl, h⟩ := bd_some h
  refine cx_read (va_runV (As := [.ref (q 9), .int a1]) (rest := []) ⟨hx, hb, hml, hown, hts⟩ (c_Y_marked_9 l dC dI q cA pt u1 a1 _ hcl) (cw_Y_35 hts ⟨Nat.le_of_ble_eq_true rfl, Nat.le_of_ble_eq_true rfl⟩) ⟨pxX_B, va_recv hK hP (ci := 2) (q0 := 8) rfl rfl, pxX_U hP hK hD hN hZ hS⟩ rfl rfl hl.1 rfl (lv_room (Nat.le_of_ble_eq_true rfl)) d_Y_isEmpty_10 ⟨Nat.zero_le _, Nat.zero_le _⟩) ?_
  obtain ⟨hbo, h⟩ := bo_some h
  obtain rfl := Option.some.inj h
  exact W.zret hx hb hr (bo_nar hbo) (fun t ht hW => ⟨rfl, by rw [ht]; exact hP, hS.F ht⟩) hS.2.2 d_Y_isEmpty_13
def y_Y_canBegin : MethodName := ⟨"StagedParsers$Study", "canBegin", "(II)Z"⟩
def w_Y_canBegin : List Cond := .code y_Y_canBegin prog_6_method_3_code 3 (some .boolean) :: AW_
def rm_Y_canBegin : Room := { frames := 4, cells := 0, slots := 0, locals := 90 }
theorem d_Y_canBegin_0 : decode prog_6_method_3_code 0 = .ok (.aload_n 0, 1) := by decide +kernel
theorem d_Y_canBegin_1 : decode prog_6_method_3_code 1 = .ok (.invokevirtual 32, 3) := by decide +kernel
theorem d_Y_canBegin_4 : decode prog_6_method_3_code 4 = .ok (.aload_n 0, 1) := by decide +kernel
theorem d_Y_canBegin_5 : decode prog_6_method_3_code 5 = .ok (.iload_n 2, 1) := by decide +kernel
theorem d_Y_canBegin_6 : decode prog_6_method_3_code 6 = .ok (.invokevirtual 39, 3) := by decide +kernel
theorem d_Y_canBegin_9 : decode prog_6_method_3_code 9 = .ok (.aload_n 0, 1) := by decide +kernel
theorem d_Y_canBegin_10 : decode prog_6_method_3_code 10 = .ok (.aload_n 0, 1) := by decide +kernel
theorem d_Y_canBegin_11 : decode prog_6_method_3_code 11 = .ok (.getfield 15, 3) := by decide +kernel
theorem d_Y_canBegin_14 : decode prog_6_method_3_code 14 = .ok (.iload_n 1, 1) := by decide +kernel
theorem d_Y_canBegin_15 : decode prog_6_method_3_code 15 = .ok (.invokevirtual 35, 3) := by decide +kernel
theorem d_Y_canBegin_18 : decode prog_6_method_3_code 18 = .ok (.ireturn, 1) := by decide +kernel
section RW
variable {p : Program} {l : Launch} {e : Env} {R : Room} {s : State} {m : MethodId} {args : Array Value} {below : List Frame} {meth : Method} {c : Code} {H : Heap} {locs : List Loc} {cells slots : Nat} {Q : State → Prop}
variable {cc : ByteArray} {pc : Nat} {ls : Array Slot} {rest : List Value} {dC : Nat → ClassId} {dI : Nat → Nat → Nat} {q : Nat → Nat} {cA : Nat → ClassId} {σ : MZ_} {H0 : Heap} {A : Nat → Prop}

theorem cw_Y_39 (hts : ∀ w ∈ AW_, w.before args s = true) (hR : rm_Y_findBeginners.frames + 1 ≤ R.frames ∧ 8 + (4 + 11) + rm_Y_findBeginners.locals ≤ R.locals) : CallW R s args "StagedParsers$Study" "StagedParsers$Study" 39 y_Y_findBeginners prog_6_method_11_code 4 none w_Y_findBeginners rm_Y_findBeginners 0 0 1 :=
  ⟨callB_of 1 hts (aw_in kw_584) rfl rfl rfl (hts _ kw_4) (hts _ kw_581) ⟨by decide, by decide, by decide +kernel⟩ hR, hts _ kw_583, hts _ ks_23⟩
end RW
def f_Y_canBegin (σ : MZ_) (a1 : Int32) (a2 : Int32) : Option (Int32 × MZ_) :=
  (f_Y_findEmptyNodes σ).bind fun u1 => (f_Y_findBeginners u1 a2).bind fun u2 => (f_Y_marked_10 u2 a1).bind fun r3 => bo_ r3 (some (r3, u2))
set_option maxHeartbeats 4000000 in
set_option maxRecDepth 100000 in
theorem c_Y_canBegin (l : Launch) (dC : Nat → ClassId) (dI : Nat → Nat → Nat) (q : Nat → Nat) (cA : Nat → ClassId) (pt : Nat) (σ : MZ_) (a1 : Int32) (a2 : Int32) (u : Int32 × MZ_) (h : f_Y_canBegin σ a1 a2 = some u) : Met l y_Y_canBegin w_Y_canBegin rm_Y_canBegin (va_Pc [.ref (q 8), .int a1, .int a2] (PX_ dC dI q cA pt σ)) (QW_ (some (.int u.1)) (fun H => va_P (dC, dI) cls_ (wX q cA u.2) H) (AX q)) 0 0 (AX q) := by
  refine Met.ofW (cc := prog_6_method_3_code) (maxL := 3) (ret := (some .boolean)) (by decide) rfl ?_
  intro p e s m args below meth c s₁ B hml hv
  obtain ⟨rfl, hP, hK, hD, hN, hZ⟩ := hv
  have hx := B.exec
  have hb := B.bytes
  have hr := B.returns
  have hts : ∀ w ∈ AW_, w.before _ s = true := fun w h => atoms_spec (ws := w_Y_canBegin) B.pre w (List.mem_cons_of_mem _ h)
  have hown : s.vm.findClass "StagedParsers$Study" = some m.cls := findClass_of_methodNamed B.named
  have hlocks := B.notSynchronized
  have hS : va_S (AX q) s.heap s.heap [] := va_S.rf
  have hl := lv_entry ([.ref (q 8), .int a1, .int a2]) (n := 3) (Nat.le_of_ble_eq_true rfl)
  rw [lg_entry_eq]
  generalize (lg_sl ([.ref (q 8), .int a1, .int a2]) ++ List.replicate (3 - (lg_sl ([.ref (q 8), .int a1, .int a2])).length) Slot.unset).toArray = ls at hl ⊢
  have hl : lv_has ls 3 [(0, .ref (q 8)), (1, .int a1), (2, .int a2)] := hl
  rw [f_Y_canBegin] at h
  refine lv_aload_n hx hb d_Y_canBegin_0 rfl (lv_at hl 0 rfl) ?_
  obtain ⟨u1, hcl, h⟩ := bd_some h
  refine cx_wrv (va_runV (As := []) (rest := []) ⟨hx, hb, hml, hown, hts⟩ (c_Y_findEmptyNodes l dC dI q cA pt σ _ hcl) (cw_Y_32 hts ⟨Nat.le_of_ble_eq_true rfl, Nat.le_of_ble_eq_true rfl⟩) ⟨pxX_B, va_recv hK hP (ci := 2) (q0 := 8) rfl rfl, pxX_U hP hK hD hN hZ hS⟩ rfl rfl hl.1 rfl (lv_room (Nat.le_of_ble_eq_true rfl)) d_Y_canBegin_1 ⟨Nat.zero_le _, Nat.zero_le _⟩) hS (fun _ h => h) (fun H locs hP hS => ?_)
  have hD : va_D (AX q) (wX q cA u1) := dd_re (wX_f _ _ _ _) hD
  refine lv_aload_n hx hb d_Y_canBegin_4 rfl (lv_at hl 0 rfl) ?_
  refine lv_iload_n hx hb d_Y_canBegin_5 rfl (lv_at hl 2 rfl) ?_
  obtain ⟨u2, hcl, h⟩ := bd_some h
  refine cx_wrv (va_runV (As := [.int a2]) (rest := []) ⟨hx, hb, hml, hown, hts⟩ (c_Y_findBeginners l dC dI q cA pt u1 a2 _ hcl) (cw_Y_39 hts ⟨Nat.le_of_ble_eq_true rfl, Nat.le_of_ble_eq_true rfl⟩) ⟨pxX_B, va_recv hK hP (ci := 2) (q0 := 8) rfl rfl, pxX_U hP hK hD hN hZ hS⟩ rfl rfl hl.1 rfl (lv_room (Nat.le_of_ble_eq_true rfl)) d_Y_canBegin_6 ⟨Nat.zero_le _, Nat.zero_le _⟩) hS (fun _ h => h) (fun H locs hP hS => ?_)
  have hD : va_D (AX q) (wX q cA u2) := dd_re (wX_f _ _ _ _) hD
  refine lv_aload_n hx hb d_Y_canBegin_9 rfl (lv_at hl 0 rfl) ?_
  refine lv_aload_n hx hb d_Y_canBegin_10 rfl (lv_at hl 0 rfl) ?_
  refine gf_Y_15 hx hb hts hown hK hP d_Y_canBegin_11 ?_
  refine lv_iload_n hx hb d_Y_canBegin_14 rfl (lv_at hl 1 rfl) ?_
  obtain ⟨r3, hcl, h⟩ := bd_some h
  refine cx_read (va_runV (As := [.ref (q 10), .int a1]) (rest := []) ⟨hx, hb, hml, hown, hts⟩ (c_Y_marked_10 l dC dI q cA pt u2 a1 _ hcl) (cw_Y_35 hts ⟨Nat.le_of_ble_eq_true rfl, Nat.le_of_ble_eq_true rfl⟩) ⟨pxX_B, va_recv hK hP (ci := 2) (q0 := 8) rfl rfl, pxX_U hP hK hD hN hZ hS⟩ rfl rfl hl.1 rfl (lv_room (Nat.le_of_ble_eq_true rfl)) d_Y_canBegin_15 ⟨Nat.zero_le _, Nat.zero_le _⟩) ?_
  obtain ⟨hbo, h⟩ := bo_some h
  obtain rfl := Option.some.inj h
  exact W.zret hx hb hr (bo_nar hbo) (fun t ht hW => ⟨rfl, by rw [ht]; exact hP, hS.F ht⟩) hS.2.2 d_Y_canBegin_18
def y_Y_ledTo : MethodName := ⟨"StagedParsers$Study", "ledTo", "(I)I"⟩
def w_Y_ledTo : List Cond := .code y_Y_ledTo prog_6_method_4_code 2 (some .int) :: AW_
def rm_Y_ledTo : Room := { frames := 5, cells := 0, slots := 0, locals := 110 }
theorem d_Y_ledTo_0 : decode prog_6_method_4_code 0 = .ok (.aload_n 0, 1) := by decide +kernel
theorem d_Y_ledTo_1 : decode prog_6_method_4_code 1 = .ok (.invokevirtual 43, 3) := by decide +kernel
theorem d_Y_ledTo_4 : decode prog_6_method_4_code 4 = .ok (.iload_n 1, 1) := by decide +kernel
theorem d_Y_ledTo_5 : decode prog_6_method_4_code 5 = .ok (.ifCond .lt 18, 3) := by decide +kernel
theorem d_Y_ledTo_8 : decode prog_6_method_4_code 8 = .ok (.iload_n 1, 1) := by decide +kernel
theorem d_Y_ledTo_9 : decode prog_6_method_4_code 9 = .ok (.bipush 6, 2) := by decide +kernel
theorem d_Y_ledTo_11 : decode prog_6_method_4_code 11 = .ok (.if_icmp .ge 12, 3) := by decide +kernel
theorem d_Y_ledTo_14 : decode prog_6_method_4_code 14 = .ok (.aload_n 0, 1) := by decide +kernel
theorem d_Y_ledTo_15 : decode prog_6_method_4_code 15 = .ok (.getfield 25, 3) := by decide +kernel
theorem d_Y_ledTo_18 : decode prog_6_method_4_code 18 = .ok (.iload_n 1, 1) := by decide +kernel
theorem d_Y_ledTo_19 : decode prog_6_method_4_code 19 = .ok (.iaload, 1) := by decide +kernel
theorem d_Y_ledTo_20 : decode prog_6_method_4_code 20 = .ok (.goto 4, 3) := by decide +kernel
theorem d_Y_ledTo_23 : decode prog_6_method_4_code 23 = .ok (.iconst 0, 1) := by decide +kernel
theorem d_Y_ledTo_24 : decode prog_6_method_4_code 24 = .ok (.ireturn, 1) := by decide +kernel
def f_Y_ledTo (σ : MZ_) (a1 : Int32) : Option (Int32 × MZ_) :=
  (f_Y_findLeads σ).bind fun u1 => if a1 < 0 then some (0, u1)
  else if 6 ≤ a1 then some (0, u1)
  else gd_ a1 6 (some (u1 13 a1.toNatClampNeg, u1))
set_option maxHeartbeats 4000000 in
set_option maxRecDepth 100000 in
theorem c_Y_ledTo (l : Launch) (dC : Nat → ClassId) (dI : Nat → Nat → Nat) (q : Nat → Nat) (cA : Nat → ClassId) (pt : Nat) (σ : MZ_) (a1 : Int32) (u : Int32 × MZ_) (h : f_Y_ledTo σ a1 = some u) : Met l y_Y_ledTo w_Y_ledTo rm_Y_ledTo (va_Pc [.ref (q 8), .int a1] (PX_ dC dI q cA pt σ)) (QW_ (some (.int u.1)) (fun H => va_P (dC, dI) cls_ (wX q cA u.2) H) (AX q)) 0 0 (AX q) := by
  refine Met.ofW (cc := prog_6_method_4_code) (maxL := 2) (ret := (some .int)) (by decide) rfl ?_
  intro p e s m args below meth c s₁ B hml hv
  obtain ⟨rfl, hP, hK, hD, hN, hZ⟩ := hv
  have hx := B.exec
  have hb := B.bytes
  have hr := B.returns
  have hts : ∀ w ∈ AW_, w.before _ s = true := fun w h => atoms_spec (ws := w_Y_ledTo) B.pre w (List.mem_cons_of_mem _ h)
  have hown : s.vm.findClass "StagedParsers$Study" = some m.cls := findClass_of_methodNamed B.named
  have hlocks := B.notSynchronized
  have hS : va_S (AX q) s.heap s.heap [] := va_S.rf
  have hl := lv_entry ([.ref (q 8), .int a1]) (n := 2) (Nat.le_of_ble_eq_true rfl)
  rw [lg_entry_eq]
  generalize (lg_sl ([.ref (q 8), .int a1]) ++ List.replicate (2 - (lg_sl ([.ref (q 8), .int a1])).length) Slot.unset).toArray = ls at hl ⊢
  have hl : lv_has ls 2 [(0, .ref (q 8)), (1, .int a1)] := hl
  rw [f_Y_ledTo] at h
  refine lv_aload_n hx hb d_Y_ledTo_0 rfl (lv_at hl 0 rfl) ?_
  obtain ⟨u1, hcl, h⟩ := bd_some h
  refine cx_wrv (va_runV (As := []) (rest := []) ⟨hx, hb, hml, hown, hts⟩ (c_Y_findLeads l dC dI q cA pt σ _ hcl) (cw_Y_43 hts ⟨Nat.le_of_ble_eq_true rfl, Nat.le_of_ble_eq_true rfl⟩) ⟨pxX_B, va_recv hK hP (ci := 2) (q0 := 8) rfl rfl, pxX_U hP hK hD hN hZ hS⟩ rfl rfl hl.1 rfl (lv_room (Nat.le_of_ble_eq_true rfl)) d_Y_ledTo_1 ⟨Nat.zero_le _, Nat.zero_le _⟩) hS (fun _ h => h) (fun H locs hP hS => ?_)
  have hD : va_D (AX q) (wX q cA u1) := dd_re (wX_f _ _ _ _) hD
  refine lv_iload_n hx hb d_Y_ledTo_4 rfl (lv_at hl 1 rfl) ?_
  refine lv_if_lt (tgt := 23) hx hb d_Y_ledTo_5 rfl (fun hc => ?_) (fun hc => ?_)
  · have h := if_t hc h
    refine lv_iconst (v := 0) hx hb d_Y_ledTo_23 (by decide) ?_
    obtain rfl := Option.some.inj h
    exact W.iret hx hb hr (fun t ht hW => ⟨rfl, by rw [ht]; exact hP, hS.F ht⟩) hS.2.2 d_Y_ledTo_24
  · have h := if_f hc h
    refine lv_iload_n hx hb d_Y_ledTo_8 rfl (lv_at hl 1 rfl) ?_
    refine lv_bipush (v := 6) hx hb d_Y_ledTo_9 (by decide) ?_
    refine lv_icmp_ge (tgt := 23) hx hb d_Y_ledTo_11 rfl (fun hc => ?_) (fun hc => ?_)
    · have h := if_t hc h
      refine lv_iconst (v := 0) hx hb d_Y_ledTo_23 (by decide) ?_
      obtain rfl := Option.some.inj h
      exact W.iret hx hb hr (fun t ht hW => ⟨rfl, by rw [ht]; exact hP, hS.F ht⟩) hS.2.2 d_Y_ledTo_24
    · have h := if_f hc h
      refine lv_aload_n hx hb d_Y_ledTo_14 rfl (lv_at hl 0 rfl) ?_
      refine gf_Y_25 hx hb hts hown hK hP d_Y_ledTo_15 ?_
      refine lv_iload_n hx hb d_Y_ledTo_18 rfl (lv_at hl 1 rfl) ?_
      obtain ⟨hgd, h⟩ := gd_some h
      refine al_X_13 hx hb hK hP hgd d_Y_ledTo_19 ?_
      refine lv_goto (tgt := 24) hx hb d_Y_ledTo_20 rfl ?_
      obtain rfl := Option.some.inj h
      exact W.iret hx hb hr (fun t ht hW => ⟨rfl, by rw [ht]; exact hP, hS.F ht⟩) hS.2.2 d_Y_ledTo_24
def y_Y_isInBodies : MethodName := ⟨"StagedParsers$Study", "isInBodies", "(I)Z"⟩
def w_Y_isInBodies : List Cond := .code y_Y_isInBodies prog_6_method_5_code 2 (some .boolean) :: AW_
def rm_Y_isInBodies : Room := { frames := 2, cells := 0, slots := 0, locals := 43 }
theorem d_Y_isInBodies_0 : decode prog_6_method_5_code 0 = .ok (.aload_n 0, 1) := by decide +kernel
theorem d_Y_isInBodies_1 : decode prog_6_method_5_code 1 = .ok (.aload_n 0, 1) := by decide +kernel
theorem d_Y_isInBodies_2 : decode prog_6_method_5_code 2 = .ok (.getfield 18, 3) := by decide +kernel
theorem d_Y_isInBodies_5 : decode prog_6_method_5_code 5 = .ok (.iload_n 1, 1) := by decide +kernel
theorem d_Y_isInBodies_6 : decode prog_6_method_5_code 6 = .ok (.invokevirtual 35, 3) := by decide +kernel
theorem d_Y_isInBodies_9 : decode prog_6_method_5_code 9 = .ok (.ireturn, 1) := by decide +kernel
def f_Y_isInBodies (σ : MZ_) (a1 : Int32) : Option (Int32) :=
  (f_Y_marked_11 σ a1).bind fun r1 => bo_ r1 (some r1)
set_option maxHeartbeats 4000000 in
set_option maxRecDepth 100000 in
theorem c_Y_isInBodies (l : Launch) (dC : Nat → ClassId) (dI : Nat → Nat → Nat) (q : Nat → Nat) (cA : Nat → ClassId) (pt : Nat) (σ : MZ_) (a1 : Int32) (u : Int32) (h : f_Y_isInBodies σ a1 = some u) : Met l y_Y_isInBodies w_Y_isInBodies rm_Y_isInBodies (va_Pc [.ref (q 8), .int a1] (PX_ dC dI q cA pt σ)) (QcRead u) 0 0 (fun _ => False) := by
  refine Met.ofW (cc := prog_6_method_5_code) (maxL := 2) (ret := (some .boolean)) (by decide) rfl ?_
  intro p e s m args below meth c s₁ B hml hv
  obtain ⟨rfl, hP, hK, hD, hN, hZ⟩ := hv
  have hx := B.exec
  have hb := B.bytes
  have hr := B.returns
  have hts : ∀ w ∈ AW_, w.before _ s = true := fun w h => atoms_spec (ws := w_Y_isInBodies) B.pre w (List.mem_cons_of_mem _ h)
  have hown : s.vm.findClass "StagedParsers$Study" = some m.cls := findClass_of_methodNamed B.named
  have hlocks := B.notSynchronized
  have hS : va_S (AX q) s.heap s.heap [] := va_S.rf
  have hl := lv_entry ([.ref (q 8), .int a1]) (n := 2) (Nat.le_of_ble_eq_true rfl)
  rw [lg_entry_eq]
  generalize (lg_sl ([.ref (q 8), .int a1]) ++ List.replicate (2 - (lg_sl ([.ref (q 8), .int a1])).length) Slot.unset).toArray = ls at hl ⊢
  have hl : lv_has ls 2 [(0, .ref (q 8)), (1, .int a1)] := hl
  rw [f_Y_isInBodies] at h
  refine lv_aload_n hx hb d_Y_isInBodies_0 rfl (lv_at hl 0 rfl) ?_
  refine lv_aload_n hx hb d_Y_isInBodies_1 rfl (lv_at hl 0 rfl) ?_
  refine gf_Y_18 hx hb hts hown hK hP d_Y_isInBodies_2 ?_
  refine lv_iload_n hx hb d_Y_isInBodies_5 rfl (lv_at hl 1 rfl) ?_
  obtain ⟨r1, hcl, h⟩ := bd_some h
  refine cx_read (va_runV (As := [.ref (q 11), .int a1]) (rest := []) ⟨hx, hb, hml, hown, hts⟩ (c_Y_marked_11 l dC dI q cA pt σ a1 _ hcl) (cw_Y_35 hts ⟨Nat.le_of_ble_eq_true rfl, Nat.le_of_ble_eq_true rfl⟩) ⟨pxX_B, va_recv hK hP (ci := 2) (q0 := 8) rfl rfl, pxX_U hP hK hD hN hZ hS⟩ rfl rfl hl.1 rfl (lv_room (Nat.le_of_ble_eq_true rfl)) d_Y_isInBodies_6 ⟨Nat.zero_le _, Nat.zero_le _⟩) ?_
  obtain ⟨hbo, h⟩ := bo_some h
  obtain rfl := Option.some.inj h
  exact W.zret hx hb hr (bo_nar hbo) (fun t ht hW => ⟨rfl, ht⟩) (fun _ h9 => nomatch h9) d_Y_isInBodies_9
