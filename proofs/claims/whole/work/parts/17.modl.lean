/-! the other system, fourth -/
def y_R_run : MethodName := ⟨"StagedParsersModel", "run", "(I)V"⟩
def w_R_run : List Cond := .code y_R_run prog_9_method_39_code 3 none :: AW_
def rm_R_run : Room := { frames := 4, cells := 0, slots := 0, locals := 87 }
theorem d_R_run_0 : decode prog_9_method_39_code 0 = .ok (.iconst 0, 1) := by decide +kernel
theorem d_R_run_1 : decode prog_9_method_39_code 1 = .ok (.istore_n 2, 1) := by decide +kernel
theorem d_R_run_2 : decode prog_9_method_39_code 2 = .ok (.iload_n 2, 1) := by decide +kernel
theorem d_R_run_3 : decode prog_9_method_39_code 3 = .ok (.iconst 4, 1) := by decide +kernel
theorem d_R_run_4 : decode prog_9_method_39_code 4 = .ok (.if_icmp .ge 16, 3) := by decide +kernel
theorem d_R_run_7 : decode prog_9_method_39_code 7 = .ok (.aload_n 0, 1) := by decide +kernel
theorem d_R_run_8 : decode prog_9_method_39_code 8 = .ok (.getfield 62, 3) := by decide +kernel
theorem d_R_run_11 : decode prog_9_method_39_code 11 = .ok (.iload_n 2, 1) := by decide +kernel
theorem d_R_run_12 : decode prog_9_method_39_code 12 = .ok (.iconst 0, 1) := by decide +kernel
theorem d_R_run_13 : decode prog_9_method_39_code 13 = .ok (.iastore, 1) := by decide +kernel
theorem d_R_run_14 : decode prog_9_method_39_code 14 = .ok (.iinc 2 1, 3) := by decide +kernel
theorem d_R_run_17 : decode prog_9_method_39_code 17 = .ok (.goto (-15), 3) := by decide +kernel
theorem d_R_run_20 : decode prog_9_method_39_code 20 = .ok (.aload_n 0, 1) := by decide +kernel
theorem d_R_run_21 : decode prog_9_method_39_code 21 = .ok (.iconst 0, 1) := by decide +kernel
theorem d_R_run_22 : decode prog_9_method_39_code 22 = .ok (.putfield 138, 3) := by decide +kernel
theorem d_R_run_25 : decode prog_9_method_39_code 25 = .ok (.aload_n 0, 1) := by decide +kernel
theorem d_R_run_26 : decode prog_9_method_39_code 26 = .ok (.iconst 0, 1) := by decide +kernel
theorem d_R_run_27 : decode prog_9_method_39_code 27 = .ok (.putfield 141, 3) := by decide +kernel
theorem d_R_run_30 : decode prog_9_method_39_code 30 = .ok (.aload_n 0, 1) := by decide +kernel
theorem d_R_run_31 : decode prog_9_method_39_code 31 = .ok (.iconst 0, 1) := by decide +kernel
theorem d_R_run_32 : decode prog_9_method_39_code 32 = .ok (.putfield 150, 3) := by decide +kernel
theorem d_R_run_35 : decode prog_9_method_39_code 35 = .ok (.aload_n 0, 1) := by decide +kernel
theorem d_R_run_36 : decode prog_9_method_39_code 36 = .ok (.iconst (-1), 1) := by decide +kernel
theorem d_R_run_37 : decode prog_9_method_39_code 37 = .ok (.putfield 159, 3) := by decide +kernel
theorem d_R_run_40 : decode prog_9_method_39_code 40 = .ok (.aload_n 0, 1) := by decide +kernel
theorem d_R_run_41 : decode prog_9_method_39_code 41 = .ok (.iconst 0, 1) := by decide +kernel
theorem d_R_run_42 : decode prog_9_method_39_code 42 = .ok (.putfield 153, 3) := by decide +kernel
theorem d_R_run_45 : decode prog_9_method_39_code 45 = .ok (.aload_n 0, 1) := by decide +kernel
theorem d_R_run_46 : decode prog_9_method_39_code 46 = .ok (.iconst 1, 1) := by decide +kernel
theorem d_R_run_47 : decode prog_9_method_39_code 47 = .ok (.putfield 169, 3) := by decide +kernel
theorem d_R_run_50 : decode prog_9_method_39_code 50 = .ok (.aload_n 0, 1) := by decide +kernel
theorem d_R_run_51 : decode prog_9_method_39_code 51 = .ok (.iconst 1, 1) := by decide +kernel
theorem d_R_run_52 : decode prog_9_method_39_code 52 = .ok (.putfield 172, 3) := by decide +kernel
theorem d_R_run_55 : decode prog_9_method_39_code 55 = .ok (.aload_n 0, 1) := by decide +kernel
theorem d_R_run_56 : decode prog_9_method_39_code 56 = .ok (.aload_n 0, 1) := by decide +kernel
theorem d_R_run_57 : decode prog_9_method_39_code 57 = .ok (.getfield 25, 3) := by decide +kernel
theorem d_R_run_60 : decode prog_9_method_39_code 60 = .ok (.iload_n 1, 1) := by decide +kernel
theorem d_R_run_61 : decode prog_9_method_39_code 61 = .ok (.iaload, 1) := by decide +kernel
theorem d_R_run_62 : decode prog_9_method_39_code 62 = .ok (.iconst 1, 1) := by decide +kernel
theorem d_R_run_63 : decode prog_9_method_39_code 63 = .ok (.isub, 1) := by decide +kernel
theorem d_R_run_64 : decode prog_9_method_39_code 64 = .ok (.invokevirtual 175, 3) := by decide +kernel
theorem d_R_run_67 : decode prog_9_method_39_code 67 = .ok (.aload_n 0, 1) := by decide +kernel
theorem d_R_run_68 : decode prog_9_method_39_code 68 = .ok (.getfield 138, 3) := by decide +kernel
theorem d_R_run_71 : decode prog_9_method_39_code 71 = .ok (.ifCond .le 42, 3) := by decide +kernel
theorem d_R_run_74 : decode prog_9_method_39_code 74 = .ok (.aload_n 0, 1) := by decide +kernel
theorem d_R_run_75 : decode prog_9_method_39_code 75 = .ok (.getfield 153, 3) := by decide +kernel
theorem d_R_run_78 : decode prog_9_method_39_code 78 = .ok (.ifCond .ne 35, 3) := by decide +kernel
theorem d_R_run_81 : decode prog_9_method_39_code 81 = .ok (.aload_n 0, 1) := by decide +kernel
theorem d_R_run_82 : decode prog_9_method_39_code 82 = .ok (.getfield 138, 3) := by decide +kernel
theorem d_R_run_85 : decode prog_9_method_39_code 85 = .ok (.iconst 1, 1) := by decide +kernel
theorem d_R_run_86 : decode prog_9_method_39_code 86 = .ok (.isub, 1) := by decide +kernel
theorem d_R_run_87 : decode prog_9_method_39_code 87 = .ok (.istore_n 2, 1) := by decide +kernel
theorem d_R_run_88 : decode prog_9_method_39_code 88 = .ok (.aload_n 0, 1) := by decide +kernel
theorem d_R_run_89 : decode prog_9_method_39_code 89 = .ok (.getfield 47, 3) := by decide +kernel
theorem d_R_run_92 : decode prog_9_method_39_code 92 = .ok (.iload_n 2, 1) := by decide +kernel
theorem d_R_run_93 : decode prog_9_method_39_code 93 = .ok (.iaload, 1) := by decide +kernel
theorem d_R_run_94 : decode prog_9_method_39_code 94 = .ok (.ifCond .ne 11, 3) := by decide +kernel
theorem d_R_run_97 : decode prog_9_method_39_code 97 = .ok (.aload_n 0, 1) := by decide +kernel
theorem d_R_run_98 : decode prog_9_method_39_code 98 = .ok (.iload_n 2, 1) := by decide +kernel
theorem d_R_run_99 : decode prog_9_method_39_code 99 = .ok (.invokevirtual 193, 3) := by decide +kernel
theorem d_R_run_102 : decode prog_9_method_39_code 102 = .ok (.goto 8, 3) := by decide +kernel
theorem d_R_run_105 : decode prog_9_method_39_code 105 = .ok (.aload_n 0, 1) := by decide +kernel
theorem d_R_run_106 : decode prog_9_method_39_code 106 = .ok (.iload_n 2, 1) := by decide +kernel
theorem d_R_run_107 : decode prog_9_method_39_code 107 = .ok (.invokevirtual 196, 3) := by decide +kernel
theorem d_R_run_110 : decode prog_9_method_39_code 110 = .ok (.goto (-43), 3) := by decide +kernel
theorem d_R_run_113 : decode prog_9_method_39_code 113 = .ok (.return_, 1) := by decide +kernel
section RW
variable {p : Program} {l : Launch} {e : Env} {R : Room} {s : State} {m : MethodId} {args : Array Value} {below : List Frame} {meth : Method} {c : Code} {H : Heap} {locs : List Loc} {cells slots : Nat} {Q : State → Prop}
variable {cc : ByteArray} {pc : Nat} {ls : Array Slot} {rest : List Value} {dC : Nat → ClassId} {dI : Nat → Nat → Nat} {q : Nat → Nat} {cA : Nat → ClassId} {σ : MZ_} {H0 : Heap} {A : Nat → Prop}

theorem gf_R_153 (hx : p.tables.exec = Jvm.exec) (hb : c.code = cc) (hts : ∀ w ∈ AW_, w.before args s = true) (hown : s.vm.findClass "StagedParsersModel" = some m.cls) (hK : va_K (dC, dI) cls_ (tyR cA) s) (hP : va_P (dC, dI) cls_ (wR q cA σ) H) (hdg : decode cc pc = .ok (.getfield 153, 3)) (kk : W p l e R s m args below meth c H locs cells slots Q (F0 m (pc + 3) ls (.int (σ 38 0) :: rest))) : W p l e R s m args below meth c H locs cells slots Q (F0 m pc ls (.ref (q 0) :: rest)) :=
  va_get (D := (dC, dI)) (cl := cls_) (ci := 7) (v := .int (σ 38 0)) (ws := wR q cA σ) (tys := tyR cA) (C := Rz_R) (T := Tz_R) (N := 34) hx hb hts uz_R hown hK hP 0 rfl rfl 25 (by decide) (hts _ kw_836) (fun _ h9 => h9) rfl hdg kk
theorem cw_R_196 (hts : ∀ w ∈ AW_, w.before args s = true) (hR : rm_R_goOn.frames + 1 ≤ R.frames ∧ 8 + (3 + 11) + rm_R_goOn.locals ≤ R.locals) : CallW R s args "StagedParsersModel" "StagedParsersModel" 196 y_R_goOn prog_9_method_34_code 3 none w_R_goOn rm_R_goOn 0 0 1 :=
  ⟨callB_of 1 hts (aw_in kw_1046) rfl rfl rfl (hts _ kw_9) (hts _ kw_1043) ⟨by decide, by decide, by decide +kernel⟩ hR, hts _ kw_1045, hts _ ks_60⟩
theorem cw_R_193 (hts : ∀ w ∈ AW_, w.before args s = true) (hR : rm_R_begin.frames + 1 ≤ R.frames ∧ 8 + (3 + 11) + rm_R_begin.locals ≤ R.locals) : CallW R s args "StagedParsersModel" "StagedParsersModel" 193 y_R_begin prog_9_method_33_code 3 none w_R_begin rm_R_begin 0 0 1 :=
  ⟨callB_of 1 hts (aw_in kw_1030) rfl rfl rfl (hts _ kw_9) (hts _ kw_1027) ⟨by decide, by decide, by decide +kernel⟩ hR, hts _ kw_1029, hts _ ks_56⟩
end RW
def f_R_run_L67 (K : Nat) : Nat → MZ_ → Int32 → Int32 → Option (MZ_)
  | 0, _, _, _ => none
  | N + 1, σ, x1, x2 => if (σ 34 0) ≤ 0 then some σ
    else if (σ 38 0) = 0 then gd_ ((σ 34 0) - 1) 400 (if (σ 13 ((σ 34 0) - 1).toNatClampNeg) = 0 then (f_R_begin σ ((σ 34 0) - 1)).bind fun u3 => f_R_run_L67 K N u3 x1 ((σ 34 0) - 1)
      else (f_R_goOn σ ((σ 34 0) - 1)).bind fun u2 => f_R_run_L67 K N u2 x1 ((σ 34 0) - 1))
    else some σ
def f_R_run_L2 (K : Nat) : Nat → MZ_ → Int32 → Int32 → Option (MZ_)
  | 0, _, _, _ => none
  | N + 1, σ, x1, x2 => if 4 ≤ x2 then st_ (va_up σ 34 (fun _ => 0)) fun σ1 => st_ (va_up σ1 36 (fun _ => 0)) fun σ2 => st_ (va_up σ2 41 (fun _ => 0)) fun σ3 => st_ (va_up σ3 42 (fun _ => (-1))) fun σ4 => st_ (va_up σ4 38 (fun _ => 0)) fun σ5 => st_ (va_up σ5 39 (fun _ => 1)) fun σ6 => st_ (va_up σ6 40 (fun _ => 1)) fun σ7 => gd_ x1 6 ((f_R_enter σ7 ((σ7 6 x1.toNatClampNeg) - 1)).bind fun u1 => f_R_run_L67 K K u1 x1 x2)
    else gd_ x2 4 (st_ (va_up σ 18 (upd (σ 18) x2.toNatClampNeg 0)) fun σ8 => f_R_run_L2 K N σ8 x1 (x2 + 1))
def f_R_run (K : Nat) (σ : MZ_) (a1 : Int32) : Option (MZ_) :=
  f_R_run_L2 K 100 σ a1 0
set_option maxHeartbeats 4000000 in
set_option maxRecDepth 100000 in
theorem c_R_run (l : Launch) (K : Nat) (dC : Nat → ClassId) (dI : Nat → Nat → Nat) (q : Nat → Nat) (cA : Nat → ClassId) (σ : MZ_) (a1 : Int32) (u : MZ_) (h : f_R_run K σ a1 = some u) : Met l y_R_run w_R_run rm_R_run (va_Pc [.ref (q 0), .int a1] (PRx_ dC dI q cA σ)) (QW_ none (fun H => va_P (dC, dI) cls_ (wR q cA u) H) (AR q)) 0 0 (AR q) := by
  refine Met.ofW (cc := prog_9_method_39_code) (maxL := 3) (ret := none) (by decide) rfl ?_
  intro p e s m args below meth c s₁ B hml hv
  obtain ⟨rfl, hP, hK, hD, hN, hZ⟩ := hv
  have hx := B.exec
  have hb := B.bytes
  have hr := B.returns
  have hts : ∀ w ∈ AW_, w.before _ s = true := fun w h => atoms_spec (ws := w_R_run) B.pre w (List.mem_cons_of_mem _ h)
  have hown : s.vm.findClass "StagedParsersModel" = some m.cls := findClass_of_methodNamed B.named
  have hlocks := B.notSynchronized
  have hS : va_S (AR q) s.heap s.heap [] := va_S.rf
  have hl := lv_entry ([.ref (q 0), .int a1]) (n := 3) (Nat.le_of_ble_eq_true rfl)
  rw [lg_entry_eq]
  generalize (lg_sl ([.ref (q 0), .int a1]) ++ List.replicate (3 - (lg_sl ([.ref (q 0), .int a1])).length) Slot.unset).toArray = ls at hl ⊢
  have hl : lv_has ls 3 [(0, .ref (q 0)), (1, .int a1)] := hl
  have L67 : ∀ (N67 : Nat) (σ : MZ_) (x1 : Int32) (x2 : Int32), f_R_run_L67 K N67 σ x1 x2 = some u → ∀ (H : Heap) (locs : List Loc) (ls : Array Slot), va_P (dC, dI) cls_ (wR q cA σ) H → va_S (AR q) s.heap H locs → lv_has ls 3 [(0, .ref (q 0)), (1, .int x1), (2, .int x2)] → W p l e (headSpec w_R_run rm_R_run).room s m ([.ref (q 0), .int a1] : List Value).toArray below meth c H locs 0 0 (MQ below (QW_ none (fun H => va_P (dC, dI) cls_ (wR q cA u) H) (AR q)) ([.ref (q 0), .int a1] : List Value).toArray s 0 0 (AR q)) (F0 m 67 ls []) := by
    intro N67
    induction N67 with
    | zero => intro σ x1 x2 h; cases h
    | succ N67 ih67 =>
      intro σ x1 x2 h H locs ls hP hS hl
      have hD : va_D (AR q) (wR q cA σ) := dd_re (wR_f _ _ _ _) hD
      rw [f_R_run_L67] at h
      refine lv_aload_n hx hb d_R_run_67 rfl (lv_at hl 0 rfl) ?_
      refine gf_R_138 hx hb hts hown hK hP d_R_run_68 ?_
      refine lv_if_le (tgt := 113) hx hb d_R_run_71 rfl (fun hc => ?_) (fun hc => ?_)
      · have h := if_t hc h
        obtain rfl := Option.some.inj h
        exact W.vret hx hb hr (fun t ht hW => ⟨rfl, by rw [ht]; exact hP, hS.F ht⟩) hS.2.2 d_R_run_113
      · have h := if_f hc h
        refine lv_aload_n hx hb d_R_run_74 rfl (lv_at hl 0 rfl) ?_
        refine gf_R_153 hx hb hts hown hK hP d_R_run_75 ?_
        refine lv_if_ne (tgt := 113) hx hb d_R_run_78 rfl (fun hc => ?_) (fun hc => ?_)
        · have h := if_f hc h
          obtain rfl := Option.some.inj h
          exact W.vret hx hb hr (fun t ht hW => ⟨rfl, by rw [ht]; exact hP, hS.F ht⟩) hS.2.2 d_R_run_113
        · have h := if_t hc h
          refine lv_aload_n hx hb d_R_run_81 rfl (lv_at hl 0 rfl) ?_
          refine gf_R_138 hx hb hts hown hK hP d_R_run_82 ?_
          refine lv_iconst (v := 1) hx hb d_R_run_85 (by decide) ?_
          refine lv_isub hx hb d_R_run_86 ?_
          refine lv_istore_n hx hb d_R_run_87 rfl hl (by decide) rfl (fun ls hl => ?_)
          have hl : lv_has ls 3 [(2, .int ((σ 34 0) - 1)), (0, .ref (q 0)), (1, .int x1)] := hl
          refine lv_aload_n hx hb d_R_run_88 rfl (lv_at hl 1 rfl) ?_
          refine gf_R_47 hx hb hts hown hK hP d_R_run_89 ?_
          refine lv_iload_n hx hb d_R_run_92 rfl (lv_at hl 0 rfl) ?_
          obtain ⟨hgd, h⟩ := gd_some h
          refine al_R_13 hx hb hK hP hgd d_R_run_93 ?_
          refine lv_if_ne (tgt := 105) hx hb d_R_run_94 rfl (fun hc => ?_) (fun hc => ?_)
          · have h := if_f hc h
            refine lv_aload_n hx hb d_R_run_105 rfl (lv_at hl 1 rfl) ?_
            refine lv_iload_n hx hb d_R_run_106 rfl (lv_at hl 0 rfl) ?_
            obtain ⟨u2, hcl, h⟩ := bd_some h
            refine cx_wrv (va_runV (As := [.int ((σ 34 0) - 1)]) (rest := []) ⟨hx, hb, hml, hown, hts⟩ (c_R_goOn l dC dI q cA σ ((σ 34 0) - 1) _ hcl) (cw_R_196 hts ⟨Nat.le_of_ble_eq_true rfl, Nat.le_of_ble_eq_true rfl⟩) ⟨pxR_B, va_recv hK hP (ci := 7) (q0 := 0) rfl rfl, pxR_U hP hK hD hN hZ hS⟩ rfl rfl hl.1 rfl (lv_room (Nat.le_of_ble_eq_true rfl)) d_R_run_107 ⟨Nat.zero_le _, Nat.zero_le _⟩) hS (fun _ h => h) (fun H locs hP hS => ?_)
            have hD : va_D (AR q) (wR q cA u2) := dd_re (wR_f _ _ _ _) hD
            refine lv_goto (tgt := 67) hx hb d_R_run_110 rfl ?_
            exact ih67 _ _ _ h _ _ _ hP hS (lv_sub hl [1, 2, 0] rfl)
          · have h := if_t hc h
            refine lv_aload_n hx hb d_R_run_97 rfl (lv_at hl 1 rfl) ?_
            refine lv_iload_n hx hb d_R_run_98 rfl (lv_at hl 0 rfl) ?_
            obtain ⟨u3, hcl, h⟩ := bd_some h
            refine cx_wrv (va_runV (As := [.int ((σ 34 0) - 1)]) (rest := []) ⟨hx, hb, hml, hown, hts⟩ (c_R_begin l dC dI q cA σ ((σ 34 0) - 1) _ hcl) (cw_R_193 hts ⟨Nat.le_of_ble_eq_true rfl, Nat.le_of_ble_eq_true rfl⟩) ⟨pxR_B, va_recv hK hP (ci := 7) (q0 := 0) rfl rfl, pxR_U hP hK hD hN hZ hS⟩ rfl rfl hl.1 rfl (lv_room (Nat.le_of_ble_eq_true rfl)) d_R_run_99 ⟨Nat.zero_le _, Nat.zero_le _⟩) hS (fun _ h => h) (fun H locs hP hS => ?_)
            have hD : va_D (AR q) (wR q cA u3) := dd_re (wR_f _ _ _ _) hD
            refine lv_goto (tgt := 110) hx hb d_R_run_102 rfl ?_
            refine lv_goto (tgt := 67) hx hb d_R_run_110 rfl ?_
            exact ih67 _ _ _ h _ _ _ hP hS (lv_sub hl [1, 2, 0] rfl)
  have L2 : ∀ (N2 : Nat) (σ : MZ_) (x1 : Int32) (x2 : Int32), f_R_run_L2 K N2 σ x1 x2 = some u → ∀ (H : Heap) (locs : List Loc) (ls : Array Slot), va_P (dC, dI) cls_ (wR q cA σ) H → va_S (AR q) s.heap H locs → lv_has ls 3 [(0, .ref (q 0)), (1, .int x1), (2, .int x2)] → W p l e (headSpec w_R_run rm_R_run).room s m ([.ref (q 0), .int a1] : List Value).toArray below meth c H locs 0 0 (MQ below (QW_ none (fun H => va_P (dC, dI) cls_ (wR q cA u) H) (AR q)) ([.ref (q 0), .int a1] : List Value).toArray s 0 0 (AR q)) (F0 m 2 ls []) := by
    intro N2
    induction N2 with
    | zero => intro σ x1 x2 h; cases h
    | succ N2 ih2 =>
      intro σ x1 x2 h H locs ls hP hS hl
      have hD : va_D (AR q) (wR q cA σ) := dd_re (wR_f _ _ _ _) hD
      rw [f_R_run_L2] at h
      refine lv_iload_n hx hb d_R_run_2 rfl (lv_at hl 2 rfl) ?_
      refine lv_iconst (v := 4) hx hb d_R_run_3 (by decide) ?_
      refine lv_icmp_ge (tgt := 20) hx hb d_R_run_4 rfl (fun hc => ?_) (fun hc => ?_)
      · have h := if_t hc h
        refine lv_aload_n hx hb d_R_run_20 rfl (lv_at hl 0 rfl) ?_
        refine lv_iconst (v := 0) hx hb d_R_run_21 (by decide) ?_
        refine pf_R_138 hx hb hts hown hK hP hD hS d_R_run_22 (fun H locs hP hS => ?_)
        obtain ⟨σ1, eσ1, h⟩ := st_some h
        rw [← eσ1] at hP
        have hD : va_D (AR q) (wR q cA σ1) := dd_re (wR_f _ _ _ _) hD
        refine lv_aload_n hx hb d_R_run_25 rfl (lv_at hl 0 rfl) ?_
        refine lv_iconst (v := 0) hx hb d_R_run_26 (by decide) ?_
        refine pf_R_141 hx hb hts hown hK hP hD hS d_R_run_27 (fun H locs hP hS => ?_)
        obtain ⟨σ2, eσ2, h⟩ := st_some h
        rw [← eσ2] at hP
        have hD : va_D (AR q) (wR q cA σ2) := dd_re (wR_f _ _ _ _) hD
        refine lv_aload_n hx hb d_R_run_30 rfl (lv_at hl 0 rfl) ?_
        refine lv_iconst (v := 0) hx hb d_R_run_31 (by decide) ?_
        refine pf_R_150 hx hb hts hown hK hP hD hS d_R_run_32 (fun H locs hP hS => ?_)
        obtain ⟨σ3, eσ3, h⟩ := st_some h
        rw [← eσ3] at hP
        have hD : va_D (AR q) (wR q cA σ3) := dd_re (wR_f _ _ _ _) hD
        refine lv_aload_n hx hb d_R_run_35 rfl (lv_at hl 0 rfl) ?_
        refine lv_iconst (v := (-1)) hx hb d_R_run_36 (by decide) ?_
        refine pf_R_159 hx hb hts hown hK hP hD hS d_R_run_37 (fun H locs hP hS => ?_)
        obtain ⟨σ4, eσ4, h⟩ := st_some h
        rw [← eσ4] at hP
        have hD : va_D (AR q) (wR q cA σ4) := dd_re (wR_f _ _ _ _) hD
        refine lv_aload_n hx hb d_R_run_40 rfl (lv_at hl 0 rfl) ?_
        refine lv_iconst (v := 0) hx hb d_R_run_41 (by decide) ?_
        refine pf_R_153 hx hb hts hown hK hP hD hS (Or.inl rfl) d_R_run_42 (fun H locs hP hS => ?_)
        obtain ⟨σ5, eσ5, h⟩ := st_some h
        rw [← eσ5] at hP
        have hD : va_D (AR q) (wR q cA σ5) := dd_re (wR_f _ _ _ _) hD
        refine lv_aload_n hx hb d_R_run_45 rfl (lv_at hl 0 rfl) ?_
        refine lv_iconst (v := 1) hx hb d_R_run_46 (by decide) ?_
        refine pf_R_169 hx hb hts hown hK hP hD hS d_R_run_47 (fun H locs hP hS => ?_)
        obtain ⟨σ6, eσ6, h⟩ := st_some h
        rw [← eσ6] at hP
        have hD : va_D (AR q) (wR q cA σ6) := dd_re (wR_f _ _ _ _) hD
        refine lv_aload_n hx hb d_R_run_50 rfl (lv_at hl 0 rfl) ?_
        refine lv_iconst (v := 1) hx hb d_R_run_51 (by decide) ?_
        refine pf_R_172 hx hb hts hown hK hP hD hS d_R_run_52 (fun H locs hP hS => ?_)
        obtain ⟨σ7, eσ7, h⟩ := st_some h
        rw [← eσ7] at hP
        have hD : va_D (AR q) (wR q cA σ7) := dd_re (wR_f _ _ _ _) hD
        refine lv_aload_n hx hb d_R_run_55 rfl (lv_at hl 0 rfl) ?_
        refine lv_aload_n hx hb d_R_run_56 rfl (lv_at hl 0 rfl) ?_
        refine gf_R_25 hx hb hts hown hK hP d_R_run_57 ?_
        refine lv_iload_n hx hb d_R_run_60 rfl (lv_at hl 1 rfl) ?_
        obtain ⟨hgd, h⟩ := gd_some h
        refine al_R_6 hx hb hK hP hgd d_R_run_61 ?_
        refine lv_iconst (v := 1) hx hb d_R_run_62 (by decide) ?_
        refine lv_isub hx hb d_R_run_63 ?_
        obtain ⟨u1, hcl, h⟩ := bd_some h
        refine cx_wrv (va_runV (As := [.int ((σ7 6 x1.toNatClampNeg) - 1)]) (rest := []) ⟨hx, hb, hml, hown, hts⟩ (c_R_enter l dC dI q cA σ7 ((σ7 6 x1.toNatClampNeg) - 1) _ hcl) (cw_R_175 hts ⟨Nat.le_of_ble_eq_true rfl, Nat.le_of_ble_eq_true rfl⟩) ⟨pxR_B, va_recv hK hP (ci := 7) (q0 := 0) rfl rfl, pxR_U hP hK hD hN hZ hS⟩ rfl rfl hl.1 rfl (lv_room (Nat.le_of_ble_eq_true rfl)) d_R_run_64 ⟨Nat.zero_le _, Nat.zero_le _⟩) hS (fun _ h => h) (fun H locs hP hS => ?_)
        have hD : va_D (AR q) (wR q cA u1) := dd_re (wR_f _ _ _ _) hD
        exact L67 _ _ _ _ h _ _ _ hP hS (lv_sub hl [0, 1, 2] rfl)
      · have h := if_f hc h
        refine lv_aload_n hx hb d_R_run_7 rfl (lv_at hl 0 rfl) ?_
        refine gf_R_62 hx hb hts hown hK hP d_R_run_8 ?_
        refine lv_iload_n hx hb d_R_run_11 rfl (lv_at hl 2 rfl) ?_
        refine lv_iconst (v := 0) hx hb d_R_run_12 (by decide) ?_
        obtain ⟨hgd, h⟩ := gd_some h
        refine as_R_18 hx hb hK hP hD hS hgd d_R_run_13 (fun H locs hP hS => ?_)
        obtain ⟨σ8, eσ8, h⟩ := st_some h
        rw [← eσ8] at hP
        have hD : va_D (AR q) (wR q cA σ8) := dd_re (wR_f _ _ _ _) hD
        refine lv_iinc (v := x2 + 1) hx hb d_R_run_14 hl (k := 2) rfl rfl (by decide) rfl (fun ls hl => ?_)
        have hl : lv_has ls 3 [(2, .int (x2 + 1)), (0, .ref (q 0)), (1, .int x1)] := hl
        refine lv_goto (tgt := 2) hx hb d_R_run_17 rfl ?_
        exact ih2 _ _ _ h _ _ _ hP hS (lv_sub hl [1, 2, 0] rfl)
  rw [f_R_run] at h
  refine lv_iconst (v := 0) hx hb d_R_run_0 (by decide) ?_
  refine lv_istore_n hx hb d_R_run_1 rfl hl (by decide) rfl (fun ls hl => ?_)
  have hl : lv_has ls 3 [(2, .int 0), (0, .ref (q 0)), (1, .int a1)] := hl
  exact L2 _ _ _ _ h _ _ _ hP hS (lv_sub hl [1, 2, 0] rfl)
def y_R_parse : MethodName := ⟨"StagedParsersModel", "parse", "(I)I"⟩
def w_R_parse : List Cond := .code y_R_parse prog_9_method_40_code 2 (some .int) :: AW_
def rm_R_parse : Room := { frames := 5, cells := 0, slots := 0, locals := 109 }
theorem d_R_parse_0 : decode prog_9_method_40_code 0 = .ok (.aload_n 0, 1) := by decide +kernel
theorem d_R_parse_1 : decode prog_9_method_40_code 1 = .ok (.iconst 0, 1) := by decide +kernel
theorem d_R_parse_2 : decode prog_9_method_40_code 2 = .ok (.putfield 65, 3) := by decide +kernel
theorem d_R_parse_5 : decode prog_9_method_40_code 5 = .ok (.aload_n 0, 1) := by decide +kernel
theorem d_R_parse_6 : decode prog_9_method_40_code 6 = .ok (.getfield 98, 3) := by decide +kernel
theorem d_R_parse_9 : decode prog_9_method_40_code 9 = .ok (.ifCond .ne 9, 3) := by decide +kernel
theorem d_R_parse_12 : decode prog_9_method_40_code 12 = .ok (.aload_n 0, 1) := by decide +kernel
theorem d_R_parse_13 : decode prog_9_method_40_code 13 = .ok (.iconst 1, 1) := by decide +kernel
theorem d_R_parse_14 : decode prog_9_method_40_code 14 = .ok (.invokevirtual 94, 3) := by decide +kernel
theorem d_R_parse_17 : decode prog_9_method_40_code 17 = .ok (.ireturn, 1) := by decide +kernel
theorem d_R_parse_18 : decode prog_9_method_40_code 18 = .ok (.iload_n 1, 1) := by decide +kernel
theorem d_R_parse_19 : decode prog_9_method_40_code 19 = .ok (.iconst 0, 1) := by decide +kernel
theorem d_R_parse_20 : decode prog_9_method_40_code 20 = .ok (.iconst 5, 1) := by decide +kernel
theorem d_R_parse_21 : decode prog_9_method_40_code 21 = .ok (.invokestatic 72, 3) := by decide +kernel
theorem d_R_parse_24 : decode prog_9_method_40_code 24 = .ok (.ifCond .eq 12, 3) := by decide +kernel
theorem d_R_parse_27 : decode prog_9_method_40_code 27 = .ok (.aload_n 0, 1) := by decide +kernel
theorem d_R_parse_28 : decode prog_9_method_40_code 28 = .ok (.getfield 25, 3) := by decide +kernel
theorem d_R_parse_31 : decode prog_9_method_40_code 31 = .ok (.iload_n 1, 1) := by decide +kernel
theorem d_R_parse_32 : decode prog_9_method_40_code 32 = .ok (.iaload, 1) := by decide +kernel
theorem d_R_parse_33 : decode prog_9_method_40_code 33 = .ok (.ifCond .ne 9, 3) := by decide +kernel
theorem d_R_parse_36 : decode prog_9_method_40_code 36 = .ok (.aload_n 0, 1) := by decide +kernel
theorem d_R_parse_37 : decode prog_9_method_40_code 37 = .ok (.iconst 2, 1) := by decide +kernel
theorem d_R_parse_38 : decode prog_9_method_40_code 38 = .ok (.invokevirtual 94, 3) := by decide +kernel
theorem d_R_parse_41 : decode prog_9_method_40_code 41 = .ok (.ireturn, 1) := by decide +kernel
theorem d_R_parse_42 : decode prog_9_method_40_code 42 = .ok (.aload_n 0, 1) := by decide +kernel
theorem d_R_parse_43 : decode prog_9_method_40_code 43 = .ok (.iload_n 1, 1) := by decide +kernel
theorem d_R_parse_44 : decode prog_9_method_40_code 44 = .ok (.invokevirtual 199, 3) := by decide +kernel
theorem d_R_parse_47 : decode prog_9_method_40_code 47 = .ok (.aload_n 0, 1) := by decide +kernel
theorem d_R_parse_48 : decode prog_9_method_40_code 48 = .ok (.iconst 1, 1) := by decide +kernel
theorem d_R_parse_49 : decode prog_9_method_40_code 49 = .ok (.putfield 202, 3) := by decide +kernel
theorem d_R_parse_52 : decode prog_9_method_40_code 52 = .ok (.aload_n 0, 1) := by decide +kernel
theorem d_R_parse_53 : decode prog_9_method_40_code 53 = .ok (.aload_n 0, 1) := by decide +kernel
theorem d_R_parse_54 : decode prog_9_method_40_code 54 = .ok (.getfield 153, 3) := by decide +kernel
theorem d_R_parse_57 : decode prog_9_method_40_code 57 = .ok (.ifCond .eq 7, 3) := by decide +kernel
theorem d_R_parse_60 : decode prog_9_method_40_code 60 = .ok (.iconst (-1), 1) := by decide +kernel
theorem d_R_parse_61 : decode prog_9_method_40_code 61 = .ok (.goto 7, 3) := by decide +kernel
theorem d_R_parse_64 : decode prog_9_method_40_code 64 = .ok (.aload_n 0, 1) := by decide +kernel
theorem d_R_parse_65 : decode prog_9_method_40_code 65 = .ok (.getfield 141, 3) := by decide +kernel
theorem d_R_parse_68 : decode prog_9_method_40_code 68 = .ok (.putfield 205, 3) := by decide +kernel
theorem d_R_parse_71 : decode prog_9_method_40_code 71 = .ok (.aload_n 0, 1) := by decide +kernel
theorem d_R_parse_72 : decode prog_9_method_40_code 72 = .ok (.aload_n 0, 1) := by decide +kernel
theorem d_R_parse_73 : decode prog_9_method_40_code 73 = .ok (.getfield 153, 3) := by decide +kernel
theorem d_R_parse_76 : decode prog_9_method_40_code 76 = .ok (.ifCond .ne 14, 3) := by decide +kernel
theorem d_R_parse_79 : decode prog_9_method_40_code 79 = .ok (.aload_n 0, 1) := by decide +kernel
theorem d_R_parse_80 : decode prog_9_method_40_code 80 = .ok (.getfield 144, 3) := by decide +kernel
theorem d_R_parse_83 : decode prog_9_method_40_code 83 = .ok (.ifCond .eq 7, 3) := by decide +kernel
theorem d_R_parse_86 : decode prog_9_method_40_code 86 = .ok (.iconst 1, 1) := by decide +kernel
theorem d_R_parse_87 : decode prog_9_method_40_code 87 = .ok (.goto 4, 3) := by decide +kernel
theorem d_R_parse_90 : decode prog_9_method_40_code 90 = .ok (.iconst 0, 1) := by decide +kernel
theorem d_R_parse_91 : decode prog_9_method_40_code 91 = .ok (.putfield 208, 3) := by decide +kernel
theorem d_R_parse_94 : decode prog_9_method_40_code 94 = .ok (.aload_n 0, 1) := by decide +kernel
theorem d_R_parse_95 : decode prog_9_method_40_code 95 = .ok (.getfield 153, 3) := by decide +kernel
theorem d_R_parse_98 : decode prog_9_method_40_code 98 = .ok (.ifCond .eq 9, 3) := by decide +kernel
theorem d_R_parse_101 : decode prog_9_method_40_code 101 = .ok (.aload_n 0, 1) := by decide +kernel
theorem d_R_parse_102 : decode prog_9_method_40_code 102 = .ok (.iconst 3, 1) := by decide +kernel
theorem d_R_parse_103 : decode prog_9_method_40_code 103 = .ok (.invokevirtual 94, 3) := by decide +kernel
theorem d_R_parse_106 : decode prog_9_method_40_code 106 = .ok (.ireturn, 1) := by decide +kernel
theorem d_R_parse_107 : decode prog_9_method_40_code 107 = .ok (.aload_n 0, 1) := by decide +kernel
theorem d_R_parse_108 : decode prog_9_method_40_code 108 = .ok (.getfield 144, 3) := by decide +kernel
theorem d_R_parse_111 : decode prog_9_method_40_code 111 = .ok (.ifCond .ne 9, 3) := by decide +kernel
theorem d_R_parse_114 : decode prog_9_method_40_code 114 = .ok (.aload_n 0, 1) := by decide +kernel
theorem d_R_parse_115 : decode prog_9_method_40_code 115 = .ok (.iconst 4, 1) := by decide +kernel
theorem d_R_parse_116 : decode prog_9_method_40_code 116 = .ok (.invokevirtual 94, 3) := by decide +kernel
theorem d_R_parse_119 : decode prog_9_method_40_code 119 = .ok (.ireturn, 1) := by decide +kernel
theorem d_R_parse_120 : decode prog_9_method_40_code 120 = .ok (.aload_n 0, 1) := by decide +kernel
theorem d_R_parse_121 : decode prog_9_method_40_code 121 = .ok (.getfield 147, 3) := by decide +kernel
theorem d_R_parse_124 : decode prog_9_method_40_code 124 = .ok (.ireturn, 1) := by decide +kernel
section RW
variable {p : Program} {l : Launch} {e : Env} {R : Room} {s : State} {m : MethodId} {args : Array Value} {below : List Frame} {meth : Method} {c : Code} {H : Heap} {locs : List Loc} {cells slots : Nat} {Q : State → Prop}
variable {cc : ByteArray} {pc : Nat} {ls : Array Slot} {rest : List Value} {dC : Nat → ClassId} {dI : Nat → Nat → Nat} {q : Nat → Nat} {cA : Nat → ClassId} {σ : MZ_} {H0 : Heap} {A : Nat → Prop}

theorem gf_R_98 (hx : p.tables.exec = Jvm.exec) (hb : c.code = cc) (hts : ∀ w ∈ AW_, w.before args s = true) (hown : s.vm.findClass "StagedParsersModel" = some m.cls) (hK : va_K (dC, dI) cls_ (tyR cA) s) (hP : va_P (dC, dI) cls_ (wR q cA σ) H) (hdg : decode cc pc = .ok (.getfield 98, 3)) (kk : W p l e R s m args below meth c H locs cells slots Q (F0 m (pc + 3) ls (.int (σ 32 0) :: rest))) : W p l e R s m args below meth c H locs cells slots Q (F0 m pc ls (.ref (q 0) :: rest)) :=
  va_get (D := (dC, dI)) (cl := cls_) (ci := 7) (v := .int (σ 32 0)) (ws := wR q cA σ) (tys := tyR cA) (C := Rz_R) (T := Tz_R) (N := 34) hx hb hts uz_R hown hK hP 0 rfl rfl 8 (by decide) (hts _ kw_819) (fun _ h9 => h9) rfl hdg kk
theorem cw_R_199 (hts : ∀ w ∈ AW_, w.before args s = true) (hR : rm_R_run.frames + 1 ≤ R.frames ∧ 8 + (3 + 11) + rm_R_run.locals ≤ R.locals) : CallW R s args "StagedParsersModel" "StagedParsersModel" 199 y_R_run prog_9_method_39_code 3 none w_R_run rm_R_run 0 0 1 :=
  ⟨callB_of 1 hts (aw_in kw_1022) rfl rfl rfl (hts _ kw_9) (hts _ kw_1019) ⟨by decide, by decide, by decide +kernel⟩ hR, hts _ kw_1021, hts _ ks_54⟩
theorem pf_R_202 (hx : p.tables.exec = Jvm.exec) (hb : c.code = cc) (hts : ∀ w ∈ AW_, w.before args s = true) (hown : s.vm.findClass "StagedParsersModel" = some m.cls) (hK : va_K (dC, dI) cls_ (tyR cA) s) (hP : va_P (dC, dI) cls_ (wR q cA σ) H) (hD : va_D A (wR q cA σ)) (hS : va_S A H0 H locs) {v : Int32} (hbo : v = 0 ∨ v = 1) (hdg : decode cc pc = .ok (.putfield 202, 3)) (kk : ∀ (H1 : Heap) (locs1 : List Loc), va_P (dC, dI) cls_ (wR q cA (va_up σ 43 (fun _ => v))) H1 → va_S A H0 H1 locs1 → W p l e R s m args below meth c H1 locs1 cells slots Q (F0 m (pc + 3) ls rest)) : W p l e R s m args below meth c H locs cells slots Q (F0 m pc ls (.int v :: .ref (q 0) :: rest)) :=
  va_put (D := (dC, dI)) (cl := cls_) (ci := 7) (v := .int v) (ty := .boolean) (ws := wR q cA σ) (tys := tyR cA) (C := Rz_R) (T := Tz_R) (N := 34) hx hb hts uz_R tz_R tz_R_ok nz_R hown hK hP hD hS 0 rfl rfl 31 (by decide) (hts _ kw_842) (fun _ h9 => h9) rfl (by decide +kernel) (bo_nar hbo) (bo_fit hbo) (Nat.le_of_ble_eq_true rfl) hdg (fun H1 locs1 hP _ hS => kk H1 locs1 hP hS)
theorem pf_R_205 (hx : p.tables.exec = Jvm.exec) (hb : c.code = cc) (hts : ∀ w ∈ AW_, w.before args s = true) (hown : s.vm.findClass "StagedParsersModel" = some m.cls) (hK : va_K (dC, dI) cls_ (tyR cA) s) (hP : va_P (dC, dI) cls_ (wR q cA σ) H) (hD : va_D A (wR q cA σ)) (hS : va_S A H0 H locs) {v : Int32} (hdg : decode cc pc = .ok (.putfield 205, 3)) (kk : ∀ (H1 : Heap) (locs1 : List Loc), va_P (dC, dI) cls_ (wR q cA (va_up σ 44 (fun _ => v))) H1 → va_S A H0 H1 locs1 → W p l e R s m args below meth c H1 locs1 cells slots Q (F0 m (pc + 3) ls rest)) : W p l e R s m args below meth c H locs cells slots Q (F0 m pc ls (.int v :: .ref (q 0) :: rest)) :=
  va_put (D := (dC, dI)) (cl := cls_) (ci := 7) (v := .int v) (ty := .int) (ws := wR q cA σ) (tys := tyR cA) (C := Rz_R) (T := Tz_R) (N := 34) hx hb hts uz_R tz_R tz_R_ok nz_R hown hK hP hD hS 0 rfl rfl 32 (by decide) (hts _ kw_843) (fun _ h9 => h9) rfl (by decide +kernel) rfl rfl (Nat.le_of_ble_eq_true rfl) hdg (fun H1 locs1 hP _ hS => kk H1 locs1 hP hS)
theorem pf_R_208 (hx : p.tables.exec = Jvm.exec) (hb : c.code = cc) (hts : ∀ w ∈ AW_, w.before args s = true) (hown : s.vm.findClass "StagedParsersModel" = some m.cls) (hK : va_K (dC, dI) cls_ (tyR cA) s) (hP : va_P (dC, dI) cls_ (wR q cA σ) H) (hD : va_D A (wR q cA σ)) (hS : va_S A H0 H locs) {v : Int32} (hbo : v = 0 ∨ v = 1) (hdg : decode cc pc = .ok (.putfield 208, 3)) (kk : ∀ (H1 : Heap) (locs1 : List Loc), va_P (dC, dI) cls_ (wR q cA (va_up σ 45 (fun _ => v))) H1 → va_S A H0 H1 locs1 → W p l e R s m args below meth c H1 locs1 cells slots Q (F0 m (pc + 3) ls rest)) : W p l e R s m args below meth c H locs cells slots Q (F0 m pc ls (.int v :: .ref (q 0) :: rest)) :=
  va_put (D := (dC, dI)) (cl := cls_) (ci := 7) (v := .int v) (ty := .boolean) (ws := wR q cA σ) (tys := tyR cA) (C := Rz_R) (T := Tz_R) (N := 34) hx hb hts uz_R tz_R tz_R_ok nz_R hown hK hP hD hS 0 rfl rfl 33 (by decide) (hts _ kw_844) (fun _ h9 => h9) rfl (by decide +kernel) (bo_nar hbo) (bo_fit hbo) (Nat.le_of_ble_eq_true rfl) hdg (fun H1 locs1 hP _ hS => kk H1 locs1 hP hS)
end RW
def f_R_parse (K : Nat) (σ : MZ_) (a1 : Int32) : Option (Int32 × MZ_) :=
  st_ (va_up σ 30 (fun _ => 0)) fun σ1 => if (σ1 32 0) = 0 then (f_R_fails σ1 1).bind fun u17 => some (u17.1, u17.2)
  else (f_R_in a1 0 5).bind fun r1 => if r1 = 0 then (f_R_fails σ1 2).bind fun u2 => some (u2.1, u2.2)
  else gd_ a1 6 (if (σ1 6 a1.toNatClampNeg) = 0 then (f_R_fails σ1 2).bind fun u16 => some (u16.1, u16.2)
  else (f_R_run K σ1 a1).bind fun u3 => st_ (va_up u3 43 (fun _ => 1)) fun σ2 => if (σ2 38 0) = 0 then st_ (va_up σ2 44 (fun _ => σ2 36 0)) fun σ3 => if (σ3 38 0) = 0 then if (σ3 35 0) = 0 then st_ (va_up σ3 45 (fun _ => 0)) fun σ5 => if (σ5 38 0) = 0 then if (σ5 35 0) = 0 then (f_R_fails σ5 4).bind fun u6 => some (u6.1, u6.2)
          else some (σ5 37 0, σ5)
        else (f_R_fails σ5 3).bind fun u7 => some (u7.1, u7.2)
      else st_ (va_up σ3 45 (fun _ => 1)) fun σ6 => if (σ6 38 0) = 0 then if (σ6 35 0) = 0 then (f_R_fails σ6 4).bind fun u8 => some (u8.1, u8.2)
        else some (σ6 37 0, σ6)
      else (f_R_fails σ6 3).bind fun u9 => some (u9.1, u9.2)
    else st_ (va_up σ3 45 (fun _ => 0)) fun σ4 => if (σ4 38 0) = 0 then if (σ4 35 0) = 0 then (f_R_fails σ4 4).bind fun u4 => some (u4.1, u4.2)
      else some (σ4 37 0, σ4)
    else (f_R_fails σ4 3).bind fun u5 => some (u5.1, u5.2)
  else st_ (va_up σ2 44 (fun _ => (-1))) fun σ7 => if (σ7 38 0) = 0 then if (σ7 35 0) = 0 then st_ (va_up σ7 45 (fun _ => 0)) fun σ9 => if (σ9 38 0) = 0 then if (σ9 35 0) = 0 then (f_R_fails σ9 4).bind fun u12 => some (u12.1, u12.2)
        else some (σ9 37 0, σ9)
      else (f_R_fails σ9 3).bind fun u13 => some (u13.1, u13.2)
    else st_ (va_up σ7 45 (fun _ => 1)) fun σ10 => if (σ10 38 0) = 0 then if (σ10 35 0) = 0 then (f_R_fails σ10 4).bind fun u14 => some (u14.1, u14.2)
      else some (σ10 37 0, σ10)
    else (f_R_fails σ10 3).bind fun u15 => some (u15.1, u15.2)
  else st_ (va_up σ7 45 (fun _ => 0)) fun σ8 => if (σ8 38 0) = 0 then if (σ8 35 0) = 0 then (f_R_fails σ8 4).bind fun u10 => some (u10.1, u10.2)
    else some (σ8 37 0, σ8)
  else (f_R_fails σ8 3).bind fun u11 => some (u11.1, u11.2))
set_option maxHeartbeats 4000000 in
set_option maxRecDepth 100000 in
theorem c_R_parse (l : Launch) (K : Nat) (dC : Nat → ClassId) (dI : Nat → Nat → Nat) (q : Nat → Nat) (cA : Nat → ClassId) (σ : MZ_) (a1 : Int32) (u : Int32 × MZ_) (h : f_R_parse K σ a1 = some u) : Met l y_R_parse w_R_parse rm_R_parse (va_Pc [.ref (q 0), .int a1] (PRx_ dC dI q cA σ)) (QW_ (some (.int u.1)) (fun H => va_P (dC, dI) cls_ (wR q cA u.2) H) (AR q)) 0 0 (AR q) := by
  refine Met.ofW (cc := prog_9_method_40_code) (maxL := 2) (ret := (some .int)) (by decide) rfl ?_
  intro p e s m args below meth c s₁ B hml hv
  obtain ⟨rfl, hP, hK, hD, hN, hZ⟩ := hv
  have hx := B.exec
  have hb := B.bytes
  have hr := B.returns
  have hts : ∀ w ∈ AW_, w.before _ s = true := fun w h => atoms_spec (ws := w_R_parse) B.pre w (List.mem_cons_of_mem _ h)
  have hown : s.vm.findClass "StagedParsersModel" = some m.cls := findClass_of_methodNamed B.named
  have hlocks := B.notSynchronized
  have hS : va_S (AR q) s.heap s.heap [] := va_S.rf
  have hl := lv_entry ([.ref (q 0), .int a1]) (n := 2) (Nat.le_of_ble_eq_true rfl)
  rw [lg_entry_eq]
  generalize (lg_sl ([.ref (q 0), .int a1]) ++ List.replicate (2 - (lg_sl ([.ref (q 0), .int a1])).length) Slot.unset).toArray = ls at hl ⊢
  have hl : lv_has ls 2 [(0, .ref (q 0)), (1, .int a1)] := hl
  rw [f_R_parse] at h
  refine lv_aload_n hx hb d_R_parse_0 rfl (lv_at hl 0 rfl) ?_
  refine lv_iconst (v := 0) hx hb d_R_parse_1 (by decide) ?_
  refine pf_R_65 hx hb hts hown hK hP hD hS d_R_parse_2 (fun H locs hP hS => ?_)
  obtain ⟨σ1, eσ1, h⟩ := st_some h
  rw [← eσ1] at hP
  have hD : va_D (AR q) (wR q cA σ1) := dd_re (wR_f _ _ _ _) hD
  refine lv_aload_n hx hb d_R_parse_5 rfl (lv_at hl 0 rfl) ?_
  refine gf_R_98 hx hb hts hown hK hP d_R_parse_6 ?_
  refine lv_if_ne (tgt := 18) hx hb d_R_parse_9 rfl (fun hc => ?_) (fun hc => ?_)
  · have h := if_f hc h
    refine lv_iload_n hx hb d_R_parse_18 rfl (lv_at hl 1 rfl) ?_
    refine lv_iconst (v := 0) hx hb d_R_parse_19 (by decide) ?_
    refine lv_iconst (v := 5) hx hb d_R_parse_20 (by decide) ?_
    obtain ⟨r1, hcl, h⟩ := bd_some h
    refine cx_read (va_runS (As := [.int a1, .int 0, .int 5]) (rest := []) ⟨hx, hb, hml, hown, hts⟩ (c_R_in l dC dI q cA σ1 a1 0 5 _ hcl) (cw_R_72 hts ⟨Nat.le_of_ble_eq_true rfl, Nat.le_of_ble_eq_true rfl⟩) ⟨pxR_B, pxR_U hP hK hD hN hZ hS⟩ rfl rfl hl.1 rfl (lv_room (Nat.le_of_ble_eq_true rfl)) d_R_parse_21 ⟨Nat.zero_le _, Nat.zero_le _⟩) ?_
    refine lv_if_eq (tgt := 36) hx hb d_R_parse_24 rfl (fun hc => ?_) (fun hc => ?_)
    · have h := if_t hc h
      refine lv_aload_n hx hb d_R_parse_36 rfl (lv_at hl 0 rfl) ?_
      refine lv_iconst (v := 2) hx hb d_R_parse_37 (by decide) ?_
      obtain ⟨u2, hcl, h⟩ := bd_some h
      refine cx_wri (va_runV (As := [.int 2]) (rest := []) ⟨hx, hb, hml, hown, hts⟩ (c_R_fails l dC dI q cA σ1 2 _ hcl) (cw_R_94 hts ⟨Nat.le_of_ble_eq_true rfl, Nat.le_of_ble_eq_true rfl⟩) ⟨pxR_B, va_recv hK hP (ci := 7) (q0 := 0) rfl rfl, pxR_U hP hK hD hN hZ hS⟩ rfl rfl hl.1 rfl (lv_room (Nat.le_of_ble_eq_true rfl)) d_R_parse_38 ⟨Nat.zero_le _, Nat.zero_le _⟩) hS (fun _ h => h) (fun H locs hP hS => ?_)
      have hD : va_D (AR q) (wR q cA u2.2) := dd_re (wR_f _ _ _ _) hD
      obtain rfl := Option.some.inj h
      exact W.iret hx hb hr (fun t ht hW => ⟨rfl, by rw [ht]; exact hP, hS.F ht⟩) hS.2.2 d_R_parse_41
    · have h := if_f hc h
      refine lv_aload_n hx hb d_R_parse_27 rfl (lv_at hl 0 rfl) ?_
      refine gf_R_25 hx hb hts hown hK hP d_R_parse_28 ?_
      refine lv_iload_n hx hb d_R_parse_31 rfl (lv_at hl 1 rfl) ?_
      obtain ⟨hgd, h⟩ := gd_some h
      refine al_R_6 hx hb hK hP hgd d_R_parse_32 ?_
      refine lv_if_ne (tgt := 42) hx hb d_R_parse_33 rfl (fun hc => ?_) (fun hc => ?_)
      · have h := if_f hc h
        refine lv_aload_n hx hb d_R_parse_42 rfl (lv_at hl 0 rfl) ?_
        refine lv_iload_n hx hb d_R_parse_43 rfl (lv_at hl 1 rfl) ?_
        obtain ⟨u3, hcl, h⟩ := bd_some h
        refine cx_wrv (va_runV (As := [.int a1]) (rest := []) ⟨hx, hb, hml, hown, hts⟩ (c_R_run l K dC dI q cA σ1 a1 _ hcl) (cw_R_199 hts ⟨Nat.le_of_ble_eq_true rfl, Nat.le_of_ble_eq_true rfl⟩) ⟨pxR_B, va_recv hK hP (ci := 7) (q0 := 0) rfl rfl, pxR_U hP hK hD hN hZ hS⟩ rfl rfl hl.1 rfl (lv_room (Nat.le_of_ble_eq_true rfl)) d_R_parse_44 ⟨Nat.zero_le _, Nat.zero_le _⟩) hS (fun _ h => h) (fun H locs hP hS => ?_)
        have hD : va_D (AR q) (wR q cA u3) := dd_re (wR_f _ _ _ _) hD
        refine lv_aload_n hx hb d_R_parse_47 rfl (lv_at hl 0 rfl) ?_
        refine lv_iconst (v := 1) hx hb d_R_parse_48 (by decide) ?_
        refine pf_R_202 hx hb hts hown hK hP hD hS (Or.inr rfl) d_R_parse_49 (fun H locs hP hS => ?_)
        obtain ⟨σ2, eσ2, h⟩ := st_some h
        rw [← eσ2] at hP
        have hD : va_D (AR q) (wR q cA σ2) := dd_re (wR_f _ _ _ _) hD
        refine lv_aload_n hx hb d_R_parse_52 rfl (lv_at hl 0 rfl) ?_
        refine lv_aload_n hx hb d_R_parse_53 rfl (lv_at hl 0 rfl) ?_
        refine gf_R_153 hx hb hts hown hK hP d_R_parse_54 ?_
        refine lv_if_eq (tgt := 64) hx hb d_R_parse_57 rfl (fun hc => ?_) (fun hc => ?_)
        · have h := if_t hc h
          refine lv_aload_n hx hb d_R_parse_64 rfl (lv_at hl 0 rfl) ?_
          refine gf_R_141 hx hb hts hown hK hP d_R_parse_65 ?_
          refine pf_R_205 hx hb hts hown hK hP hD hS d_R_parse_68 (fun H locs hP hS => ?_)
          obtain ⟨σ3, eσ3, h⟩ := st_some h
          rw [← eσ3] at hP
          have hD : va_D (AR q) (wR q cA σ3) := dd_re (wR_f _ _ _ _) hD
          refine lv_aload_n hx hb d_R_parse_71 rfl (lv_at hl 0 rfl) ?_
          refine lv_aload_n hx hb d_R_parse_72 rfl (lv_at hl 0 rfl) ?_
          refine gf_R_153 hx hb hts hown hK hP d_R_parse_73 ?_
          refine lv_if_ne (tgt := 90) hx hb d_R_parse_76 rfl (fun hc => ?_) (fun hc => ?_)
          · have h := if_f hc h
            refine lv_iconst (v := 0) hx hb d_R_parse_90 (by decide) ?_
            refine pf_R_208 hx hb hts hown hK hP hD hS (Or.inl rfl) d_R_parse_91 (fun H locs hP hS => ?_)
            obtain ⟨σ4, eσ4, h⟩ := st_some h
            rw [← eσ4] at hP
            have hD : va_D (AR q) (wR q cA σ4) := dd_re (wR_f _ _ _ _) hD
            refine lv_aload_n hx hb d_R_parse_94 rfl (lv_at hl 0 rfl) ?_
            refine gf_R_153 hx hb hts hown hK hP d_R_parse_95 ?_
            refine lv_if_eq (tgt := 107) hx hb d_R_parse_98 rfl (fun hc => ?_) (fun hc => ?_)
            · have h := if_t hc h
              refine lv_aload_n hx hb d_R_parse_107 rfl (lv_at hl 0 rfl) ?_
              refine gf_R_144 hx hb hts hown hK hP d_R_parse_108 ?_
              refine lv_if_ne (tgt := 120) hx hb d_R_parse_111 rfl (fun hc => ?_) (fun hc => ?_)
              · have h := if_f hc h
                refine lv_aload_n hx hb d_R_parse_120 rfl (lv_at hl 0 rfl) ?_
                refine gf_R_147 hx hb hts hown hK hP d_R_parse_121 ?_
                obtain rfl := Option.some.inj h
                exact W.iret hx hb hr (fun t ht hW => ⟨rfl, by rw [ht]; exact hP, hS.F ht⟩) hS.2.2 d_R_parse_124
              · have h := if_t hc h
                refine lv_aload_n hx hb d_R_parse_114 rfl (lv_at hl 0 rfl) ?_
                refine lv_iconst (v := 4) hx hb d_R_parse_115 (by decide) ?_
                obtain ⟨u4, hcl, h⟩ := bd_some h
                refine cx_wri (va_runV (As := [.int 4]) (rest := []) ⟨hx, hb, hml, hown, hts⟩ (c_R_fails l dC dI q cA σ4 4 _ hcl) (cw_R_94 hts ⟨Nat.le_of_ble_eq_true rfl, Nat.le_of_ble_eq_true rfl⟩) ⟨pxR_B, va_recv hK hP (ci := 7) (q0 := 0) rfl rfl, pxR_U hP hK hD hN hZ hS⟩ rfl rfl hl.1 rfl (lv_room (Nat.le_of_ble_eq_true rfl)) d_R_parse_116 ⟨Nat.zero_le _, Nat.zero_le _⟩) hS (fun _ h => h) (fun H locs hP hS => ?_)
                have hD : va_D (AR q) (wR q cA u4.2) := dd_re (wR_f _ _ _ _) hD
                obtain rfl := Option.some.inj h
                exact W.iret hx hb hr (fun t ht hW => ⟨rfl, by rw [ht]; exact hP, hS.F ht⟩) hS.2.2 d_R_parse_119
            · have h := if_f hc h
              refine lv_aload_n hx hb d_R_parse_101 rfl (lv_at hl 0 rfl) ?_
              refine lv_iconst (v := 3) hx hb d_R_parse_102 (by decide) ?_
              obtain ⟨u5, hcl, h⟩ := bd_some h
              refine cx_wri (va_runV (As := [.int 3]) (rest := []) ⟨hx, hb, hml, hown, hts⟩ (c_R_fails l dC dI q cA σ4 3 _ hcl) (cw_R_94 hts ⟨Nat.le_of_ble_eq_true rfl, Nat.le_of_ble_eq_true rfl⟩) ⟨pxR_B, va_recv hK hP (ci := 7) (q0 := 0) rfl rfl, pxR_U hP hK hD hN hZ hS⟩ rfl rfl hl.1 rfl (lv_room (Nat.le_of_ble_eq_true rfl)) d_R_parse_103 ⟨Nat.zero_le _, Nat.zero_le _⟩) hS (fun _ h => h) (fun H locs hP hS => ?_)
              have hD : va_D (AR q) (wR q cA u5.2) := dd_re (wR_f _ _ _ _) hD
              obtain rfl := Option.some.inj h
              exact W.iret hx hb hr (fun t ht hW => ⟨rfl, by rw [ht]; exact hP, hS.F ht⟩) hS.2.2 d_R_parse_106
          · have h := if_t hc h
            refine lv_aload_n hx hb d_R_parse_79 rfl (lv_at hl 0 rfl) ?_
            refine gf_R_144 hx hb hts hown hK hP d_R_parse_80 ?_
            refine lv_if_eq (tgt := 90) hx hb d_R_parse_83 rfl (fun hc => ?_) (fun hc => ?_)
            · have h := if_t hc h
              refine lv_iconst (v := 0) hx hb d_R_parse_90 (by decide) ?_
              refine pf_R_208 hx hb hts hown hK hP hD hS (Or.inl rfl) d_R_parse_91 (fun H locs hP hS => ?_)
              obtain ⟨σ5, eσ5, h⟩ := st_some h
              rw [← eσ5] at hP
              have hD : va_D (AR q) (wR q cA σ5) := dd_re (wR_f _ _ _ _) hD
              refine lv_aload_n hx hb d_R_parse_94 rfl (lv_at hl 0 rfl) ?_
              refine gf_R_153 hx hb hts hown hK hP d_R_parse_95 ?_
              refine lv_if_eq (tgt := 107) hx hb d_R_parse_98 rfl (fun hc => ?_) (fun hc => ?_)
              · have h := if_t hc h
                refine lv_aload_n hx hb d_R_parse_107 rfl (lv_at hl 0 rfl) ?_
                refine gf_R_144 hx hb hts hown hK hP d_R_parse_108 ?_
                refine lv_if_ne (tgt := 120) hx hb d_R_parse_111 rfl (fun hc => ?_) (fun hc => ?_)
                · have h := if_f hc h
                  refine lv_aload_n hx hb d_R_parse_120 rfl (lv_at hl 0 rfl) ?_
                  refine gf_R_147 hx hb hts hown hK hP d_R_parse_121 ?_
                  obtain rfl := Option.some.inj h
                  exact W.iret hx hb hr (fun t ht hW => ⟨rfl, by rw [ht]; exact hP, hS.F ht⟩) hS.2.2 d_R_parse_124
                · have h := if_t hc h
                  refine lv_aload_n hx hb d_R_parse_114 rfl (lv_at hl 0 rfl) ?_
                  refine lv_iconst (v := 4) hx hb d_R_parse_115 (by decide) ?_
                  obtain ⟨u6, hcl, h⟩ := bd_some h
                  refine cx_wri (va_runV (As := [.int 4]) (rest := []) ⟨hx, hb, hml, hown, hts⟩ (c_R_fails l dC dI q cA σ5 4 _ hcl) (cw_R_94 hts ⟨Nat.le_of_ble_eq_true rfl, Nat.le_of_ble_eq_true rfl⟩) ⟨pxR_B, va_recv hK hP (ci := 7) (q0 := 0) rfl rfl, pxR_U hP hK hD hN hZ hS⟩ rfl rfl hl.1 rfl (lv_room (Nat.le_of_ble_eq_true rfl)) d_R_parse_116 ⟨Nat.zero_le _, Nat.zero_le _⟩) hS (fun _ h => h) (fun H locs hP hS => ?_)
                  have hD : va_D (AR q) (wR q cA u6.2) := dd_re (wR_f _ _ _ _) hD
                  obtain rfl := Option.some.inj h
                  exact W.iret hx hb hr (fun t ht hW => ⟨rfl, by rw [ht]; exact hP, hS.F ht⟩) hS.2.2 d_R_parse_119
              · have h := if_f hc h
                refine lv_aload_n hx hb d_R_parse_101 rfl (lv_at hl 0 rfl) ?_
                refine lv_iconst (v := 3) hx hb d_R_parse_102 (by decide) ?_
                obtain ⟨u7, hcl, h⟩ := bd_some h
                refine cx_wri (va_runV (As := [.int 3]) (rest := []) ⟨hx, hb, hml, hown, hts⟩ (c_R_fails l dC dI q cA σ5 3 _ hcl) (cw_R_94 hts ⟨Nat.le_of_ble_eq_true rfl, Nat.le_of_ble_eq_true rfl⟩) ⟨pxR_B, va_recv hK hP (ci := 7) (q0 := 0) rfl rfl, pxR_U hP hK hD hN hZ hS⟩ rfl rfl hl.1 rfl (lv_room (Nat.le_of_ble_eq_true rfl)) d_R_parse_103 ⟨Nat.zero_le _, Nat.zero_le _⟩) hS (fun _ h => h) (fun H locs hP hS => ?_)
                have hD : va_D (AR q) (wR q cA u7.2) := dd_re (wR_f _ _ _ _) hD
                obtain rfl := Option.some.inj h
                exact W.iret hx hb hr (fun t ht hW => ⟨rfl, by rw [ht]; exact hP, hS.F ht⟩) hS.2.2 d_R_parse_106
            · have h := if_f hc h
              refine lv_iconst (v := 1) hx hb d_R_parse_86 (by decide) ?_
              refine lv_goto (tgt := 91) hx hb d_R_parse_87 rfl ?_
              refine pf_R_208 hx hb hts hown hK hP hD hS (Or.inr rfl) d_R_parse_91 (fun H locs hP hS => ?_)
              obtain ⟨σ6, eσ6, h⟩ := st_some h
              rw [← eσ6] at hP
              have hD : va_D (AR q) (wR q cA σ6) := dd_re (wR_f _ _ _ _) hD
              refine lv_aload_n hx hb d_R_parse_94 rfl (lv_at hl 0 rfl) ?_
              refine gf_R_153 hx hb hts hown hK hP d_R_parse_95 ?_
              refine lv_if_eq (tgt := 107) hx hb d_R_parse_98 rfl (fun hc => ?_) (fun hc => ?_)
              · have h := if_t hc h
                refine lv_aload_n hx hb d_R_parse_107 rfl (lv_at hl 0 rfl) ?_
                refine gf_R_144 hx hb hts hown hK hP d_R_parse_108 ?_
                refine lv_if_ne (tgt := 120) hx hb d_R_parse_111 rfl (fun hc => ?_) (fun hc => ?_)
                · have h := if_f hc h
                  refine lv_aload_n hx hb d_R_parse_120 rfl (lv_at hl 0 rfl) ?_
                  refine gf_R_147 hx hb hts hown hK hP d_R_parse_121 ?_
                  obtain rfl := Option.some.inj h
                  exact W.iret hx hb hr (fun t ht hW => ⟨rfl, by rw [ht]; exact hP, hS.F ht⟩) hS.2.2 d_R_parse_124
                · have h := if_t hc h
                  refine lv_aload_n hx hb d_R_parse_114 rfl (lv_at hl 0 rfl) ?_
                  refine lv_iconst (v := 4) hx hb d_R_parse_115 (by decide) ?_
                  obtain ⟨u8, hcl, h⟩ := bd_some h
                  refine cx_wri (va_runV (As := [.int 4]) (rest := []) ⟨hx, hb, hml, hown, hts⟩ (c_R_fails l dC dI q cA σ6 4 _ hcl) (cw_R_94 hts ⟨Nat.le_of_ble_eq_true rfl, Nat.le_of_ble_eq_true rfl⟩) ⟨pxR_B, va_recv hK hP (ci := 7) (q0 := 0) rfl rfl, pxR_U hP hK hD hN hZ hS⟩ rfl rfl hl.1 rfl (lv_room (Nat.le_of_ble_eq_true rfl)) d_R_parse_116 ⟨Nat.zero_le _, Nat.zero_le _⟩) hS (fun _ h => h) (fun H locs hP hS => ?_)
                  have hD : va_D (AR q) (wR q cA u8.2) := dd_re (wR_f _ _ _ _) hD
                  obtain rfl := Option.some.inj h
                  exact W.iret hx hb hr (fun t ht hW => ⟨rfl, by rw [ht]; exact hP, hS.F ht⟩) hS.2.2 d_R_parse_119
              · have h := if_f hc h
                refine lv_aload_n hx hb d_R_parse_101 rfl (lv_at hl 0 rfl) ?_
                refine lv_iconst (v := 3) hx hb d_R_parse_102 (by decide) ?_
                obtain ⟨u9, hcl, h⟩ := bd_some h
                refine cx_wri (va_runV (As := [.int 3]) (rest := []) ⟨hx, hb, hml, hown, hts⟩ (c_R_fails l dC dI q cA σ6 3 _ hcl) (cw_R_94 hts ⟨Nat.le_of_ble_eq_true rfl, Nat.le_of_ble_eq_true rfl⟩) ⟨pxR_B, va_recv hK hP (ci := 7) (q0 := 0) rfl rfl, pxR_U hP hK hD hN hZ hS⟩ rfl rfl hl.1 rfl (lv_room (Nat.le_of_ble_eq_true rfl)) d_R_parse_103 ⟨Nat.zero_le _, Nat.zero_le _⟩) hS (fun _ h => h) (fun H locs hP hS => ?_)
                have hD : va_D (AR q) (wR q cA u9.2) := dd_re (wR_f _ _ _ _) hD
                obtain rfl := Option.some.inj h
                exact W.iret hx hb hr (fun t ht hW => ⟨rfl, by rw [ht]; exact hP, hS.F ht⟩) hS.2.2 d_R_parse_106
        · have h := if_f hc h
          refine lv_iconst (v := (-1)) hx hb d_R_parse_60 (by decide) ?_
          refine lv_goto (tgt := 68) hx hb d_R_parse_61 rfl ?_
          refine pf_R_205 hx hb hts hown hK hP hD hS d_R_parse_68 (fun H locs hP hS => ?_)
          obtain ⟨σ7, eσ7, h⟩ := st_some h
          rw [← eσ7] at hP
          have hD : va_D (AR q) (wR q cA σ7) := dd_re (wR_f _ _ _ _) hD
          refine lv_aload_n hx hb d_R_parse_71 rfl (lv_at hl 0 rfl) ?_
          refine lv_aload_n hx hb d_R_parse_72 rfl (lv_at hl 0 rfl) ?_
          refine gf_R_153 hx hb hts hown hK hP d_R_parse_73 ?_
          refine lv_if_ne (tgt := 90) hx hb d_R_parse_76 rfl (fun hc => ?_) (fun hc => ?_)
          · have h := if_f hc h
            refine lv_iconst (v := 0) hx hb d_R_parse_90 (by decide) ?_
            refine pf_R_208 hx hb hts hown hK hP hD hS (Or.inl rfl) d_R_parse_91 (fun H locs hP hS => ?_)
            obtain ⟨σ8, eσ8, h⟩ := st_some h
            rw [← eσ8] at hP
            have hD : va_D (AR q) (wR q cA σ8) := dd_re (wR_f _ _ _ _) hD
            refine lv_aload_n hx hb d_R_parse_94 rfl (lv_at hl 0 rfl) ?_
            refine gf_R_153 hx hb hts hown hK hP d_R_parse_95 ?_
            refine lv_if_eq (tgt := 107) hx hb d_R_parse_98 rfl (fun hc => ?_) (fun hc => ?_)
            · have h := if_t hc h
              refine lv_aload_n hx hb d_R_parse_107 rfl (lv_at hl 0 rfl) ?_
              refine gf_R_144 hx hb hts hown hK hP d_R_parse_108 ?_
              refine lv_if_ne (tgt := 120) hx hb d_R_parse_111 rfl (fun hc => ?_) (fun hc => ?_)
              · have h := if_f hc h
                refine lv_aload_n hx hb d_R_parse_120 rfl (lv_at hl 0 rfl) ?_
                refine gf_R_147 hx hb hts hown hK hP d_R_parse_121 ?_
                obtain rfl := Option.some.inj h
                exact W.iret hx hb hr (fun t ht hW => ⟨rfl, by rw [ht]; exact hP, hS.F ht⟩) hS.2.2 d_R_parse_124
              · have h := if_t hc h
                refine lv_aload_n hx hb d_R_parse_114 rfl (lv_at hl 0 rfl) ?_
                refine lv_iconst (v := 4) hx hb d_R_parse_115 (by decide) ?_
                obtain ⟨u10, hcl, h⟩ := bd_some h
                refine cx_wri (va_runV (As := [.int 4]) (rest := []) ⟨hx, hb, hml, hown, hts⟩ (c_R_fails l dC dI q cA σ8 4 _ hcl) (cw_R_94 hts ⟨Nat.le_of_ble_eq_true rfl, Nat.le_of_ble_eq_true rfl⟩) ⟨pxR_B, va_recv hK hP (ci := 7) (q0 := 0) rfl rfl, pxR_U hP hK hD hN hZ hS⟩ rfl rfl hl.1 rfl (lv_room (Nat.le_of_ble_eq_true rfl)) d_R_parse_116 ⟨Nat.zero_le _, Nat.zero_le _⟩) hS (fun _ h => h) (fun H locs hP hS => ?_)
                have hD : va_D (AR q) (wR q cA u10.2) := dd_re (wR_f _ _ _ _) hD
                obtain rfl := Option.some.inj h
                exact W.iret hx hb hr (fun t ht hW => ⟨rfl, by rw [ht]; exact hP, hS.F ht⟩) hS.2.2 d_R_parse_119
            · have h := if_f hc h
              refine lv_aload_n hx hb d_R_parse_101 rfl (lv_at hl 0 rfl) ?_
              refine lv_iconst (v := 3) hx hb d_R_parse_102 (by decide) ?_
              obtain ⟨u11, hcl, h⟩ := bd_some h
              refine cx_wri (va_runV (As := [.int 3]) (rest := []) ⟨hx, hb, hml, hown, hts⟩ (c_R_fails l dC dI q cA σ8 3 _ hcl) (cw_R_94 hts ⟨Nat.le_of_ble_eq_true rfl, Nat.le_of_ble_eq_true rfl⟩) ⟨pxR_B, va_recv hK hP (ci := 7) (q0 := 0) rfl rfl, pxR_U hP hK hD hN hZ hS⟩ rfl rfl hl.1 rfl (lv_room (Nat.le_of_ble_eq_true rfl)) d_R_parse_103 ⟨Nat.zero_le _, Nat.zero_le _⟩) hS (fun _ h => h) (fun H locs hP hS => ?_)
              have hD : va_D (AR q) (wR q cA u11.2) := dd_re (wR_f _ _ _ _) hD
              obtain rfl := Option.some.inj h
              exact W.iret hx hb hr (fun t ht hW => ⟨rfl, by rw [ht]; exact hP, hS.F ht⟩) hS.2.2 d_R_parse_106
          · have h := if_t hc h
            refine lv_aload_n hx hb d_R_parse_79 rfl (lv_at hl 0 rfl) ?_
            refine gf_R_144 hx hb hts hown hK hP d_R_parse_80 ?_
            refine lv_if_eq (tgt := 90) hx hb d_R_parse_83 rfl (fun hc => ?_) (fun hc => ?_)
            · have h := if_t hc h
              refine lv_iconst (v := 0) hx hb d_R_parse_90 (by decide) ?_
              refine pf_R_208 hx hb hts hown hK hP hD hS (Or.inl rfl) d_R_parse_91 (fun H locs hP hS => ?_)
              obtain ⟨σ9, eσ9, h⟩ := st_some h
              rw [← eσ9] at hP
              have hD : va_D (AR q) (wR q cA σ9) := dd_re (wR_f _ _ _ _) hD
              refine lv_aload_n hx hb d_R_parse_94 rfl (lv_at hl 0 rfl) ?_
              refine gf_R_153 hx hb hts hown hK hP d_R_parse_95 ?_
              refine lv_if_eq (tgt := 107) hx hb d_R_parse_98 rfl (fun hc => ?_) (fun hc => ?_)
              · have h := if_t hc h
                refine lv_aload_n hx hb d_R_parse_107 rfl (lv_at hl 0 rfl) ?_
                refine gf_R_144 hx hb hts hown hK hP d_R_parse_108 ?_
                refine lv_if_ne (tgt := 120) hx hb d_R_parse_111 rfl (fun hc => ?_) (fun hc => ?_)
                · have h := if_f hc h
                  refine lv_aload_n hx hb d_R_parse_120 rfl (lv_at hl 0 rfl) ?_
                  refine gf_R_147 hx hb hts hown hK hP d_R_parse_121 ?_
                  obtain rfl := Option.some.inj h
                  exact W.iret hx hb hr (fun t ht hW => ⟨rfl, by rw [ht]; exact hP, hS.F ht⟩) hS.2.2 d_R_parse_124
                · have h := if_t hc h
                  refine lv_aload_n hx hb d_R_parse_114 rfl (lv_at hl 0 rfl) ?_
                  refine lv_iconst (v := 4) hx hb d_R_parse_115 (by decide) ?_
                  obtain ⟨u12, hcl, h⟩ := bd_some h
                  refine cx_wri (va_runV (As := [.int 4]) (rest := []) ⟨hx, hb, hml, hown, hts⟩ (c_R_fails l dC dI q cA σ9 4 _ hcl) (cw_R_94 hts ⟨Nat.le_of_ble_eq_true rfl, Nat.le_of_ble_eq_true rfl⟩) ⟨pxR_B, va_recv hK hP (ci := 7) (q0 := 0) rfl rfl, pxR_U hP hK hD hN hZ hS⟩ rfl rfl hl.1 rfl (lv_room (Nat.le_of_ble_eq_true rfl)) d_R_parse_116 ⟨Nat.zero_le _, Nat.zero_le _⟩) hS (fun _ h => h) (fun H locs hP hS => ?_)
                  have hD : va_D (AR q) (wR q cA u12.2) := dd_re (wR_f _ _ _ _) hD
                  obtain rfl := Option.some.inj h
                  exact W.iret hx hb hr (fun t ht hW => ⟨rfl, by rw [ht]; exact hP, hS.F ht⟩) hS.2.2 d_R_parse_119
              · have h := if_f hc h
                refine lv_aload_n hx hb d_R_parse_101 rfl (lv_at hl 0 rfl) ?_
                refine lv_iconst (v := 3) hx hb d_R_parse_102 (by decide) ?_
                obtain ⟨u13, hcl, h⟩ := bd_some h
                refine cx_wri (va_runV (As := [.int 3]) (rest := []) ⟨hx, hb, hml, hown, hts⟩ (c_R_fails l dC dI q cA σ9 3 _ hcl) (cw_R_94 hts ⟨Nat.le_of_ble_eq_true rfl, Nat.le_of_ble_eq_true rfl⟩) ⟨pxR_B, va_recv hK hP (ci := 7) (q0 := 0) rfl rfl, pxR_U hP hK hD hN hZ hS⟩ rfl rfl hl.1 rfl (lv_room (Nat.le_of_ble_eq_true rfl)) d_R_parse_103 ⟨Nat.zero_le _, Nat.zero_le _⟩) hS (fun _ h => h) (fun H locs hP hS => ?_)
                have hD : va_D (AR q) (wR q cA u13.2) := dd_re (wR_f _ _ _ _) hD
                obtain rfl := Option.some.inj h
                exact W.iret hx hb hr (fun t ht hW => ⟨rfl, by rw [ht]; exact hP, hS.F ht⟩) hS.2.2 d_R_parse_106
            · have h := if_f hc h
              refine lv_iconst (v := 1) hx hb d_R_parse_86 (by decide) ?_
              refine lv_goto (tgt := 91) hx hb d_R_parse_87 rfl ?_
              refine pf_R_208 hx hb hts hown hK hP hD hS (Or.inr rfl) d_R_parse_91 (fun H locs hP hS => ?_)
              obtain ⟨σ10, eσ10, h⟩ := st_some h
              rw [← eσ10] at hP
              have hD : va_D (AR q) (wR q cA σ10) := dd_re (wR_f _ _ _ _) hD
              refine lv_aload_n hx hb d_R_parse_94 rfl (lv_at hl 0 rfl) ?_
              refine gf_R_153 hx hb hts hown hK hP d_R_parse_95 ?_
              refine lv_if_eq (tgt := 107) hx hb d_R_parse_98 rfl (fun hc => ?_) (fun hc => ?_)
              · have h := if_t hc h
                refine lv_aload_n hx hb d_R_parse_107 rfl (lv_at hl 0 rfl) ?_
                refine gf_R_144 hx hb hts hown hK hP d_R_parse_108 ?_
                refine lv_if_ne (tgt := 120) hx hb d_R_parse_111 rfl (fun hc => ?_) (fun hc => ?_)
                · have h := if_f hc h
                  refine lv_aload_n hx hb d_R_parse_120 rfl (lv_at hl 0 rfl) ?_
                  refine gf_R_147 hx hb hts hown hK hP d_R_parse_121 ?_
                  obtain rfl := Option.some.inj h
                  exact W.iret hx hb hr (fun t ht hW => ⟨rfl, by rw [ht]; exact hP, hS.F ht⟩) hS.2.2 d_R_parse_124
                · have h := if_t hc h
                  refine lv_aload_n hx hb d_R_parse_114 rfl (lv_at hl 0 rfl) ?_
                  refine lv_iconst (v := 4) hx hb d_R_parse_115 (by decide) ?_
                  obtain ⟨u14, hcl, h⟩ := bd_some h
                  refine cx_wri (va_runV (As := [.int 4]) (rest := []) ⟨hx, hb, hml, hown, hts⟩ (c_R_fails l dC dI q cA σ10 4 _ hcl) (cw_R_94 hts ⟨Nat.le_of_ble_eq_true rfl, Nat.le_of_ble_eq_true rfl⟩) ⟨pxR_B, va_recv hK hP (ci := 7) (q0 := 0) rfl rfl, pxR_U hP hK hD hN hZ hS⟩ rfl rfl hl.1 rfl (lv_room (Nat.le_of_ble_eq_true rfl)) d_R_parse_116 ⟨Nat.zero_le _, Nat.zero_le _⟩) hS (fun _ h => h) (fun H locs hP hS => ?_)
                  have hD : va_D (AR q) (wR q cA u14.2) := dd_re (wR_f _ _ _ _) hD
                  obtain rfl := Option.some.inj h
                  exact W.iret hx hb hr (fun t ht hW => ⟨rfl, by rw [ht]; exact hP, hS.F ht⟩) hS.2.2 d_R_parse_119
              · have h := if_f hc h
                refine lv_aload_n hx hb d_R_parse_101 rfl (lv_at hl 0 rfl) ?_
                refine lv_iconst (v := 3) hx hb d_R_parse_102 (by decide) ?_
                obtain ⟨u15, hcl, h⟩ := bd_some h
                refine cx_wri (va_runV (As := [.int 3]) (rest := []) ⟨hx, hb, hml, hown, hts⟩ (c_R_fails l dC dI q cA σ10 3 _ hcl) (cw_R_94 hts ⟨Nat.le_of_ble_eq_true rfl, Nat.le_of_ble_eq_true rfl⟩) ⟨pxR_B, va_recv hK hP (ci := 7) (q0 := 0) rfl rfl, pxR_U hP hK hD hN hZ hS⟩ rfl rfl hl.1 rfl (lv_room (Nat.le_of_ble_eq_true rfl)) d_R_parse_103 ⟨Nat.zero_le _, Nat.zero_le _⟩) hS (fun _ h => h) (fun H locs hP hS => ?_)
                have hD : va_D (AR q) (wR q cA u15.2) := dd_re (wR_f _ _ _ _) hD
                obtain rfl := Option.some.inj h
                exact W.iret hx hb hr (fun t ht hW => ⟨rfl, by rw [ht]; exact hP, hS.F ht⟩) hS.2.2 d_R_parse_106
      · have h := if_t hc h
        refine lv_aload_n hx hb d_R_parse_36 rfl (lv_at hl 0 rfl) ?_
        refine lv_iconst (v := 2) hx hb d_R_parse_37 (by decide) ?_
        obtain ⟨u16, hcl, h⟩ := bd_some h
        refine cx_wri (va_runV (As := [.int 2]) (rest := []) ⟨hx, hb, hml, hown, hts⟩ (c_R_fails l dC dI q cA σ1 2 _ hcl) (cw_R_94 hts ⟨Nat.le_of_ble_eq_true rfl, Nat.le_of_ble_eq_true rfl⟩) ⟨pxR_B, va_recv hK hP (ci := 7) (q0 := 0) rfl rfl, pxR_U hP hK hD hN hZ hS⟩ rfl rfl hl.1 rfl (lv_room (Nat.le_of_ble_eq_true rfl)) d_R_parse_38 ⟨Nat.zero_le _, Nat.zero_le _⟩) hS (fun _ h => h) (fun H locs hP hS => ?_)
        have hD : va_D (AR q) (wR q cA u16.2) := dd_re (wR_f _ _ _ _) hD
        obtain rfl := Option.some.inj h
        exact W.iret hx hb hr (fun t ht hW => ⟨rfl, by rw [ht]; exact hP, hS.F ht⟩) hS.2.2 d_R_parse_41
  · have h := if_t hc h
    refine lv_aload_n hx hb d_R_parse_12 rfl (lv_at hl 0 rfl) ?_
    refine lv_iconst (v := 1) hx hb d_R_parse_13 (by decide) ?_
    obtain ⟨u17, hcl, h⟩ := bd_some h
    refine cx_wri (va_runV (As := [.int 1]) (rest := []) ⟨hx, hb, hml, hown, hts⟩ (c_R_fails l dC dI q cA σ1 1 _ hcl) (cw_R_94 hts ⟨Nat.le_of_ble_eq_true rfl, Nat.le_of_ble_eq_true rfl⟩) ⟨pxR_B, va_recv hK hP (ci := 7) (q0 := 0) rfl rfl, pxR_U hP hK hD hN hZ hS⟩ rfl rfl hl.1 rfl (lv_room (Nat.le_of_ble_eq_true rfl)) d_R_parse_14 ⟨Nat.zero_le _, Nat.zero_le _⟩) hS (fun _ h => h) (fun H locs hP hS => ?_)
    have hD : va_D (AR q) (wR q cA u17.2) := dd_re (wR_f _ _ _ _) hD
    obtain rfl := Option.some.inj h
    exact W.iret hx hb hr (fun t ht hW => ⟨rfl, by rw [ht]; exact hP, hS.F ht⟩) hS.2.2 d_R_parse_17
def y_R_latest : MethodName := ⟨"StagedParsersModel", "latest", "(I)I"⟩
def w_R_latest : List Cond := .code y_R_latest prog_9_method_41_code 2 (some .int) :: AW_
def rm_R_latest : Room := { frames := 1, cells := 0, slots := 0, locals := 22 }
theorem d_R_latest_0 : decode prog_9_method_41_code 0 = .ok (.aload_n 0, 1) := by decide +kernel
theorem d_R_latest_1 : decode prog_9_method_41_code 1 = .ok (.iconst 0, 1) := by decide +kernel
theorem d_R_latest_2 : decode prog_9_method_41_code 2 = .ok (.putfield 65, 3) := by decide +kernel
theorem d_R_latest_5 : decode prog_9_method_41_code 5 = .ok (.iload_n 1, 1) := by decide +kernel
theorem d_R_latest_6 : decode prog_9_method_41_code 6 = .ok (.iconst 0, 1) := by decide +kernel
theorem d_R_latest_7 : decode prog_9_method_41_code 7 = .ok (.iconst 3, 1) := by decide +kernel
theorem d_R_latest_8 : decode prog_9_method_41_code 8 = .ok (.invokestatic 72, 3) := by decide +kernel
theorem d_R_latest_11 : decode prog_9_method_41_code 11 = .ok (.ifCond .ne 6, 3) := by decide +kernel
theorem d_R_latest_14 : decode prog_9_method_41_code 14 = .ok (.bipush (-2), 2) := by decide +kernel
theorem d_R_latest_16 : decode prog_9_method_41_code 16 = .ok (.ireturn, 1) := by decide +kernel
theorem d_R_latest_17 : decode prog_9_method_41_code 17 = .ok (.aload_n 0, 1) := by decide +kernel
theorem d_R_latest_18 : decode prog_9_method_41_code 18 = .ok (.getfield 202, 3) := by decide +kernel
theorem d_R_latest_21 : decode prog_9_method_41_code 21 = .ok (.ifCond .ne 5, 3) := by decide +kernel
theorem d_R_latest_24 : decode prog_9_method_41_code 24 = .ok (.iconst 0, 1) := by decide +kernel
theorem d_R_latest_25 : decode prog_9_method_41_code 25 = .ok (.ireturn, 1) := by decide +kernel
theorem d_R_latest_26 : decode prog_9_method_41_code 26 = .ok (.iload_n 1, 1) := by decide +kernel
theorem d_R_latest_27 : decode prog_9_method_41_code 27 = .ok (.ifCond .ne 10, 3) := by decide +kernel
theorem d_R_latest_30 : decode prog_9_method_41_code 30 = .ok (.aload_n 0, 1) := by decide +kernel
theorem d_R_latest_31 : decode prog_9_method_41_code 31 = .ok (.getfield 205, 3) := by decide +kernel
theorem d_R_latest_34 : decode prog_9_method_41_code 34 = .ok (.goto 39, 3) := by decide +kernel
theorem d_R_latest_37 : decode prog_9_method_41_code 37 = .ok (.iload_n 1, 1) := by decide +kernel
theorem d_R_latest_38 : decode prog_9_method_41_code 38 = .ok (.iconst 1, 1) := by decide +kernel
theorem d_R_latest_39 : decode prog_9_method_41_code 39 = .ok (.if_icmp .ne 10, 3) := by decide +kernel
theorem d_R_latest_42 : decode prog_9_method_41_code 42 = .ok (.aload_n 0, 1) := by decide +kernel
theorem d_R_latest_43 : decode prog_9_method_41_code 43 = .ok (.getfield 150, 3) := by decide +kernel
theorem d_R_latest_46 : decode prog_9_method_41_code 46 = .ok (.goto 27, 3) := by decide +kernel
theorem d_R_latest_49 : decode prog_9_method_41_code 49 = .ok (.iload_n 1, 1) := by decide +kernel
theorem d_R_latest_50 : decode prog_9_method_41_code 50 = .ok (.iconst 2, 1) := by decide +kernel
theorem d_R_latest_51 : decode prog_9_method_41_code 51 = .ok (.if_icmp .ne 10, 3) := by decide +kernel
theorem d_R_latest_54 : decode prog_9_method_41_code 54 = .ok (.aload_n 0, 1) := by decide +kernel
theorem d_R_latest_55 : decode prog_9_method_41_code 55 = .ok (.getfield 159, 3) := by decide +kernel
theorem d_R_latest_58 : decode prog_9_method_41_code 58 = .ok (.goto 15, 3) := by decide +kernel
theorem d_R_latest_61 : decode prog_9_method_41_code 61 = .ok (.aload_n 0, 1) := by decide +kernel
theorem d_R_latest_62 : decode prog_9_method_41_code 62 = .ok (.getfield 208, 3) := by decide +kernel
theorem d_R_latest_65 : decode prog_9_method_41_code 65 = .ok (.ifCond .eq 7, 3) := by decide +kernel
theorem d_R_latest_68 : decode prog_9_method_41_code 68 = .ok (.iconst 1, 1) := by decide +kernel
theorem d_R_latest_69 : decode prog_9_method_41_code 69 = .ok (.goto 4, 3) := by decide +kernel
theorem d_R_latest_72 : decode prog_9_method_41_code 72 = .ok (.iconst 0, 1) := by decide +kernel
theorem d_R_latest_73 : decode prog_9_method_41_code 73 = .ok (.ireturn, 1) := by decide +kernel
section RW
variable {p : Program} {l : Launch} {e : Env} {R : Room} {s : State} {m : MethodId} {args : Array Value} {below : List Frame} {meth : Method} {c : Code} {H : Heap} {locs : List Loc} {cells slots : Nat} {Q : State → Prop}
variable {cc : ByteArray} {pc : Nat} {ls : Array Slot} {rest : List Value} {dC : Nat → ClassId} {dI : Nat → Nat → Nat} {q : Nat → Nat} {cA : Nat → ClassId} {σ : MZ_} {H0 : Heap} {A : Nat → Prop}

theorem gf_R_202 (hx : p.tables.exec = Jvm.exec) (hb : c.code = cc) (hts : ∀ w ∈ AW_, w.before args s = true) (hown : s.vm.findClass "StagedParsersModel" = some m.cls) (hK : va_K (dC, dI) cls_ (tyR cA) s) (hP : va_P (dC, dI) cls_ (wR q cA σ) H) (hdg : decode cc pc = .ok (.getfield 202, 3)) (kk : W p l e R s m args below meth c H locs cells slots Q (F0 m (pc + 3) ls (.int (σ 43 0) :: rest))) : W p l e R s m args below meth c H locs cells slots Q (F0 m pc ls (.ref (q 0) :: rest)) :=
  va_get (D := (dC, dI)) (cl := cls_) (ci := 7) (v := .int (σ 43 0)) (ws := wR q cA σ) (tys := tyR cA) (C := Rz_R) (T := Tz_R) (N := 34) hx hb hts uz_R hown hK hP 0 rfl rfl 31 (by decide) (hts _ kw_842) (fun _ h9 => h9) rfl hdg kk
theorem gf_R_208 (hx : p.tables.exec = Jvm.exec) (hb : c.code = cc) (hts : ∀ w ∈ AW_, w.before args s = true) (hown : s.vm.findClass "StagedParsersModel" = some m.cls) (hK : va_K (dC, dI) cls_ (tyR cA) s) (hP : va_P (dC, dI) cls_ (wR q cA σ) H) (hdg : decode cc pc = .ok (.getfield 208, 3)) (kk : W p l e R s m args below meth c H locs cells slots Q (F0 m (pc + 3) ls (.int (σ 45 0) :: rest))) : W p l e R s m args below meth c H locs cells slots Q (F0 m pc ls (.ref (q 0) :: rest)) :=
  va_get (D := (dC, dI)) (cl := cls_) (ci := 7) (v := .int (σ 45 0)) (ws := wR q cA σ) (tys := tyR cA) (C := Rz_R) (T := Tz_R) (N := 34) hx hb hts uz_R hown hK hP 0 rfl rfl 33 (by decide) (hts _ kw_844) (fun _ h9 => h9) rfl hdg kk
theorem gf_R_205 (hx : p.tables.exec = Jvm.exec) (hb : c.code = cc) (hts : ∀ w ∈ AW_, w.before args s = true) (hown : s.vm.findClass "StagedParsersModel" = some m.cls) (hK : va_K (dC, dI) cls_ (tyR cA) s) (hP : va_P (dC, dI) cls_ (wR q cA σ) H) (hdg : decode cc pc = .ok (.getfield 205, 3)) (kk : W p l e R s m args below meth c H locs cells slots Q (F0 m (pc + 3) ls (.int (σ 44 0) :: rest))) : W p l e R s m args below meth c H locs cells slots Q (F0 m pc ls (.ref (q 0) :: rest)) :=
  va_get (D := (dC, dI)) (cl := cls_) (ci := 7) (v := .int (σ 44 0)) (ws := wR q cA σ) (tys := tyR cA) (C := Rz_R) (T := Tz_R) (N := 34) hx hb hts uz_R hown hK hP 0 rfl rfl 32 (by decide) (hts _ kw_843) (fun _ h9 => h9) rfl hdg kk
end RW
def f_R_latest (σ : MZ_) (a1 : Int32) : Option (Int32 × MZ_) :=
  st_ (va_up σ 30 (fun _ => 0)) fun σ1 => (f_R_in a1 0 3).bind fun r1 => if r1 = 0 then some ((-2), σ1)
  else if (σ1 43 0) = 0 then some (0, σ1)
  else if a1 = 0 then some (σ1 44 0, σ1)
  else if a1 = 1 then some (σ1 41 0, σ1)
  else if a1 = 2 then some (σ1 42 0, σ1)
  else if (σ1 45 0) = 0 then some (0, σ1)
  else some (1, σ1)
set_option maxHeartbeats 4000000 in
set_option maxRecDepth 100000 in
theorem c_R_latest (l : Launch) (dC : Nat → ClassId) (dI : Nat → Nat → Nat) (q : Nat → Nat) (cA : Nat → ClassId) (σ : MZ_) (a1 : Int32) (u : Int32 × MZ_) (h : f_R_latest σ a1 = some u) : Met l y_R_latest w_R_latest rm_R_latest (va_Pc [.ref (q 0), .int a1] (PRx_ dC dI q cA σ)) (QW_ (some (.int u.1)) (fun H => va_P (dC, dI) cls_ (wR q cA u.2) H) (AR q)) 0 0 (AR q) := by
  refine Met.ofW (cc := prog_9_method_41_code) (maxL := 2) (ret := (some .int)) (by decide) rfl ?_
  intro p e s m args below meth c s₁ B hml hv
  obtain ⟨rfl, hP, hK, hD, hN, hZ⟩ := hv
  have hx := B.exec
  have hb := B.bytes
  have hr := B.returns
  have hts : ∀ w ∈ AW_, w.before _ s = true := fun w h => atoms_spec (ws := w_R_latest) B.pre w (List.mem_cons_of_mem _ h)
  have hown : s.vm.findClass "StagedParsersModel" = some m.cls := findClass_of_methodNamed B.named
  have hlocks := B.notSynchronized
  have hS : va_S (AR q) s.heap s.heap [] := va_S.rf
  have hl := lv_entry ([.ref (q 0), .int a1]) (n := 2) (Nat.le_of_ble_eq_true rfl)
  rw [lg_entry_eq]
  generalize (lg_sl ([.ref (q 0), .int a1]) ++ List.replicate (2 - (lg_sl ([.ref (q 0), .int a1])).length) Slot.unset).toArray = ls at hl ⊢
  have hl : lv_has ls 2 [(0, .ref (q 0)), (1, .int a1)] := hl
  rw [f_R_latest] at h
  refine lv_aload_n hx hb d_R_latest_0 rfl (lv_at hl 0 rfl) ?_
  refine lv_iconst (v := 0) hx hb d_R_latest_1 (by decide) ?_
  refine pf_R_65 hx hb hts hown hK hP hD hS d_R_latest_2 (fun H locs hP hS => ?_)
  obtain ⟨σ1, eσ1, h⟩ := st_some h
  rw [← eσ1] at hP
  have hD : va_D (AR q) (wR q cA σ1) := dd_re (wR_f _ _ _ _) hD
  refine lv_iload_n hx hb d_R_latest_5 rfl (lv_at hl 1 rfl) ?_
  refine lv_iconst (v := 0) hx hb d_R_latest_6 (by decide) ?_
  refine lv_iconst (v := 3) hx hb d_R_latest_7 (by decide) ?_
  obtain ⟨r1, hcl, h⟩ := bd_some h
  refine cx_read (va_runS (As := [.int a1, .int 0, .int 3]) (rest := []) ⟨hx, hb, hml, hown, hts⟩ (c_R_in l dC dI q cA σ1 a1 0 3 _ hcl) (cw_R_72 hts ⟨Nat.le_of_ble_eq_true rfl, Nat.le_of_ble_eq_true rfl⟩) ⟨pxR_B, pxR_U hP hK hD hN hZ hS⟩ rfl rfl hl.1 rfl (lv_room (Nat.le_of_ble_eq_true rfl)) d_R_latest_8 ⟨Nat.zero_le _, Nat.zero_le _⟩) ?_
  refine lv_if_ne (tgt := 17) hx hb d_R_latest_11 rfl (fun hc => ?_) (fun hc => ?_)
  · have h := if_f hc h
    refine lv_aload_n hx hb d_R_latest_17 rfl (lv_at hl 0 rfl) ?_
    refine gf_R_202 hx hb hts hown hK hP d_R_latest_18 ?_
    refine lv_if_ne (tgt := 26) hx hb d_R_latest_21 rfl (fun hc => ?_) (fun hc => ?_)
    · have h := if_f hc h
      refine lv_iload_n hx hb d_R_latest_26 rfl (lv_at hl 1 rfl) ?_
      refine lv_if_ne (tgt := 37) hx hb d_R_latest_27 rfl (fun hc => ?_) (fun hc => ?_)
      · have h := if_f hc h
        refine lv_iload_n hx hb d_R_latest_37 rfl (lv_at hl 1 rfl) ?_
        refine lv_iconst (v := 1) hx hb d_R_latest_38 (by decide) ?_
        refine lv_icmp_ne (tgt := 49) hx hb d_R_latest_39 rfl (fun hc => ?_) (fun hc => ?_)
        · have h := if_f hc h
          refine lv_iload_n hx hb d_R_latest_49 rfl (lv_at hl 1 rfl) ?_
          refine lv_iconst (v := 2) hx hb d_R_latest_50 (by decide) ?_
          refine lv_icmp_ne (tgt := 61) hx hb d_R_latest_51 rfl (fun hc => ?_) (fun hc => ?_)
          · have h := if_f hc h
            refine lv_aload_n hx hb d_R_latest_61 rfl (lv_at hl 0 rfl) ?_
            refine gf_R_208 hx hb hts hown hK hP d_R_latest_62 ?_
            refine lv_if_eq (tgt := 72) hx hb d_R_latest_65 rfl (fun hc => ?_) (fun hc => ?_)
            · have h := if_t hc h
              refine lv_iconst (v := 0) hx hb d_R_latest_72 (by decide) ?_
              obtain rfl := Option.some.inj h
              exact W.iret hx hb hr (fun t ht hW => ⟨rfl, by rw [ht]; exact hP, hS.F ht⟩) hS.2.2 d_R_latest_73
            · have h := if_f hc h
              refine lv_iconst (v := 1) hx hb d_R_latest_68 (by decide) ?_
              refine lv_goto (tgt := 73) hx hb d_R_latest_69 rfl ?_
              obtain rfl := Option.some.inj h
              exact W.iret hx hb hr (fun t ht hW => ⟨rfl, by rw [ht]; exact hP, hS.F ht⟩) hS.2.2 d_R_latest_73
          · have h := if_t hc h
            refine lv_aload_n hx hb d_R_latest_54 rfl (lv_at hl 0 rfl) ?_
            refine gf_R_159 hx hb hts hown hK hP d_R_latest_55 ?_
            refine lv_goto (tgt := 73) hx hb d_R_latest_58 rfl ?_
            obtain rfl := Option.some.inj h
            exact W.iret hx hb hr (fun t ht hW => ⟨rfl, by rw [ht]; exact hP, hS.F ht⟩) hS.2.2 d_R_latest_73
        · have h := if_t hc h
          refine lv_aload_n hx hb d_R_latest_42 rfl (lv_at hl 0 rfl) ?_
          refine gf_R_150 hx hb hts hown hK hP d_R_latest_43 ?_
          refine lv_goto (tgt := 73) hx hb d_R_latest_46 rfl ?_
          obtain rfl := Option.some.inj h
          exact W.iret hx hb hr (fun t ht hW => ⟨rfl, by rw [ht]; exact hP, hS.F ht⟩) hS.2.2 d_R_latest_73
      · have h := if_t hc h
        refine lv_aload_n hx hb d_R_latest_30 rfl (lv_at hl 0 rfl) ?_
        refine gf_R_205 hx hb hts hown hK hP d_R_latest_31 ?_
        refine lv_goto (tgt := 73) hx hb d_R_latest_34 rfl ?_
        obtain rfl := Option.some.inj h
        exact W.iret hx hb hr (fun t ht hW => ⟨rfl, by rw [ht]; exact hP, hS.F ht⟩) hS.2.2 d_R_latest_73
    · have h := if_t hc h
      refine lv_iconst (v := 0) hx hb d_R_latest_24 (by decide) ?_
      obtain rfl := Option.some.inj h
      exact W.iret hx hb hr (fun t ht hW => ⟨rfl, by rw [ht]; exact hP, hS.F ht⟩) hS.2.2 d_R_latest_25
  · have h := if_t hc h
    refine lv_bipush (v := (-2)) hx hb d_R_latest_14 (by decide) ?_
    obtain rfl := Option.some.inj h
    exact W.iret hx hb hr (fun t ht hW => ⟨rfl, by rw [ht]; exact hP, hS.F ht⟩) hS.2.2 d_R_latest_16
def y_R_register : MethodName := ⟨"StagedParsersModel", "register", "(I)I"⟩
def w_R_register : List Cond := .code y_R_register prog_9_method_42_code 2 (some .int) :: AW_
def rm_R_register : Room := { frames := 1, cells := 0, slots := 0, locals := 22 }
theorem d_R_register_0 : decode prog_9_method_42_code 0 = .ok (.aload_n 0, 1) := by decide +kernel
theorem d_R_register_1 : decode prog_9_method_42_code 1 = .ok (.iconst 0, 1) := by decide +kernel
theorem d_R_register_2 : decode prog_9_method_42_code 2 = .ok (.putfield 65, 3) := by decide +kernel
theorem d_R_register_5 : decode prog_9_method_42_code 5 = .ok (.iload_n 1, 1) := by decide +kernel
theorem d_R_register_6 : decode prog_9_method_42_code 6 = .ok (.iconst 0, 1) := by decide +kernel
theorem d_R_register_7 : decode prog_9_method_42_code 7 = .ok (.iconst 3, 1) := by decide +kernel
theorem d_R_register_8 : decode prog_9_method_42_code 8 = .ok (.invokestatic 72, 3) := by decide +kernel
theorem d_R_register_11 : decode prog_9_method_42_code 11 = .ok (.ifCond .eq 12, 3) := by decide +kernel
theorem d_R_register_14 : decode prog_9_method_42_code 14 = .ok (.aload_n 0, 1) := by decide +kernel
theorem d_R_register_15 : decode prog_9_method_42_code 15 = .ok (.getfield 62, 3) := by decide +kernel
theorem d_R_register_18 : decode prog_9_method_42_code 18 = .ok (.iload_n 1, 1) := by decide +kernel
theorem d_R_register_19 : decode prog_9_method_42_code 19 = .ok (.iaload, 1) := by decide +kernel
theorem d_R_register_20 : decode prog_9_method_42_code 20 = .ok (.goto 4, 3) := by decide +kernel
theorem d_R_register_23 : decode prog_9_method_42_code 23 = .ok (.iconst 0, 1) := by decide +kernel
theorem d_R_register_24 : decode prog_9_method_42_code 24 = .ok (.ireturn, 1) := by decide +kernel
def f_R_register (σ : MZ_) (a1 : Int32) : Option (Int32 × MZ_) :=
  st_ (va_up σ 30 (fun _ => 0)) fun σ1 => (f_R_in a1 0 3).bind fun r1 => if r1 = 0 then some (0, σ1)
  else gd_ a1 4 (some (σ1 18 a1.toNatClampNeg, σ1))
set_option maxHeartbeats 4000000 in
set_option maxRecDepth 100000 in
theorem c_R_register (l : Launch) (dC : Nat → ClassId) (dI : Nat → Nat → Nat) (q : Nat → Nat) (cA : Nat → ClassId) (σ : MZ_) (a1 : Int32) (u : Int32 × MZ_) (h : f_R_register σ a1 = some u) : Met l y_R_register w_R_register rm_R_register (va_Pc [.ref (q 0), .int a1] (PRx_ dC dI q cA σ)) (QW_ (some (.int u.1)) (fun H => va_P (dC, dI) cls_ (wR q cA u.2) H) (AR q)) 0 0 (AR q) := by
  refine Met.ofW (cc := prog_9_method_42_code) (maxL := 2) (ret := (some .int)) (by decide) rfl ?_
  intro p e s m args below meth c s₁ B hml hv
  obtain ⟨rfl, hP, hK, hD, hN, hZ⟩ := hv
  have hx := B.exec
  have hb := B.bytes
  have hr := B.returns
  have hts : ∀ w ∈ AW_, w.before _ s = true := fun w h => atoms_spec (ws := w_R_register) B.pre w (List.mem_cons_of_mem _ h)
  have hown : s.vm.findClass "StagedParsersModel" = some m.cls := findClass_of_methodNamed B.named
  have hlocks := B.notSynchronized
  have hS : va_S (AR q) s.heap s.heap [] := va_S.rf
  have hl := lv_entry ([.ref (q 0), .int a1]) (n := 2) (Nat.le_of_ble_eq_true rfl)
  rw [lg_entry_eq]
  generalize (lg_sl ([.ref (q 0), .int a1]) ++ List.replicate (2 - (lg_sl ([.ref (q 0), .int a1])).length) Slot.unset).toArray = ls at hl ⊢
  have hl : lv_has ls 2 [(0, .ref (q 0)), (1, .int a1)] := hl
  rw [f_R_register] at h
  refine lv_aload_n hx hb d_R_register_0 rfl (lv_at hl 0 rfl) ?_
  refine lv_iconst (v := 0) hx hb d_R_register_1 (by decide) ?_
  refine pf_R_65 hx hb hts hown hK hP hD hS d_R_register_2 (fun H locs hP hS => ?_)
  obtain ⟨σ1, eσ1, h⟩ := st_some h
  rw [← eσ1] at hP
  have hD : va_D (AR q) (wR q cA σ1) := dd_re (wR_f _ _ _ _) hD
  refine lv_iload_n hx hb d_R_register_5 rfl (lv_at hl 1 rfl) ?_
  refine lv_iconst (v := 0) hx hb d_R_register_6 (by decide) ?_
  refine lv_iconst (v := 3) hx hb d_R_register_7 (by decide) ?_
  obtain ⟨r1, hcl, h⟩ := bd_some h
  refine cx_read (va_runS (As := [.int a1, .int 0, .int 3]) (rest := []) ⟨hx, hb, hml, hown, hts⟩ (c_R_in l dC dI q cA σ1 a1 0 3 _ hcl) (cw_R_72 hts ⟨Nat.le_of_ble_eq_true rfl, Nat.le_of_ble_eq_true rfl⟩) ⟨pxR_B, pxR_U hP hK hD hN hZ hS⟩ rfl rfl hl.1 rfl (lv_room (Nat.le_of_ble_eq_true rfl)) d_R_register_8 ⟨Nat.zero_le _, Nat.zero_le _⟩) ?_
  refine lv_if_eq (tgt := 23) hx hb d_R_register_11 rfl (fun hc => ?_) (fun hc => ?_)
  · have h := if_t hc h
    refine lv_iconst (v := 0) hx hb d_R_register_23 (by decide) ?_
    obtain rfl := Option.some.inj h
    exact W.iret hx hb hr (fun t ht hW => ⟨rfl, by rw [ht]; exact hP, hS.F ht⟩) hS.2.2 d_R_register_24
  · have h := if_f hc h
    refine lv_aload_n hx hb d_R_register_14 rfl (lv_at hl 0 rfl) ?_
    refine gf_R_62 hx hb hts hown hK hP d_R_register_15 ?_
    refine lv_iload_n hx hb d_R_register_18 rfl (lv_at hl 1 rfl) ?_
    obtain ⟨hgd, h⟩ := gd_some h
    refine al_R_18 hx hb hK hP hgd d_R_register_19 ?_
    refine lv_goto (tgt := 24) hx hb d_R_register_20 rfl ?_
    obtain rfl := Option.some.inj h
    exact W.iret hx hb hr (fun t ht hW => ⟨rfl, by rw [ht]; exact hP, hS.F ht⟩) hS.2.2 d_R_register_24
def y_R_count : MethodName := ⟨"StagedParsersModel", "count", "(I)I"⟩
def w_R_count : List Cond := .code y_R_count prog_9_method_43_code 2 (some .int) :: AW_
def rm_R_count : Room := { frames := 1, cells := 0, slots := 0, locals := 22 }
theorem d_R_count_0 : decode prog_9_method_43_code 0 = .ok (.aload_n 0, 1) := by decide +kernel
theorem d_R_count_1 : decode prog_9_method_43_code 1 = .ok (.iconst 0, 1) := by decide +kernel
theorem d_R_count_2 : decode prog_9_method_43_code 2 = .ok (.putfield 65, 3) := by decide +kernel
theorem d_R_count_5 : decode prog_9_method_43_code 5 = .ok (.iload_n 1, 1) := by decide +kernel
theorem d_R_count_6 : decode prog_9_method_43_code 6 = .ok (.tableswitch 58 0 3 #[30, 35, 40, 53], 30) := by decide +kernel
theorem d_R_count_36 : decode prog_9_method_43_code 36 = .ok (.aload_n 0, 1) := by decide +kernel
theorem d_R_count_37 : decode prog_9_method_43_code 37 = .ok (.getfield 69, 3) := by decide +kernel
theorem d_R_count_40 : decode prog_9_method_43_code 40 = .ok (.ireturn, 1) := by decide +kernel
theorem d_R_count_41 : decode prog_9_method_43_code 41 = .ok (.aload_n 0, 1) := by decide +kernel
theorem d_R_count_42 : decode prog_9_method_43_code 42 = .ok (.invokevirtual 102, 3) := by decide +kernel
theorem d_R_count_45 : decode prog_9_method_43_code 45 = .ok (.ireturn, 1) := by decide +kernel
theorem d_R_count_46 : decode prog_9_method_43_code 46 = .ok (.aload_n 0, 1) := by decide +kernel
theorem d_R_count_47 : decode prog_9_method_43_code 47 = .ok (.getfield 98, 3) := by decide +kernel
theorem d_R_count_50 : decode prog_9_method_43_code 50 = .ok (.ifCond .eq 7, 3) := by decide +kernel
theorem d_R_count_53 : decode prog_9_method_43_code 53 = .ok (.iconst 1, 1) := by decide +kernel
theorem d_R_count_54 : decode prog_9_method_43_code 54 = .ok (.goto 4, 3) := by decide +kernel
theorem d_R_count_57 : decode prog_9_method_43_code 57 = .ok (.iconst 0, 1) := by decide +kernel
theorem d_R_count_58 : decode prog_9_method_43_code 58 = .ok (.ireturn, 1) := by decide +kernel
theorem d_R_count_59 : decode prog_9_method_43_code 59 = .ok (.aload_n 0, 1) := by decide +kernel
theorem d_R_count_60 : decode prog_9_method_43_code 60 = .ok (.getfield 135, 3) := by decide +kernel
theorem d_R_count_63 : decode prog_9_method_43_code 63 = .ok (.ireturn, 1) := by decide +kernel
theorem d_R_count_64 : decode prog_9_method_43_code 64 = .ok (.iconst (-1), 1) := by decide +kernel
theorem d_R_count_65 : decode prog_9_method_43_code 65 = .ok (.ireturn, 1) := by decide +kernel
def f_R_count (σ : MZ_) (a1 : Int32) : Option (Int32 × MZ_) :=
  st_ (va_up σ 30 (fun _ => 0)) fun σ1 => if a1 = 0 then some (σ1 31 0, σ1)
  else if a1 = 1 then (f_R_bodied σ1).bind fun r1 => some (r1, σ1)
  else if a1 = 2 then if (σ1 32 0) = 0 then some (0, σ1)
    else some (1, σ1)
  else if a1 = 3 then some (σ1 33 0, σ1)
  else some ((-1), σ1)
set_option maxHeartbeats 4000000 in
set_option maxRecDepth 100000 in
theorem c_R_count (l : Launch) (dC : Nat → ClassId) (dI : Nat → Nat → Nat) (q : Nat → Nat) (cA : Nat → ClassId) (σ : MZ_) (a1 : Int32) (u : Int32 × MZ_) (h : f_R_count σ a1 = some u) : Met l y_R_count w_R_count rm_R_count (va_Pc [.ref (q 0), .int a1] (PRx_ dC dI q cA σ)) (QW_ (some (.int u.1)) (fun H => va_P (dC, dI) cls_ (wR q cA u.2) H) (AR q)) 0 0 (AR q) := by
  refine Met.ofW (cc := prog_9_method_43_code) (maxL := 2) (ret := (some .int)) (by decide) rfl ?_
  intro p e s m args below meth c s₁ B hml hv
  obtain ⟨rfl, hP, hK, hD, hN, hZ⟩ := hv
  have hx := B.exec
  have hb := B.bytes
  have hr := B.returns
  have hts : ∀ w ∈ AW_, w.before _ s = true := fun w h => atoms_spec (ws := w_R_count) B.pre w (List.mem_cons_of_mem _ h)
  have hown : s.vm.findClass "StagedParsersModel" = some m.cls := findClass_of_methodNamed B.named
  have hlocks := B.notSynchronized
  have hS : va_S (AR q) s.heap s.heap [] := va_S.rf
  have hl := lv_entry ([.ref (q 0), .int a1]) (n := 2) (Nat.le_of_ble_eq_true rfl)
  rw [lg_entry_eq]
  generalize (lg_sl ([.ref (q 0), .int a1]) ++ List.replicate (2 - (lg_sl ([.ref (q 0), .int a1])).length) Slot.unset).toArray = ls at hl ⊢
  have hl : lv_has ls 2 [(0, .ref (q 0)), (1, .int a1)] := hl
  rw [f_R_count] at h
  refine lv_aload_n hx hb d_R_count_0 rfl (lv_at hl 0 rfl) ?_
  refine lv_iconst (v := 0) hx hb d_R_count_1 (by decide) ?_
  refine pf_R_65 hx hb hts hown hK hP hD hS d_R_count_2 (fun H locs hP hS => ?_)
  obtain ⟨σ1, eσ1, h⟩ := st_some h
  rw [← eσ1] at hP
  have hD : va_D (AR q) (wR q cA σ1) := dd_re (wR_f _ _ _ _) hD
  refine lv_iload_n hx hb d_R_count_5 rfl (lv_at hl 1 rfl) ?_
  by_cases hc0 : a1 = 0
  · have h := if_t hc0 h
    refine sw_in (tgt := 36) hx hb d_R_count_6 hc0 (by decide) (by decide) rfl rfl ?_
    refine lv_aload_n hx hb d_R_count_36 rfl (lv_at hl 0 rfl) ?_
    refine gf_R_69 hx hb hts hown hK hP d_R_count_37 ?_
    obtain rfl := Option.some.inj h
    exact W.iret hx hb hr (fun t ht hW => ⟨rfl, by rw [ht]; exact hP, hS.F ht⟩) hS.2.2 d_R_count_40
  have h := if_f hc0 h
  by_cases hc1 : a1 = 1
  · have h := if_t hc1 h
    refine sw_in (tgt := 41) hx hb d_R_count_6 hc1 (by decide) (by decide) rfl rfl ?_
    refine lv_aload_n hx hb d_R_count_41 rfl (lv_at hl 0 rfl) ?_
    obtain ⟨r1, hcl, h⟩ := bd_some h
    refine cx_read (va_runV (As := []) (rest := []) ⟨hx, hb, hml, hown, hts⟩ (c_R_bodied l dC dI q cA σ1 _ hcl) (cw_R_102 hts ⟨Nat.le_of_ble_eq_true rfl, Nat.le_of_ble_eq_true rfl⟩) ⟨pxR_B, va_recv hK hP (ci := 7) (q0 := 0) rfl rfl, pxR_U hP hK hD hN hZ hS⟩ rfl rfl hl.1 rfl (lv_room (Nat.le_of_ble_eq_true rfl)) d_R_count_42 ⟨Nat.zero_le _, Nat.zero_le _⟩) ?_
    obtain rfl := Option.some.inj h
    exact W.iret hx hb hr (fun t ht hW => ⟨rfl, by rw [ht]; exact hP, hS.F ht⟩) hS.2.2 d_R_count_45
  have h := if_f hc1 h
  by_cases hc2 : a1 = 2
  · have h := if_t hc2 h
    refine sw_in (tgt := 46) hx hb d_R_count_6 hc2 (by decide) (by decide) rfl rfl ?_
    refine lv_aload_n hx hb d_R_count_46 rfl (lv_at hl 0 rfl) ?_
    refine gf_R_98 hx hb hts hown hK hP d_R_count_47 ?_
    refine lv_if_eq (tgt := 57) hx hb d_R_count_50 rfl (fun hc => ?_) (fun hc => ?_)
    · have h := if_t hc h
      refine lv_iconst (v := 0) hx hb d_R_count_57 (by decide) ?_
      obtain rfl := Option.some.inj h
      exact W.iret hx hb hr (fun t ht hW => ⟨rfl, by rw [ht]; exact hP, hS.F ht⟩) hS.2.2 d_R_count_58
    · have h := if_f hc h
      refine lv_iconst (v := 1) hx hb d_R_count_53 (by decide) ?_
      refine lv_goto (tgt := 58) hx hb d_R_count_54 rfl ?_
      obtain rfl := Option.some.inj h
      exact W.iret hx hb hr (fun t ht hW => ⟨rfl, by rw [ht]; exact hP, hS.F ht⟩) hS.2.2 d_R_count_58
  have h := if_f hc2 h
  by_cases hc3 : a1 = 3
  · have h := if_t hc3 h
    refine sw_in (tgt := 59) hx hb d_R_count_6 hc3 (by decide) (by decide) rfl rfl ?_
    refine lv_aload_n hx hb d_R_count_59 rfl (lv_at hl 0 rfl) ?_
    refine gf_R_135 hx hb hts hown hK hP d_R_count_60 ?_
    obtain rfl := Option.some.inj h
    exact W.iret hx hb hr (fun t ht hW => ⟨rfl, by rw [ht]; exact hP, hS.F ht⟩) hS.2.2 d_R_count_63
  have h := if_f hc3 h
  refine lv_tableOut (tgt := 64) hx hb d_R_count_6 (by have q0 := lv_neT hc0 (a := 0) (by decide); have q1 := lv_neT hc1 (a := 1) (by decide); have q2 := lv_neT hc2 (a := 2) (by decide); have q3 := lv_neT hc3 (a := 3) (by decide); omega) rfl ?_
  refine lv_iconst (v := (-1)) hx hb d_R_count_64 (by decide) ?_
  obtain rfl := Option.some.inj h
  exact W.iret hx hb hr (fun t ht hW => ⟨rfl, by rw [ht]; exact hP, hS.F ht⟩) hS.2.2 d_R_count_65
