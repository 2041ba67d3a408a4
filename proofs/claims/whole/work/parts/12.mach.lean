/-! Machine, second -/
def y_M_failAt : MethodName := ⟨"StagedParsers$Machine", "failAt", "(I)V"⟩
def w_M_failAt : List Cond := .code y_M_failAt prog_5_method_23_code 4 none :: AW_
def rm_M_failAt : Room := { frames := 2, cells := 0, slots := 0, locals := 41 }
theorem d_M_failAt_0 : decode prog_5_method_23_code 0 = .ok (.iload_n 1, 1) := by decide +kernel
theorem d_M_failAt_1 : decode prog_5_method_23_code 1 = .ok (.istore_n 2, 1) := by decide +kernel
theorem d_M_failAt_2 : decode prog_5_method_23_code 2 = .ok (.aload_n 0, 1) := by decide +kernel
theorem d_M_failAt_3 : decode prog_5_method_23_code 3 = .ok (.getfield 12, 3) := by decide +kernel
theorem d_M_failAt_6 : decode prog_5_method_23_code 6 = .ok (.invokevirtual 178, 3) := by decide +kernel
theorem d_M_failAt_9 : decode prog_5_method_23_code 9 = .ok (.istore_n 3, 1) := by decide +kernel
theorem d_M_failAt_10 : decode prog_5_method_23_code 10 = .ok (.iload_n 3, 1) := by decide +kernel
theorem d_M_failAt_11 : decode prog_5_method_23_code 11 = .ok (.ifCond .le 45, 3) := by decide +kernel
theorem d_M_failAt_14 : decode prog_5_method_23_code 14 = .ok (.aload_n 0, 1) := by decide +kernel
theorem d_M_failAt_15 : decode prog_5_method_23_code 15 = .ok (.iload_n 2, 1) := by decide +kernel
theorem d_M_failAt_16 : decode prog_5_method_23_code 16 = .ok (.invokevirtual 181, 3) := by decide +kernel
theorem d_M_failAt_19 : decode prog_5_method_23_code 19 = .ok (.ifCond .eq 8, 3) := by decide +kernel
theorem d_M_failAt_22 : decode prog_5_method_23_code 22 = .ok (.aload_n 0, 1) := by decide +kernel
theorem d_M_failAt_23 : decode prog_5_method_23_code 23 = .ok (.invokevirtual 184, 3) := by decide +kernel
theorem d_M_failAt_26 : decode prog_5_method_23_code 26 = .ok (.return_, 1) := by decide +kernel
theorem d_M_failAt_27 : decode prog_5_method_23_code 27 = .ok (.aload_n 0, 1) := by decide +kernel
theorem d_M_failAt_28 : decode prog_5_method_23_code 28 = .ok (.getfield 12, 3) := by decide +kernel
theorem d_M_failAt_31 : decode prog_5_method_23_code 31 = .ok (.invokevirtual 175, 3) := by decide +kernel
theorem d_M_failAt_34 : decode prog_5_method_23_code 34 = .ok (.iconst 3, 1) := by decide +kernel
theorem d_M_failAt_35 : decode prog_5_method_23_code 35 = .ok (.if_icmp .ne 11, 3) := by decide +kernel
theorem d_M_failAt_38 : decode prog_5_method_23_code 38 = .ok (.aload_n 0, 1) := by decide +kernel
theorem d_M_failAt_39 : decode prog_5_method_23_code 39 = .ok (.getfield 12, 3) := by decide +kernel
theorem d_M_failAt_42 : decode prog_5_method_23_code 42 = .ok (.invokevirtual 123, 3) := by decide +kernel
theorem d_M_failAt_45 : decode prog_5_method_23_code 45 = .ok (.istore_n 2, 1) := by decide +kernel
theorem d_M_failAt_46 : decode prog_5_method_23_code 46 = .ok (.aload_n 0, 1) := by decide +kernel
theorem d_M_failAt_47 : decode prog_5_method_23_code 47 = .ok (.invokevirtual 172, 3) := by decide +kernel
theorem d_M_failAt_50 : decode prog_5_method_23_code 50 = .ok (.iinc 3 (-1), 3) := by decide +kernel
theorem d_M_failAt_53 : decode prog_5_method_23_code 53 = .ok (.goto (-43), 3) := by decide +kernel
theorem d_M_failAt_56 : decode prog_5_method_23_code 56 = .ok (.aload_n 0, 1) := by decide +kernel
theorem d_M_failAt_57 : decode prog_5_method_23_code 57 = .ok (.iload_n 2, 1) := by decide +kernel
theorem d_M_failAt_58 : decode prog_5_method_23_code 58 = .ok (.putfield 41, 3) := by decide +kernel
theorem d_M_failAt_61 : decode prog_5_method_23_code 61 = .ok (.aload_n 0, 1) := by decide +kernel
theorem d_M_failAt_62 : decode prog_5_method_23_code 62 = .ok (.iconst 2, 1) := by decide +kernel
theorem d_M_failAt_63 : decode prog_5_method_23_code 63 = .ok (.putfield 37, 3) := by decide +kernel
theorem d_M_failAt_66 : decode prog_5_method_23_code 66 = .ok (.return_, 1) := by decide +kernel
section RW
variable {p : Program} {l : Launch} {e : Env} {R : Room} {s : State} {m : MethodId} {args : Array Value} {below : List Frame} {meth : Method} {c : Code} {H : Heap} {locs : List Loc} {cells slots : Nat} {Q : State → Prop}
variable {cc : ByteArray} {pc : Nat} {ls : Array Slot} {rest : List Value} {dC : Nat → ClassId} {dI : Nat → Nat → Nat} {q : Nat → Nat} {cA : Nat → ClassId} {σ : MZ_} {H0 : Heap} {A : Nat → Prop}

theorem cw_M_178 (hts : ∀ w ∈ AW_, w.before args s = true) (hR : rm_F_size.frames + 1 ≤ R.frames ∧ 8 + (1 + 11) + rm_F_size.locals ≤ R.locals) : CallW R s args "StagedParsers$Machine" "StagedParsers$Frames" 178 y_F_size prog_3_method_4_code 1 (some .int) w_F_size rm_F_size 0 0 0 :=
  ⟨callB_of 0 hts (aw_in kw_700) rfl rfl rfl (hts _ kw_8) (hts _ kw_697) ⟨by decide, by decide, by decide +kernel⟩ hR, hts _ kw_698, hts _ kw_699⟩
theorem cw_M_181 (hts : ∀ w ∈ AW_, w.before args s = true) (hR : rm_M_stops.frames + 1 ≤ R.frames ∧ 8 + (2 + 11) + rm_M_stops.locals ≤ R.locals) : CallW R s args "StagedParsers$Machine" "StagedParsers$Machine" 181 y_M_stops prog_5_method_24_code 2 (some .boolean) w_M_stops rm_M_stops 0 0 1 :=
  ⟨callB_of 1 hts (aw_in kw_704) rfl rfl rfl (hts _ kw_7) (hts _ kw_701) ⟨by decide, by decide, by decide +kernel⟩ hR, hts _ kw_703, hts _ ks_32⟩
theorem cw_M_184 (hts : ∀ w ∈ AW_, w.before args s = true) (hR : rm_M_goOnFromGuard.frames + 1 ≤ R.frames ∧ 8 + (1 + 11) + rm_M_goOnFromGuard.locals ≤ R.locals) : CallW R s args "StagedParsers$Machine" "StagedParsers$Machine" 184 y_M_goOnFromGuard prog_5_method_25_code 1 none w_M_goOnFromGuard rm_M_goOnFromGuard 0 0 0 :=
  ⟨callB_of 0 hts (aw_in kw_716) rfl rfl rfl (hts _ kw_7) (hts _ kw_713) ⟨by decide, by decide, by decide +kernel⟩ hR, hts _ kw_715, hts _ ks_33⟩
end RW
def f_M_failAt_L10 : Nat → MZ_ → Int32 → Int32 → Int32 → Option (MZ_)
  | 0, _, _, _, _ => none
  | N + 1, σ, x1, x2, x3 => if x3 ≤ 0 then st_ (va_up σ 37 (fun _ => x2)) fun σ1 => st_ (va_up σ1 35 (fun _ => 2)) fun σ2 => some σ2
    else (f_M_stops σ x2).bind fun r2 => if r2 = 0 then (f_F_manner σ).bind fun r3 => if r3 = 3 then (f_F_place σ).bind fun r5 => (f_M_dropFrame σ).bind fun u6 => f_M_failAt_L10 N u6 x1 r5 (x3 + (-1))
      else (f_M_dropFrame σ).bind fun u4 => f_M_failAt_L10 N u4 x1 x2 (x3 + (-1))
    else (f_M_goOnFromGuard σ).bind fun u7 => some u7
def f_M_failAt (σ : MZ_) (a1 : Int32) : Option (MZ_) :=
  (f_F_size σ).bind fun r1 => f_M_failAt_L10 1000 σ a1 a1 r1
set_option maxHeartbeats 4000000 in
set_option maxRecDepth 100000 in
theorem c_M_failAt (l : Launch) (dC : Nat → ClassId) (dI : Nat → Nat → Nat) (q : Nat → Nat) (cA : Nat → ClassId) (pt : Nat) (σ : MZ_) (a1 : Int32) (u : MZ_) (h : f_M_failAt σ a1 = some u) : Met l y_M_failAt w_M_failAt rm_M_failAt (va_Pc [.ref (q 22), .int a1] (PX_ dC dI q cA pt σ)) (QW_ none (fun H => va_P (dC, dI) cls_ (wX q cA u) H) (AX q)) 0 0 (AX q) := by
  refine Met.ofW (cc := prog_5_method_23_code) (maxL := 4) (ret := none) (by decide) rfl ?_
  intro p e s m args below meth c s₁ B hml hv
  obtain ⟨rfl, hP, hK, hD, hN, hZ⟩ := hv
  have hx := B.exec
  have hb := B.bytes
  have hr := B.returns
  have hts : ∀ w ∈ AW_, w.before _ s = true := fun w h => atoms_spec (ws := w_M_failAt) B.pre w (List.mem_cons_of_mem _ h)
  have hown : s.vm.findClass "StagedParsers$Machine" = some m.cls := findClass_of_methodNamed B.named
  have hlocks := B.notSynchronized
  have hS : va_S (AX q) s.heap s.heap [] := va_S.rf
  have hl := lv_entry ([.ref (q 22), .int a1]) (n := 4) (Nat.le_of_ble_eq_true rfl)
  rw [lg_entry_eq]
  generalize (lg_sl ([.ref (q 22), .int a1]) ++ List.replicate (4 - (lg_sl ([.ref (q 22), .int a1])).length) Slot.unset).toArray = ls at hl ⊢
  have hl : lv_has ls 4 [(0, .ref (q 22)), (1, .int a1)] := hl
  have L10 : ∀ (N10 : Nat) (σ : MZ_) (x1 : Int32) (x2 : Int32) (x3 : Int32), f_M_failAt_L10 N10 σ x1 x2 x3 = some u → ∀ (H : Heap) (locs : List Loc) (ls : Array Slot), va_P (dC, dI) cls_ (wX q cA σ) H → va_S (AX q) s.heap H locs → lv_has ls 4 [(0, .ref (q 22)), (1, .int x1), (2, .int x2), (3, .int x3)] → W p l e (headSpec w_M_failAt rm_M_failAt).room s m ([.ref (q 22), .int a1] : List Value).toArray below meth c H locs 0 0 (MQ below (QW_ none (fun H => va_P (dC, dI) cls_ (wX q cA u) H) (AX q)) ([.ref (q 22), .int a1] : List Value).toArray s 0 0 (AX q)) (F0 m 10 ls []) := by
    intro N10
    induction N10 with
    | zero => intro σ x1 x2 x3 h; cases h
    | succ N10 ih10 =>
      intro σ x1 x2 x3 h H locs ls hP hS hl
      have hD : va_D (AX q) (wX q cA σ) := dd_re (wX_f _ _ _ _) hD
      rw [f_M_failAt_L10] at h
      refine lv_iload_n hx hb d_M_failAt_10 rfl (lv_at hl 3 rfl) ?_
      refine lv_if_le (tgt := 56) hx hb d_M_failAt_11 rfl (fun hc => ?_) (fun hc => ?_)
      · have h := if_t hc h
        refine lv_aload_n hx hb d_M_failAt_56 rfl (lv_at hl 0 rfl) ?_
        refine lv_iload_n hx hb d_M_failAt_57 rfl (lv_at hl 2 rfl) ?_
        refine pf_M_41 hx hb hts hown hK hP hD hS d_M_failAt_58 (fun H locs hP hS => ?_)
        obtain ⟨σ1, eσ1, h⟩ := st_some h
        rw [← eσ1] at hP
        have hD : va_D (AX q) (wX q cA σ1) := dd_re (wX_f _ _ _ _) hD
        refine lv_aload_n hx hb d_M_failAt_61 rfl (lv_at hl 0 rfl) ?_
        refine lv_iconst (v := 2) hx hb d_M_failAt_62 (by decide) ?_
        refine pf_M_37 hx hb hts hown hK hP hD hS d_M_failAt_63 (fun H locs hP hS => ?_)
        obtain ⟨σ2, eσ2, h⟩ := st_some h
        rw [← eσ2] at hP
        have hD : va_D (AX q) (wX q cA σ2) := dd_re (wX_f _ _ _ _) hD
        obtain rfl := Option.some.inj h
        exact W.vret hx hb hr (fun t ht hW => ⟨rfl, by rw [ht]; exact hP, hS.F ht⟩) hS.2.2 d_M_failAt_66
      · have h := if_f hc h
        refine lv_aload_n hx hb d_M_failAt_14 rfl (lv_at hl 0 rfl) ?_
        refine lv_iload_n hx hb d_M_failAt_15 rfl (lv_at hl 2 rfl) ?_
        obtain ⟨r2, hcl, h⟩ := bd_some h
        refine cx_read (va_runV (As := [.int x2]) (rest := []) ⟨hx, hb, hml, hown, hts⟩ (c_M_stops l dC dI q cA pt σ x2 _ hcl) (cw_M_181 hts ⟨Nat.le_of_ble_eq_true rfl, Nat.le_of_ble_eq_true rfl⟩) ⟨pxX_B, va_recv hK hP (ci := 5) (q0 := 22) rfl rfl, pxX_U hP hK hD hN hZ hS⟩ rfl rfl hl.1 rfl (lv_room (Nat.le_of_ble_eq_true rfl)) d_M_failAt_16 ⟨Nat.zero_le _, Nat.zero_le _⟩) ?_
        refine lv_if_eq (tgt := 27) hx hb d_M_failAt_19 rfl (fun hc => ?_) (fun hc => ?_)
        · have h := if_t hc h
          refine lv_aload_n hx hb d_M_failAt_27 rfl (lv_at hl 0 rfl) ?_
          refine gf_M_12 hx hb hts hown hK hP d_M_failAt_28 ?_
          obtain ⟨r3, hcl, h⟩ := bd_some h
          refine cx_read (va_runV (As := []) (rest := []) ⟨hx, hb, hml, hown, hts⟩ (c_F_manner l dC dI q cA pt σ _ hcl) (cw_M_175 hts ⟨Nat.le_of_ble_eq_true rfl, Nat.le_of_ble_eq_true rfl⟩) ⟨pxX_B, va_recv hK hP (ci := 6) (q0 := 25) rfl rfl, pxX_U hP hK hD hN hZ hS⟩ rfl rfl hl.1 rfl (lv_room (Nat.le_of_ble_eq_true rfl)) d_M_failAt_31 ⟨Nat.zero_le _, Nat.zero_le _⟩) ?_
          refine lv_iconst (v := 3) hx hb d_M_failAt_34 (by decide) ?_
          refine lv_icmp_ne (tgt := 46) hx hb d_M_failAt_35 rfl (fun hc => ?_) (fun hc => ?_)
          · have h := if_f hc h
            refine lv_aload_n hx hb d_M_failAt_46 rfl (lv_at hl 0 rfl) ?_
            obtain ⟨u4, hcl, h⟩ := bd_some h
            refine cx_wrv (va_runV (As := []) (rest := []) ⟨hx, hb, hml, hown, hts⟩ (c_M_dropFrame l dC dI q cA pt σ _ hcl) (cw_M_172 hts ⟨Nat.le_of_ble_eq_true rfl, Nat.le_of_ble_eq_true rfl⟩) ⟨pxX_B, va_recv hK hP (ci := 5) (q0 := 22) rfl rfl, pxX_U hP hK hD hN hZ hS⟩ rfl rfl hl.1 rfl (lv_room (Nat.le_of_ble_eq_true rfl)) d_M_failAt_47 ⟨Nat.zero_le _, Nat.zero_le _⟩) hS (fun _ h => h) (fun H locs hP hS => ?_)
            have hD : va_D (AX q) (wX q cA u4) := dd_re (wX_f _ _ _ _) hD
            refine lv_iinc (v := x3 + (-1)) hx hb d_M_failAt_50 hl (k := 3) rfl rfl (by decide) rfl (fun ls hl => ?_)
            have hl : lv_has ls 4 [(3, .int (x3 + (-1))), (0, .ref (q 22)), (1, .int x1), (2, .int x2)] := hl
            refine lv_goto (tgt := 10) hx hb d_M_failAt_53 rfl ?_
            exact ih10 _ _ _ _ h _ _ _ hP hS (lv_sub hl [1, 2, 3, 0] rfl)
          · have h := if_t hc h
            refine lv_aload_n hx hb d_M_failAt_38 rfl (lv_at hl 0 rfl) ?_
            refine gf_M_12 hx hb hts hown hK hP d_M_failAt_39 ?_
            obtain ⟨r5, hcl, h⟩ := bd_some h
            refine cx_read (va_runV (As := []) (rest := []) ⟨hx, hb, hml, hown, hts⟩ (c_F_place l dC dI q cA pt σ _ hcl) (cw_M_123 hts ⟨Nat.le_of_ble_eq_true rfl, Nat.le_of_ble_eq_true rfl⟩) ⟨pxX_B, va_recv hK hP (ci := 6) (q0 := 25) rfl rfl, pxX_U hP hK hD hN hZ hS⟩ rfl rfl hl.1 rfl (lv_room (Nat.le_of_ble_eq_true rfl)) d_M_failAt_42 ⟨Nat.zero_le _, Nat.zero_le _⟩) ?_
            refine lv_istore_n hx hb d_M_failAt_45 rfl hl (by decide) rfl (fun ls hl => ?_)
            have hl : lv_has ls 4 [(2, .int r5), (0, .ref (q 22)), (1, .int x1), (3, .int x3)] := hl
            refine lv_aload_n hx hb d_M_failAt_46 rfl (lv_at hl 1 rfl) ?_
            obtain ⟨u6, hcl, h⟩ := bd_some h
            refine cx_wrv (va_runV (As := []) (rest := []) ⟨hx, hb, hml, hown, hts⟩ (c_M_dropFrame l dC dI q cA pt σ _ hcl) (cw_M_172 hts ⟨Nat.le_of_ble_eq_true rfl, Nat.le_of_ble_eq_true rfl⟩) ⟨pxX_B, va_recv hK hP (ci := 5) (q0 := 22) rfl rfl, pxX_U hP hK hD hN hZ hS⟩ rfl rfl hl.1 rfl (lv_room (Nat.le_of_ble_eq_true rfl)) d_M_failAt_47 ⟨Nat.zero_le _, Nat.zero_le _⟩) hS (fun _ h => h) (fun H locs hP hS => ?_)
            have hD : va_D (AX q) (wX q cA u6) := dd_re (wX_f _ _ _ _) hD
            refine lv_iinc (v := x3 + (-1)) hx hb d_M_failAt_50 hl (k := 3) rfl rfl (by decide) rfl (fun ls hl => ?_)
            have hl : lv_has ls 4 [(3, .int (x3 + (-1))), (2, .int r5), (0, .ref (q 22)), (1, .int x1)] := hl
            refine lv_goto (tgt := 10) hx hb d_M_failAt_53 rfl ?_
            exact ih10 _ _ _ _ h _ _ _ hP hS (lv_sub hl [2, 3, 1, 0] rfl)
        · have h := if_f hc h
          refine lv_aload_n hx hb d_M_failAt_22 rfl (lv_at hl 0 rfl) ?_
          obtain ⟨u7, hcl, h⟩ := bd_some h
          refine cx_wrv (va_runV (As := []) (rest := []) ⟨hx, hb, hml, hown, hts⟩ (c_M_goOnFromGuard l dC dI q cA pt σ _ hcl) (cw_M_184 hts ⟨Nat.le_of_ble_eq_true rfl, Nat.le_of_ble_eq_true rfl⟩) ⟨pxX_B, va_recv hK hP (ci := 5) (q0 := 22) rfl rfl, pxX_U hP hK hD hN hZ hS⟩ rfl rfl hl.1 rfl (lv_room (Nat.le_of_ble_eq_true rfl)) d_M_failAt_23 ⟨Nat.zero_le _, Nat.zero_le _⟩) hS (fun _ h => h) (fun H locs hP hS => ?_)
          have hD : va_D (AX q) (wX q cA u7) := dd_re (wX_f _ _ _ _) hD
          obtain rfl := Option.some.inj h
          exact W.vret hx hb hr (fun t ht hW => ⟨rfl, by rw [ht]; exact hP, hS.F ht⟩) hS.2.2 d_M_failAt_26
  rw [f_M_failAt] at h
  refine lv_iload_n hx hb d_M_failAt_0 rfl (lv_at hl 1 rfl) ?_
  refine lv_istore_n hx hb d_M_failAt_1 rfl hl (by decide) rfl (fun ls hl => ?_)
  have hl : lv_has ls 4 [(2, .int a1), (0, .ref (q 22)), (1, .int a1)] := hl
  refine lv_aload_n hx hb d_M_failAt_2 rfl (lv_at hl 1 rfl) ?_
  refine gf_M_12 hx hb hts hown hK hP d_M_failAt_3 ?_
  obtain ⟨r1, hcl, h⟩ := bd_some h
  refine cx_read (va_runV (As := []) (rest := []) ⟨hx, hb, hml, hown, hts⟩ (c_F_size l dC dI q cA pt σ _ hcl) (cw_M_178 hts ⟨Nat.le_of_ble_eq_true rfl, Nat.le_of_ble_eq_true rfl⟩) ⟨pxX_B, va_recv hK hP (ci := 6) (q0 := 25) rfl rfl, pxX_U hP hK hD hN hZ hS⟩ rfl rfl hl.1 rfl (lv_room (Nat.le_of_ble_eq_true rfl)) d_M_failAt_6 ⟨Nat.zero_le _, Nat.zero_le _⟩) ?_
  refine lv_istore_n hx hb d_M_failAt_9 rfl hl (by decide) rfl (fun ls hl => ?_)
  have hl : lv_has ls 4 [(3, .int r1), (2, .int a1), (0, .ref (q 22)), (1, .int a1)] := hl
  exact L10 _ _ _ _ _ h _ _ _ hP hS (lv_sub hl [2, 3, 1, 0] rfl)
def y_M_take : MethodName := ⟨"StagedParsers$Machine", "take", "(II)V"⟩
def w_M_take : List Cond := .code y_M_take prog_5_method_18_code 4 none :: AW_
def rm_M_take : Room := { frames := 3, cells := 0, slots := 0, locals := 64 }
theorem d_M_take_0 : decode prog_5_method_18_code 0 = .ok (.aload_n 0, 1) := by decide +kernel
theorem d_M_take_1 : decode prog_5_method_18_code 1 = .ok (.getfield 44, 3) := by decide +kernel
theorem d_M_take_4 : decode prog_5_method_18_code 4 = .ok (.sipush 1500, 3) := by decide +kernel
theorem d_M_take_7 : decode prog_5_method_18_code 7 = .ok (.if_icmp .lt 9, 3) := by decide +kernel
theorem d_M_take_10 : decode prog_5_method_18_code 10 = .ok (.aload_n 0, 1) := by decide +kernel
theorem d_M_take_11 : decode prog_5_method_18_code 11 = .ok (.iconst 3, 1) := by decide +kernel
theorem d_M_take_12 : decode prog_5_method_18_code 12 = .ok (.putfield 37, 3) := by decide +kernel
theorem d_M_take_15 : decode prog_5_method_18_code 15 = .ok (.return_, 1) := by decide +kernel
theorem d_M_take_16 : decode prog_5_method_18_code 16 = .ok (.aload_n 0, 1) := by decide +kernel
theorem d_M_take_17 : decode prog_5_method_18_code 17 = .ok (.dup, 1) := by decide +kernel
theorem d_M_take_18 : decode prog_5_method_18_code 18 = .ok (.getfield 44, 3) := by decide +kernel
theorem d_M_take_21 : decode prog_5_method_18_code 21 = .ok (.iconst 1, 1) := by decide +kernel
theorem d_M_take_22 : decode prog_5_method_18_code 22 = .ok (.iadd, 1) := by decide +kernel
theorem d_M_take_23 : decode prog_5_method_18_code 23 = .ok (.putfield 44, 3) := by decide +kernel
theorem d_M_take_26 : decode prog_5_method_18_code 26 = .ok (.aload_n 0, 1) := by decide +kernel
theorem d_M_take_27 : decode prog_5_method_18_code 27 = .ok (.getfield 29, 3) := by decide +kernel
theorem d_M_take_30 : decode prog_5_method_18_code 30 = .ok (.aload_n 0, 1) := by decide +kernel
theorem d_M_take_31 : decode prog_5_method_18_code 31 = .ok (.getfield 41, 3) := by decide +kernel
theorem d_M_take_34 : decode prog_5_method_18_code 34 = .ok (.invokevirtual 147, 3) := by decide +kernel
theorem d_M_take_37 : decode prog_5_method_18_code 37 = .ok (.istore_n 3, 1) := by decide +kernel
theorem d_M_take_38 : decode prog_5_method_18_code 38 = .ok (.iload_n 3, 1) := by decide +kernel
theorem d_M_take_39 : decode prog_5_method_18_code 39 = .ok (.iconst (-1), 1) := by decide +kernel
theorem d_M_take_40 : decode prog_5_method_18_code 40 = .ok (.if_icmp .eq 31, 3) := by decide +kernel
theorem d_M_take_43 : decode prog_5_method_18_code 43 = .ok (.iload_n 3, 1) := by decide +kernel
theorem d_M_take_44 : decode prog_5_method_18_code 44 = .ok (.iload_n 1, 1) := by decide +kernel
theorem d_M_take_45 : decode prog_5_method_18_code 45 = .ok (.if_icmp .lt 26, 3) := by decide +kernel
theorem d_M_take_48 : decode prog_5_method_18_code 48 = .ok (.iload_n 3, 1) := by decide +kernel
theorem d_M_take_49 : decode prog_5_method_18_code 49 = .ok (.iload_n 2, 1) := by decide +kernel
theorem d_M_take_50 : decode prog_5_method_18_code 50 = .ok (.if_icmp .gt 21, 3) := by decide +kernel
theorem d_M_take_53 : decode prog_5_method_18_code 53 = .ok (.aload_n 0, 1) := by decide +kernel
theorem d_M_take_54 : decode prog_5_method_18_code 54 = .ok (.iload_n 3, 1) := by decide +kernel
theorem d_M_take_55 : decode prog_5_method_18_code 55 = .ok (.invokevirtual 97, 3) := by decide +kernel
theorem d_M_take_58 : decode prog_5_method_18_code 58 = .ok (.aload_n 0, 1) := by decide +kernel
theorem d_M_take_59 : decode prog_5_method_18_code 59 = .ok (.dup, 1) := by decide +kernel
theorem d_M_take_60 : decode prog_5_method_18_code 60 = .ok (.getfield 41, 3) := by decide +kernel
theorem d_M_take_63 : decode prog_5_method_18_code 63 = .ok (.iconst 1, 1) := by decide +kernel
theorem d_M_take_64 : decode prog_5_method_18_code 64 = .ok (.iadd, 1) := by decide +kernel
theorem d_M_take_65 : decode prog_5_method_18_code 65 = .ok (.putfield 41, 3) := by decide +kernel
theorem d_M_take_68 : decode prog_5_method_18_code 68 = .ok (.goto 26, 3) := by decide +kernel
theorem d_M_take_71 : decode prog_5_method_18_code 71 = .ok (.aload_n 0, 1) := by decide +kernel
theorem d_M_take_72 : decode prog_5_method_18_code 72 = .ok (.aload_n 0, 1) := by decide +kernel
theorem d_M_take_73 : decode prog_5_method_18_code 73 = .ok (.getfield 47, 3) := by decide +kernel
theorem d_M_take_76 : decode prog_5_method_18_code 76 = .ok (.aload_n 0, 1) := by decide +kernel
theorem d_M_take_77 : decode prog_5_method_18_code 77 = .ok (.getfield 41, 3) := by decide +kernel
theorem d_M_take_80 : decode prog_5_method_18_code 80 = .ok (.invokestatic 152, 3) := by decide +kernel
theorem d_M_take_83 : decode prog_5_method_18_code 83 = .ok (.putfield 47, 3) := by decide +kernel
theorem d_M_take_86 : decode prog_5_method_18_code 86 = .ok (.aload_n 0, 1) := by decide +kernel
theorem d_M_take_87 : decode prog_5_method_18_code 87 = .ok (.aload_n 0, 1) := by decide +kernel
theorem d_M_take_88 : decode prog_5_method_18_code 88 = .ok (.getfield 41, 3) := by decide +kernel
theorem d_M_take_91 : decode prog_5_method_18_code 91 = .ok (.invokevirtual 104, 3) := by decide +kernel
theorem d_M_take_94 : decode prog_5_method_18_code 94 = .ok (.return_, 1) := by decide +kernel
section RW
variable {p : Program} {l : Launch} {e : Env} {R : Room} {s : State} {m : MethodId} {args : Array Value} {below : List Frame} {meth : Method} {c : Code} {H : Heap} {locs : List Loc} {cells slots : Nat} {Q : State → Prop}
variable {cc : ByteArray} {pc : Nat} {ls : Array Slot} {rest : List Value} {dC : Nat → ClassId} {dI : Nat → Nat → Nat} {q : Nat → Nat} {cA : Nat → ClassId} {σ : MZ_} {H0 : Heap} {A : Nat → Prop}

theorem pf_M_44 (hx : p.tables.exec = Jvm.exec) (hb : c.code = cc) (hts : ∀ w ∈ AW_, w.before args s = true) (hown : s.vm.findClass "StagedParsers$Machine" = some m.cls) (hK : va_K (dC, dI) cls_ (tyX cA) s) (hP : va_P (dC, dI) cls_ (wX q cA σ) H) (hD : va_D A (wX q cA σ)) (hS : va_S A H0 H locs) {v : Int32} (hdg : decode cc pc = .ok (.putfield 44, 3)) (kk : ∀ (H1 : Heap) (locs1 : List Loc), va_P (dC, dI) cls_ (wX q cA (va_up σ 38 (fun _ => v))) H1 → va_S A H0 H1 locs1 → W p l e R s m args below meth c H1 locs1 cells slots Q (F0 m (pc + 3) ls rest)) : W p l e R s m args below meth c H locs cells slots Q (F0 m pc ls (.int v :: .ref (q 22) :: rest)) :=
  va_put (D := (dC, dI)) (cl := cls_) (ci := 5) (v := .int v) (ty := .int) (ws := wX q cA σ) (tys := tyX cA) (C := Rz_M) (T := Tz_M) (N := 14) hx hb hts uz_M tz_M tz_M_ok nz_M hown hK hP hD hS 22 rfl rfl 9 (by decide) (hts _ kw_160) (fun _ h9 => h9) rfl (by decide +kernel) rfl rfl (Nat.le_of_ble_eq_true rfl) hdg (fun H1 locs1 hP _ hS => kk H1 locs1 hP hS)
theorem gf_M_29 (hx : p.tables.exec = Jvm.exec) (hb : c.code = cc) (hts : ∀ w ∈ AW_, w.before args s = true) (hown : s.vm.findClass "StagedParsers$Machine" = some m.cls) (hK : va_K (dC, dI) cls_ (tyX cA) s) (hP : va_P (dC, dI) cls_ (wX q cA σ) H) (hdg : decode cc pc = .ok (.getfield 29, 3)) (kk : W p l e R s m args below meth c H locs cells slots Q (F0 m (pc + 3) ls (.ref (q 20) :: rest))) : W p l e R s m args below meth c H locs cells slots Q (F0 m pc ls (.ref (q 22) :: rest)) :=
  va_get (D := (dC, dI)) (cl := cls_) (ci := 5) (v := .ref (q 20)) (ws := wX q cA σ) (tys := tyX cA) (C := Rz_M) (T := Tz_M) (N := 14) hx hb hts uz_M hown hK hP 22 rfl rfl 1 (by decide) (hts _ kw_152) (fun _ h9 => h9) rfl hdg kk
theorem cw_M_147 (hts : ∀ w ∈ AW_, w.before args s = true) (hR : rm_T_signAt.frames + 1 ≤ R.frames ∧ 8 + (2 + 11) + rm_T_signAt.locals ≤ R.locals) : CallW R s args "StagedParsers$Machine" "StagedParsers$Text" 147 y_T_signAt prog_7_method_6_code 2 (some .int) w_T_signAt rm_T_signAt 0 0 1 :=
  ⟨callB_of 1 hts (aw_in kw_691) rfl rfl rfl (hts _ kw_6) (hts _ kw_688) ⟨by decide, by decide, by decide +kernel⟩ hR, hts _ kw_689, hts _ kw_690⟩
theorem pf_M_47 (hx : p.tables.exec = Jvm.exec) (hb : c.code = cc) (hts : ∀ w ∈ AW_, w.before args s = true) (hown : s.vm.findClass "StagedParsers$Machine" = some m.cls) (hK : va_K (dC, dI) cls_ (tyX cA) s) (hP : va_P (dC, dI) cls_ (wX q cA σ) H) (hD : va_D A (wX q cA σ)) (hS : va_S A H0 H locs) {v : Int32} (hdg : decode cc pc = .ok (.putfield 47, 3)) (kk : ∀ (H1 : Heap) (locs1 : List Loc), va_P (dC, dI) cls_ (wX q cA (va_up σ 39 (fun _ => v))) H1 → va_S A H0 H1 locs1 → W p l e R s m args below meth c H1 locs1 cells slots Q (F0 m (pc + 3) ls rest)) : W p l e R s m args below meth c H locs cells slots Q (F0 m pc ls (.int v :: .ref (q 22) :: rest)) :=
  va_put (D := (dC, dI)) (cl := cls_) (ci := 5) (v := .int v) (ty := .int) (ws := wX q cA σ) (tys := tyX cA) (C := Rz_M) (T := Tz_M) (N := 14) hx hb hts uz_M tz_M tz_M_ok nz_M hown hK hP hD hS 22 rfl rfl 10 (by decide) (hts _ kw_161) (fun _ h9 => h9) rfl (by decide +kernel) rfl rfl (Nat.le_of_ble_eq_true rfl) hdg (fun H1 locs1 hP _ hS => kk H1 locs1 hP hS)
theorem cw_M_104 (hts : ∀ w ∈ AW_, w.before args s = true) (hR : rm_M_failAt.frames + 1 ≤ R.frames ∧ 8 + (4 + 11) + rm_M_failAt.locals ≤ R.locals) : CallW R s args "StagedParsers$Machine" "StagedParsers$Machine" 104 y_M_failAt prog_5_method_23_code 4 none w_M_failAt rm_M_failAt 0 0 1 :=
  ⟨callB_of 1 hts (aw_in kw_696) rfl rfl rfl (hts _ kw_7) (hts _ kw_693) ⟨by decide, by decide, by decide +kernel⟩ hR, hts _ kw_695, hts _ ks_31⟩
theorem cw_M_97 (hts : ∀ w ∈ AW_, w.before args s = true) (hR : rm_M_give.frames + 1 ≤ R.frames ∧ 8 + (2 + 11) + rm_M_give.locals ≤ R.locals) : CallW R s args "StagedParsers$Machine" "StagedParsers$Machine" 97 y_M_give prog_5_method_13_code 2 none w_M_give rm_M_give 0 0 1 :=
  ⟨callB_of 1 hts (aw_in kw_683) rfl rfl rfl (hts _ kw_7) (hts _ kw_680) ⟨by decide, by decide, by decide +kernel⟩ hR, hts _ kw_682, hts _ ks_29⟩
end RW
def f_M_take (σ : MZ_) (a1 : Int32) (a2 : Int32) : Option (MZ_) :=
  if (σ 38 0) < 1500 then st_ (va_up σ 38 (fun _ => (σ 38 0) + 1)) fun σ1 => (f_T_signAt σ1 (σ1 37 0)).bind fun r1 => if r1 = (-1) then st_ (va_up σ1 39 (fun _ => (if (σ1 39 0) < (σ1 37 0) then σ1 37 0 else σ1 39 0))) fun σ2 => (f_M_failAt σ2 (σ2 37 0)).bind fun u2 => some u2
    else if r1 < a1 then st_ (va_up σ1 39 (fun _ => (if (σ1 39 0) < (σ1 37 0) then σ1 37 0 else σ1 39 0))) fun σ3 => (f_M_failAt σ3 (σ3 37 0)).bind fun u3 => some u3
    else if a2 < r1 then st_ (va_up σ1 39 (fun _ => (if (σ1 39 0) < (σ1 37 0) then σ1 37 0 else σ1 39 0))) fun σ4 => (f_M_failAt σ4 (σ4 37 0)).bind fun u4 => some u4
    else (f_M_give σ1 r1).bind fun u5 => st_ (va_up u5 37 (fun _ => (u5 37 0) + 1)) fun σ5 => some σ5
  else st_ (va_up σ 35 (fun _ => 3)) fun σ6 => some σ6
set_option maxHeartbeats 4000000 in
set_option maxRecDepth 100000 in
theorem c_M_take (l : Launch) (dC : Nat → ClassId) (dI : Nat → Nat → Nat) (q : Nat → Nat) (cA : Nat → ClassId) (pt : Nat) (σ : MZ_) (a1 : Int32) (a2 : Int32) (u : MZ_) (h : f_M_take σ a1 a2 = some u) : Met l y_M_take w_M_take rm_M_take (va_Pc [.ref (q 22), .int a1, .int a2] (PX_ dC dI q cA pt σ)) (QW_ none (fun H => va_P (dC, dI) cls_ (wX q cA u) H) (AX q)) 0 0 (AX q) := by
  refine Met.ofW (cc := prog_5_method_18_code) (maxL := 4) (ret := none) (by decide) rfl ?_
  intro p e s m args below meth c s₁ B hml hv
  obtain ⟨rfl, hP, hK, hD, hN, hZ⟩ := hv
  have hx := B.exec
  have hb := B.bytes
  have hr := B.returns
  have hts : ∀ w ∈ AW_, w.before _ s = true := fun w h => atoms_spec (ws := w_M_take) B.pre w (List.mem_cons_of_mem _ h)
  have hown : s.vm.findClass "StagedParsers$Machine" = some m.cls := findClass_of_methodNamed B.named
  have hlocks := B.notSynchronized
  have hS : va_S (AX q) s.heap s.heap [] := va_S.rf
  have hl := lv_entry ([.ref (q 22), .int a1, .int a2]) (n := 4) (Nat.le_of_ble_eq_true rfl)
  rw [lg_entry_eq]
  generalize (lg_sl ([.ref (q 22), .int a1, .int a2]) ++ List.replicate (4 - (lg_sl ([.ref (q 22), .int a1, .int a2])).length) Slot.unset).toArray = ls at hl ⊢
  have hl : lv_has ls 4 [(0, .ref (q 22)), (1, .int a1), (2, .int a2)] := hl
  rw [f_M_take] at h
  refine lv_aload_n hx hb d_M_take_0 rfl (lv_at hl 0 rfl) ?_
  refine gf_M_44 hx hb hts hown hK hP d_M_take_1 ?_
  refine lv_sipush (v := 1500) hx hb d_M_take_4 (by decide) ?_
  refine lv_icmp_lt (tgt := 16) hx hb d_M_take_7 rfl (fun hc => ?_) (fun hc => ?_)
  · have h := if_t hc h
    refine lv_aload_n hx hb d_M_take_16 rfl (lv_at hl 0 rfl) ?_
    refine lv_dup hx hb d_M_take_17 rfl ?_
    refine gf_M_44 hx hb hts hown hK hP d_M_take_18 ?_
    refine lv_iconst (v := 1) hx hb d_M_take_21 (by decide) ?_
    refine lv_iadd hx hb d_M_take_22 ?_
    refine pf_M_44 hx hb hts hown hK hP hD hS d_M_take_23 (fun H locs hP hS => ?_)
    obtain ⟨σ1, eσ1, h⟩ := st_some h
    rw [← eσ1] at hP
    have hD : va_D (AX q) (wX q cA σ1) := dd_re (wX_f _ _ _ _) hD
    refine lv_aload_n hx hb d_M_take_26 rfl (lv_at hl 0 rfl) ?_
    refine gf_M_29 hx hb hts hown hK hP d_M_take_27 ?_
    refine lv_aload_n hx hb d_M_take_30 rfl (lv_at hl 0 rfl) ?_
    refine gf_M_41 hx hb hts hown hK hP d_M_take_31 ?_
    obtain ⟨r1, hcl, h⟩ := bd_some h
    refine cx_read (va_runV (As := [.int (σ1 37 0)]) (rest := []) ⟨hx, hb, hml, hown, hts⟩ (c_T_signAt l dC dI q cA pt σ1 (σ1 37 0) _ hcl) (cw_M_147 hts ⟨Nat.le_of_ble_eq_true rfl, Nat.le_of_ble_eq_true rfl⟩) ⟨pxX_B, va_recv hK hP (ci := 4) (q0 := 20) rfl rfl, pxX_U hP hK hD hN hZ hS⟩ rfl rfl hl.1 rfl (lv_room (Nat.le_of_ble_eq_true rfl)) d_M_take_34 ⟨Nat.zero_le _, Nat.zero_le _⟩) ?_
    refine lv_istore_n hx hb d_M_take_37 rfl hl (by decide) rfl (fun ls hl => ?_)
    have hl : lv_has ls 4 [(3, .int r1), (0, .ref (q 22)), (1, .int a1), (2, .int a2)] := hl
    refine lv_iload_n hx hb d_M_take_38 rfl (lv_at hl 0 rfl) ?_
    refine lv_iconst (v := (-1)) hx hb d_M_take_39 (by decide) ?_
    refine lv_icmp_eq (tgt := 71) hx hb d_M_take_40 rfl (fun hc => ?_) (fun hc => ?_)
    · have h := if_t hc h
      refine lv_aload_n hx hb d_M_take_71 rfl (lv_at hl 1 rfl) ?_
      refine lv_aload_n hx hb d_M_take_72 rfl (lv_at hl 1 rfl) ?_
      refine gf_M_47 hx hb hts hown hK hP d_M_take_73 ?_
      refine lv_aload_n hx hb d_M_take_76 rfl (lv_at hl 1 rfl) ?_
      refine gf_M_41 hx hb hts hown hK hP d_M_take_77 ?_
      refine va_mmax hx hb (hml.trans hl.1.symm) hown (hts _ kw_692) (hts _ kw_540) (hts _ kw_15) (hts _ kw_541) (Nat.le_of_ble_eq_true rfl) (Nat.le_of_ble_eq_true rfl) (Nat.zero_le _) (Nat.zero_le _) d_M_take_80 ?_
      refine pf_M_47 hx hb hts hown hK hP hD hS d_M_take_83 (fun H locs hP hS => ?_)
      obtain ⟨σ2, eσ2, h⟩ := st_some h
      rw [← eσ2] at hP
      have hD : va_D (AX q) (wX q cA σ2) := dd_re (wX_f _ _ _ _) hD
      refine lv_aload_n hx hb d_M_take_86 rfl (lv_at hl 1 rfl) ?_
      refine lv_aload_n hx hb d_M_take_87 rfl (lv_at hl 1 rfl) ?_
      refine gf_M_41 hx hb hts hown hK hP d_M_take_88 ?_
      obtain ⟨u2, hcl, h⟩ := bd_some h
      refine cx_wrv (va_runV (As := [.int (σ2 37 0)]) (rest := []) ⟨hx, hb, hml, hown, hts⟩ (c_M_failAt l dC dI q cA pt σ2 (σ2 37 0) _ hcl) (cw_M_104 hts ⟨Nat.le_of_ble_eq_true rfl, Nat.le_of_ble_eq_true rfl⟩) ⟨pxX_B, va_recv hK hP (ci := 5) (q0 := 22) rfl rfl, pxX_U hP hK hD hN hZ hS⟩ rfl rfl hl.1 rfl (lv_room (Nat.le_of_ble_eq_true rfl)) d_M_take_91 ⟨Nat.zero_le _, Nat.zero_le _⟩) hS (fun _ h => h) (fun H locs hP hS => ?_)
      have hD : va_D (AX q) (wX q cA u2) := dd_re (wX_f _ _ _ _) hD
      obtain rfl := Option.some.inj h
      exact W.vret hx hb hr (fun t ht hW => ⟨rfl, by rw [ht]; exact hP, hS.F ht⟩) hS.2.2 d_M_take_94
    · have h := if_f hc h
      refine lv_iload_n hx hb d_M_take_43 rfl (lv_at hl 0 rfl) ?_
      refine lv_iload_n hx hb d_M_take_44 rfl (lv_at hl 2 rfl) ?_
      refine lv_icmp_lt (tgt := 71) hx hb d_M_take_45 rfl (fun hc => ?_) (fun hc => ?_)
      · have h := if_t hc h
        refine lv_aload_n hx hb d_M_take_71 rfl (lv_at hl 1 rfl) ?_
        refine lv_aload_n hx hb d_M_take_72 rfl (lv_at hl 1 rfl) ?_
        refine gf_M_47 hx hb hts hown hK hP d_M_take_73 ?_
        refine lv_aload_n hx hb d_M_take_76 rfl (lv_at hl 1 rfl) ?_
        refine gf_M_41 hx hb hts hown hK hP d_M_take_77 ?_
        refine va_mmax hx hb (hml.trans hl.1.symm) hown (hts _ kw_692) (hts _ kw_540) (hts _ kw_15) (hts _ kw_541) (Nat.le_of_ble_eq_true rfl) (Nat.le_of_ble_eq_true rfl) (Nat.zero_le _) (Nat.zero_le _) d_M_take_80 ?_
        refine pf_M_47 hx hb hts hown hK hP hD hS d_M_take_83 (fun H locs hP hS => ?_)
        obtain ⟨σ3, eσ3, h⟩ := st_some h
        rw [← eσ3] at hP
        have hD : va_D (AX q) (wX q cA σ3) := dd_re (wX_f _ _ _ _) hD
        refine lv_aload_n hx hb d_M_take_86 rfl (lv_at hl 1 rfl) ?_
        refine lv_aload_n hx hb d_M_take_87 rfl (lv_at hl 1 rfl) ?_
        refine gf_M_41 hx hb hts hown hK hP d_M_take_88 ?_
        obtain ⟨u3, hcl, h⟩ := bd_some h
        refine cx_wrv (va_runV (As := [.int (σ3 37 0)]) (rest := []) ⟨hx, hb, hml, hown, hts⟩ (c_M_failAt l dC dI q cA pt σ3 (σ3 37 0) _ hcl) (cw_M_104 hts ⟨Nat.le_of_ble_eq_true rfl, Nat.le_of_ble_eq_true rfl⟩) ⟨pxX_B, va_recv hK hP (ci := 5) (q0 := 22) rfl rfl, pxX_U hP hK hD hN hZ hS⟩ rfl rfl hl.1 rfl (lv_room (Nat.le_of_ble_eq_true rfl)) d_M_take_91 ⟨Nat.zero_le _, Nat.zero_le _⟩) hS (fun _ h => h) (fun H locs hP hS => ?_)
        have hD : va_D (AX q) (wX q cA u3) := dd_re (wX_f _ _ _ _) hD
        obtain rfl := Option.some.inj h
        exact W.vret hx hb hr (fun t ht hW => ⟨rfl, by rw [ht]; exact hP, hS.F ht⟩) hS.2.2 d_M_take_94
      · have h := if_f hc h
        refine lv_iload_n hx hb d_M_take_48 rfl (lv_at hl 0 rfl) ?_
        refine lv_iload_n hx hb d_M_take_49 rfl (lv_at hl 3 rfl) ?_
        refine lv_icmp_gt (tgt := 71) hx hb d_M_take_50 rfl (fun hc => ?_) (fun hc => ?_)
        · have h := if_t hc h
          refine lv_aload_n hx hb d_M_take_71 rfl (lv_at hl 1 rfl) ?_
          refine lv_aload_n hx hb d_M_take_72 rfl (lv_at hl 1 rfl) ?_
          refine gf_M_47 hx hb hts hown hK hP d_M_take_73 ?_
          refine lv_aload_n hx hb d_M_take_76 rfl (lv_at hl 1 rfl) ?_
          refine gf_M_41 hx hb hts hown hK hP d_M_take_77 ?_
          refine va_mmax hx hb (hml.trans hl.1.symm) hown (hts _ kw_692) (hts _ kw_540) (hts _ kw_15) (hts _ kw_541) (Nat.le_of_ble_eq_true rfl) (Nat.le_of_ble_eq_true rfl) (Nat.zero_le _) (Nat.zero_le _) d_M_take_80 ?_
          refine pf_M_47 hx hb hts hown hK hP hD hS d_M_take_83 (fun H locs hP hS => ?_)
          obtain ⟨σ4, eσ4, h⟩ := st_some h
          rw [← eσ4] at hP
          have hD : va_D (AX q) (wX q cA σ4) := dd_re (wX_f _ _ _ _) hD
          refine lv_aload_n hx hb d_M_take_86 rfl (lv_at hl 1 rfl) ?_
          refine lv_aload_n hx hb d_M_take_87 rfl (lv_at hl 1 rfl) ?_
          refine gf_M_41 hx hb hts hown hK hP d_M_take_88 ?_
          obtain ⟨u4, hcl, h⟩ := bd_some h
          refine cx_wrv (va_runV (As := [.int (σ4 37 0)]) (rest := []) ⟨hx, hb, hml, hown, hts⟩ (c_M_failAt l dC dI q cA pt σ4 (σ4 37 0) _ hcl) (cw_M_104 hts ⟨Nat.le_of_ble_eq_true rfl, Nat.le_of_ble_eq_true rfl⟩) ⟨pxX_B, va_recv hK hP (ci := 5) (q0 := 22) rfl rfl, pxX_U hP hK hD hN hZ hS⟩ rfl rfl hl.1 rfl (lv_room (Nat.le_of_ble_eq_true rfl)) d_M_take_91 ⟨Nat.zero_le _, Nat.zero_le _⟩) hS (fun _ h => h) (fun H locs hP hS => ?_)
          have hD : va_D (AX q) (wX q cA u4) := dd_re (wX_f _ _ _ _) hD
          obtain rfl := Option.some.inj h
          exact W.vret hx hb hr (fun t ht hW => ⟨rfl, by rw [ht]; exact hP, hS.F ht⟩) hS.2.2 d_M_take_94
        · have h := if_f hc h
          refine lv_aload_n hx hb d_M_take_53 rfl (lv_at hl 1 rfl) ?_
          refine lv_iload_n hx hb d_M_take_54 rfl (lv_at hl 0 rfl) ?_
          obtain ⟨u5, hcl, h⟩ := bd_some h
          refine cx_wrv (va_runV (As := [.int r1]) (rest := []) ⟨hx, hb, hml, hown, hts⟩ (c_M_give l dC dI q cA pt σ1 r1 _ hcl) (cw_M_97 hts ⟨Nat.le_of_ble_eq_true rfl, Nat.le_of_ble_eq_true rfl⟩) ⟨pxX_B, va_recv hK hP (ci := 5) (q0 := 22) rfl rfl, pxX_U hP hK hD hN hZ hS⟩ rfl rfl hl.1 rfl (lv_room (Nat.le_of_ble_eq_true rfl)) d_M_take_55 ⟨Nat.zero_le _, Nat.zero_le _⟩) hS (fun _ h => h) (fun H locs hP hS => ?_)
          have hD : va_D (AX q) (wX q cA u5) := dd_re (wX_f _ _ _ _) hD
          refine lv_aload_n hx hb d_M_take_58 rfl (lv_at hl 1 rfl) ?_
          refine lv_dup hx hb d_M_take_59 rfl ?_
          refine gf_M_41 hx hb hts hown hK hP d_M_take_60 ?_
          refine lv_iconst (v := 1) hx hb d_M_take_63 (by decide) ?_
          refine lv_iadd hx hb d_M_take_64 ?_
          refine pf_M_41 hx hb hts hown hK hP hD hS d_M_take_65 (fun H locs hP hS => ?_)
          obtain ⟨σ5, eσ5, h⟩ := st_some h
          rw [← eσ5] at hP
          have hD : va_D (AX q) (wX q cA σ5) := dd_re (wX_f _ _ _ _) hD
          refine lv_goto (tgt := 94) hx hb d_M_take_68 rfl ?_
          obtain rfl := Option.some.inj h
          exact W.vret hx hb hr (fun t ht hW => ⟨rfl, by rw [ht]; exact hP, hS.F ht⟩) hS.2.2 d_M_take_94
  · have h := if_f hc h
    refine lv_aload_n hx hb d_M_take_10 rfl (lv_at hl 0 rfl) ?_
    refine lv_iconst (v := 3) hx hb d_M_take_11 (by decide) ?_
    refine pf_M_37 hx hb hts hown hK hP hD hS d_M_take_12 (fun H locs hP hS => ?_)
    obtain ⟨σ6, eσ6, h⟩ := st_some h
    rw [← eσ6] at hP
    have hD : va_D (AX q) (wX q cA σ6) := dd_re (wX_f _ _ _ _) hD
    obtain rfl := Option.some.inj h
    exact W.vret hx hb hr (fun t ht hW => ⟨rfl, by rw [ht]; exact hP, hS.F ht⟩) hS.2.2 d_M_take_15
def y_M_obey : MethodName := ⟨"StagedParsers$Machine", "obey", "(III)V"⟩
def w_M_obey : List Cond := .code y_M_obey prog_5_method_12_code 4 none :: AW_
def rm_M_obey : Room := { frames := 4, cells := 0, slots := 0, locals := 87 }
theorem d_M_obey_0 : decode prog_5_method_12_code 0 = .ok (.iload_n 1, 1) := by decide +kernel
theorem d_M_obey_1 : decode prog_5_method_12_code 1 = .ok (.tableswitch 237 1 14 #[71, 79, 88, 99, 116, 124, 131, 143, 154, 163, 173, 194, 213, 225], 71) := by decide +kernel
theorem d_M_obey_72 : decode prog_5_method_12_code 72 = .ok (.aload_n 0, 1) := by decide +kernel
theorem d_M_obey_73 : decode prog_5_method_12_code 73 = .ok (.iload_n 2, 1) := by decide +kernel
theorem d_M_obey_74 : decode prog_5_method_12_code 74 = .ok (.invokevirtual 97, 3) := by decide +kernel
theorem d_M_obey_77 : decode prog_5_method_12_code 77 = .ok (.goto 166, 3) := by decide +kernel
theorem d_M_obey_80 : decode prog_5_method_12_code 80 = .ok (.aload_n 0, 1) := by decide +kernel
theorem d_M_obey_81 : decode prog_5_method_12_code 81 = .ok (.iload_n 2, 1) := by decide +kernel
theorem d_M_obey_82 : decode prog_5_method_12_code 82 = .ok (.iload_n 3, 1) := by decide +kernel
theorem d_M_obey_83 : decode prog_5_method_12_code 83 = .ok (.invokevirtual 100, 3) := by decide +kernel
theorem d_M_obey_86 : decode prog_5_method_12_code 86 = .ok (.goto 157, 3) := by decide +kernel
theorem d_M_obey_89 : decode prog_5_method_12_code 89 = .ok (.aload_n 0, 1) := by decide +kernel
theorem d_M_obey_90 : decode prog_5_method_12_code 90 = .ok (.aload_n 0, 1) := by decide +kernel
theorem d_M_obey_91 : decode prog_5_method_12_code 91 = .ok (.getfield 41, 3) := by decide +kernel
theorem d_M_obey_94 : decode prog_5_method_12_code 94 = .ok (.invokevirtual 104, 3) := by decide +kernel
theorem d_M_obey_97 : decode prog_5_method_12_code 97 = .ok (.goto 146, 3) := by decide +kernel
theorem d_M_obey_100 : decode prog_5_method_12_code 100 = .ok (.aload_n 0, 1) := by decide +kernel
theorem d_M_obey_101 : decode prog_5_method_12_code 101 = .ok (.iconst 0, 1) := by decide +kernel
theorem d_M_obey_102 : decode prog_5_method_12_code 102 = .ok (.aload_n 0, 1) := by decide +kernel
theorem d_M_obey_103 : decode prog_5_method_12_code 103 = .ok (.getfield 65, 3) := by decide +kernel
theorem d_M_obey_106 : decode prog_5_method_12_code 106 = .ok (.invokevirtual 107, 3) := by decide +kernel
theorem d_M_obey_109 : decode prog_5_method_12_code 109 = .ok (.aload_n 0, 1) := by decide +kernel
theorem d_M_obey_110 : decode prog_5_method_12_code 110 = .ok (.iload_n 2, 1) := by decide +kernel
theorem d_M_obey_111 : decode prog_5_method_12_code 111 = .ok (.putfield 65, 3) := by decide +kernel
theorem d_M_obey_114 : decode prog_5_method_12_code 114 = .ok (.goto 129, 3) := by decide +kernel
theorem d_M_obey_117 : decode prog_5_method_12_code 117 = .ok (.aload_n 0, 1) := by decide +kernel
theorem d_M_obey_118 : decode prog_5_method_12_code 118 = .ok (.iload_n 2, 1) := by decide +kernel
theorem d_M_obey_119 : decode prog_5_method_12_code 119 = .ok (.invokevirtual 60, 3) := by decide +kernel
theorem d_M_obey_122 : decode prog_5_method_12_code 122 = .ok (.goto 121, 3) := by decide +kernel
theorem d_M_obey_125 : decode prog_5_method_12_code 125 = .ok (.aload_n 0, 1) := by decide +kernel
theorem d_M_obey_126 : decode prog_5_method_12_code 126 = .ok (.invokevirtual 110, 3) := by decide +kernel
theorem d_M_obey_129 : decode prog_5_method_12_code 129 = .ok (.goto 114, 3) := by decide +kernel
theorem d_M_obey_132 : decode prog_5_method_12_code 132 = .ok (.aload_n 0, 1) := by decide +kernel
theorem d_M_obey_133 : decode prog_5_method_12_code 133 = .ok (.aload_n 0, 1) := by decide +kernel
theorem d_M_obey_134 : decode prog_5_method_12_code 134 = .ok (.iload_n 2, 1) := by decide +kernel
theorem d_M_obey_135 : decode prog_5_method_12_code 135 = .ok (.invokevirtual 113, 3) := by decide +kernel
theorem d_M_obey_138 : decode prog_5_method_12_code 138 = .ok (.invokevirtual 97, 3) := by decide +kernel
theorem d_M_obey_141 : decode prog_5_method_12_code 141 = .ok (.goto 102, 3) := by decide +kernel
theorem d_M_obey_144 : decode prog_5_method_12_code 144 = .ok (.aload_n 0, 1) := by decide +kernel
theorem d_M_obey_145 : decode prog_5_method_12_code 145 = .ok (.aload_n 0, 1) := by decide +kernel
theorem d_M_obey_146 : decode prog_5_method_12_code 146 = .ok (.invokevirtual 116, 3) := by decide +kernel
theorem d_M_obey_149 : decode prog_5_method_12_code 149 = .ok (.invokevirtual 97, 3) := by decide +kernel
theorem d_M_obey_152 : decode prog_5_method_12_code 152 = .ok (.goto 91, 3) := by decide +kernel
theorem d_M_obey_155 : decode prog_5_method_12_code 155 = .ok (.aload_n 0, 1) := by decide +kernel
theorem d_M_obey_156 : decode prog_5_method_12_code 156 = .ok (.iload_n 2, 1) := by decide +kernel
theorem d_M_obey_157 : decode prog_5_method_12_code 157 = .ok (.iload_n 3, 1) := by decide +kernel
theorem d_M_obey_158 : decode prog_5_method_12_code 158 = .ok (.invokevirtual 107, 3) := by decide +kernel
theorem d_M_obey_161 : decode prog_5_method_12_code 161 = .ok (.goto 82, 3) := by decide +kernel
theorem d_M_obey_164 : decode prog_5_method_12_code 164 = .ok (.aload_n 0, 1) := by decide +kernel
theorem d_M_obey_165 : decode prog_5_method_12_code 165 = .ok (.getfield 12, 3) := by decide +kernel
theorem d_M_obey_168 : decode prog_5_method_12_code 168 = .ok (.invokevirtual 120, 3) := by decide +kernel
theorem d_M_obey_171 : decode prog_5_method_12_code 171 = .ok (.goto 72, 3) := by decide +kernel
theorem d_M_obey_174 : decode prog_5_method_12_code 174 = .ok (.aload_n 0, 1) := by decide +kernel
theorem d_M_obey_175 : decode prog_5_method_12_code 175 = .ok (.aload_n 0, 1) := by decide +kernel
theorem d_M_obey_176 : decode prog_5_method_12_code 176 = .ok (.getfield 12, 3) := by decide +kernel
theorem d_M_obey_179 : decode prog_5_method_12_code 179 = .ok (.invokevirtual 123, 3) := by decide +kernel
theorem d_M_obey_182 : decode prog_5_method_12_code 182 = .ok (.putfield 41, 3) := by decide +kernel
theorem d_M_obey_185 : decode prog_5_method_12_code 185 = .ok (.aload_n 0, 1) := by decide +kernel
theorem d_M_obey_186 : decode prog_5_method_12_code 186 = .ok (.getfield 12, 3) := by decide +kernel
theorem d_M_obey_189 : decode prog_5_method_12_code 189 = .ok (.invokevirtual 120, 3) := by decide +kernel
theorem d_M_obey_192 : decode prog_5_method_12_code 192 = .ok (.goto 51, 3) := by decide +kernel
theorem d_M_obey_195 : decode prog_5_method_12_code 195 = .ok (.aload_n 0, 1) := by decide +kernel
theorem d_M_obey_196 : decode prog_5_method_12_code 196 = .ok (.getfield 12, 3) := by decide +kernel
theorem d_M_obey_199 : decode prog_5_method_12_code 199 = .ok (.aload_n 0, 1) := by decide +kernel
theorem d_M_obey_200 : decode prog_5_method_12_code 200 = .ok (.getfield 41, 3) := by decide +kernel
theorem d_M_obey_203 : decode prog_5_method_12_code 203 = .ok (.invokevirtual 125, 3) := by decide +kernel
theorem d_M_obey_206 : decode prog_5_method_12_code 206 = .ok (.aload_n 0, 1) := by decide +kernel
theorem d_M_obey_207 : decode prog_5_method_12_code 207 = .ok (.iload_n 2, 1) := by decide +kernel
theorem d_M_obey_208 : decode prog_5_method_12_code 208 = .ok (.putfield 65, 3) := by decide +kernel
theorem d_M_obey_211 : decode prog_5_method_12_code 211 = .ok (.goto 32, 3) := by decide +kernel
theorem d_M_obey_214 : decode prog_5_method_12_code 214 = .ok (.aload_n 0, 1) := by decide +kernel
theorem d_M_obey_215 : decode prog_5_method_12_code 215 = .ok (.iload_n 2, 1) := by decide +kernel
theorem d_M_obey_216 : decode prog_5_method_12_code 216 = .ok (.aload_n 0, 1) := by decide +kernel
theorem d_M_obey_217 : decode prog_5_method_12_code 217 = .ok (.invokevirtual 128, 3) := by decide +kernel
theorem d_M_obey_220 : decode prog_5_method_12_code 220 = .ok (.invokevirtual 131, 3) := by decide +kernel
theorem d_M_obey_223 : decode prog_5_method_12_code 223 = .ok (.goto 20, 3) := by decide +kernel
theorem d_M_obey_226 : decode prog_5_method_12_code 226 = .ok (.aload_n 0, 1) := by decide +kernel
theorem d_M_obey_227 : decode prog_5_method_12_code 227 = .ok (.aload_n 0, 1) := by decide +kernel
theorem d_M_obey_228 : decode prog_5_method_12_code 228 = .ok (.iload_n 2, 1) := by decide +kernel
theorem d_M_obey_229 : decode prog_5_method_12_code 229 = .ok (.invokevirtual 134, 3) := by decide +kernel
theorem d_M_obey_232 : decode prog_5_method_12_code 232 = .ok (.invokevirtual 97, 3) := by decide +kernel
theorem d_M_obey_235 : decode prog_5_method_12_code 235 = .ok (.goto 8, 3) := by decide +kernel
theorem d_M_obey_238 : decode prog_5_method_12_code 238 = .ok (.aload_n 0, 1) := by decide +kernel
theorem d_M_obey_239 : decode prog_5_method_12_code 239 = .ok (.iconst 1, 1) := by decide +kernel
theorem d_M_obey_240 : decode prog_5_method_12_code 240 = .ok (.putfield 37, 3) := by decide +kernel
theorem d_M_obey_243 : decode prog_5_method_12_code 243 = .ok (.return_, 1) := by decide +kernel
section RW
variable {p : Program} {l : Launch} {e : Env} {R : Room} {s : State} {m : MethodId} {args : Array Value} {below : List Frame} {meth : Method} {c : Code} {H : Heap} {locs : List Loc} {cells slots : Nat} {Q : State → Prop}
variable {cc : ByteArray} {pc : Nat} {ls : Array Slot} {rest : List Value} {dC : Nat → ClassId} {dI : Nat → Nat → Nat} {q : Nat → Nat} {cA : Nat → ClassId} {σ : MZ_} {H0 : Heap} {A : Nat → Prop}

theorem cw_M_100 (hts : ∀ w ∈ AW_, w.before args s = true) (hR : rm_M_take.frames + 1 ≤ R.frames ∧ 8 + (4 + 11) + rm_M_take.locals ≤ R.locals) : CallW R s args "StagedParsers$Machine" "StagedParsers$Machine" 100 y_M_take prog_5_method_18_code 4 none w_M_take rm_M_take 0 0 2 :=
  ⟨callB_of 2 hts (aw_in kw_687) rfl rfl rfl (hts _ kw_7) (hts _ kw_684) ⟨by decide, by decide, by decide +kernel⟩ hR, hts _ kw_686, hts _ ks_30⟩
theorem cw_M_60 (hts : ∀ w ∈ AW_, w.before args s = true) (hR : rm_M_callBody.frames + 1 ≤ R.frames ∧ 8 + (2 + 11) + rm_M_callBody.locals ≤ R.locals) : CallW R s args "StagedParsers$Machine" "StagedParsers$Machine" 60 y_M_callBody prog_5_method_20_code 2 none w_M_callBody rm_M_callBody 0 0 1 :=
  ⟨callB_of 1 hts (aw_in kw_646) rfl rfl rfl (hts _ kw_7) (hts _ kw_643) ⟨by decide, by decide, by decide +kernel⟩ hR, hts _ kw_645, hts _ ks_26⟩
theorem cw_M_110 (hts : ∀ w ∈ AW_, w.before args s = true) (hR : rm_M_goBack.frames + 1 ≤ R.frames ∧ 8 + (1 + 11) + rm_M_goBack.locals ≤ R.locals) : CallW R s args "StagedParsers$Machine" "StagedParsers$Machine" 110 y_M_goBack prog_5_method_21_code 1 none w_M_goBack rm_M_goBack 0 0 0 :=
  ⟨callB_of 0 hts (aw_in kw_739) rfl rfl rfl (hts _ kw_7) (hts _ kw_736) ⟨by decide, by decide, by decide +kernel⟩ hR, hts _ kw_738, hts _ ks_35⟩
theorem cw_M_113 (hts : ∀ w ∈ AW_, w.before args s = true) (hR : rm_M_joinLastTwo.frames + 1 ≤ R.frames ∧ 8 + (4 + 11) + rm_M_joinLastTwo.locals ≤ R.locals) : CallW R s args "StagedParsers$Machine" "StagedParsers$Machine" 113 y_M_joinLastTwo prog_5_method_15_code 4 (some .int) w_M_joinLastTwo rm_M_joinLastTwo 0 0 1 :=
  ⟨callB_of 1 hts (aw_in kw_743) rfl rfl rfl (hts _ kw_7) (hts _ kw_740) ⟨by decide, by decide, by decide +kernel⟩ hR, hts _ kw_742, hts _ ks_36⟩
theorem cw_M_116 (hts : ∀ w ∈ AW_, w.before args s = true) (hR : rm_M_linkLastThree.frames + 1 ≤ R.frames ∧ 8 + (4 + 11) + rm_M_linkLastThree.locals ≤ R.locals) : CallW R s args "StagedParsers$Machine" "StagedParsers$Machine" 116 y_M_linkLastThree prog_5_method_16_code 4 (some .int) w_M_linkLastThree rm_M_linkLastThree 0 0 0 :=
  ⟨callB_of 0 hts (aw_in kw_759) rfl rfl rfl (hts _ kw_7) (hts _ kw_756) ⟨by decide, by decide, by decide +kernel⟩ hR, hts _ kw_758, hts _ ks_38⟩
theorem cw_M_125 (hts : ∀ w ∈ AW_, w.before args s = true) (hR : rm_F_movePlace.frames + 1 ≤ R.frames ∧ 8 + (2 + 11) + rm_F_movePlace.locals ≤ R.locals) : CallW R s args "StagedParsers$Machine" "StagedParsers$Frames" 125 y_F_movePlace prog_3_method_7_code 2 none w_F_movePlace rm_F_movePlace 0 0 1 :=
  ⟨callB_of 1 hts (aw_in kw_766) rfl rfl rfl (hts _ kw_8) (hts _ kw_763) ⟨by decide, by decide, by decide +kernel⟩ hR, hts _ kw_764, hts _ kw_765⟩
theorem cw_M_131 (hts : ∀ w ∈ AW_, w.before args s = true) (hR : rm_M_store.frames + 1 ≤ R.frames ∧ 8 + (3 + 11) + rm_M_store.locals ≤ R.locals) : CallW R s args "StagedParsers$Machine" "StagedParsers$Machine" 131 y_M_store prog_5_method_17_code 3 none w_M_store rm_M_store 0 0 2 :=
  ⟨callB_of 2 hts (aw_in kw_770) rfl rfl rfl (hts _ kw_7) (hts _ kw_767) ⟨by decide, by decide, by decide +kernel⟩ hR, hts _ kw_769, hts _ ks_39⟩
theorem cw_M_134 (hts : ∀ w ∈ AW_, w.before args s = true) (hR : rm_M_kept.frames + 1 ≤ R.frames ∧ 8 + (2 + 11) + rm_M_kept.locals ≤ R.locals) : CallW R s args "StagedParsers$Machine" "StagedParsers$Machine" 134 y_M_kept prog_5_method_8_code 2 (some .int) w_M_kept rm_M_kept 0 0 1 :=
  ⟨callB_of 1 hts (aw_in kw_407) rfl rfl rfl (hts _ kw_7) (hts _ kw_771) ⟨by decide, by decide, by decide +kernel⟩ hR, hts _ kw_405, hts _ kw_406⟩
end RW
def f_M_obey (σ : MZ_) (a1 : Int32) (a2 : Int32) (a3 : Int32) : Option (MZ_) :=
  if a1 = 1 then (f_M_give σ a2).bind fun u1 => some u1
  else if a1 = 2 then (f_M_take σ a2 a3).bind fun u2 => some u2
  else if a1 = 3 then (f_M_failAt σ (σ 37 0)).bind fun u3 => some u3
  else if a1 = 4 then (f_M_pushFrame σ 0 (σ 36 0)).bind fun u4 => st_ (va_up u4 36 (fun _ => a2)) fun σ1 => some σ1
  else if a1 = 5 then (f_M_callBody σ a2).bind fun u5 => some u5
  else if a1 = 6 then (f_M_goBack σ).bind fun u6 => some u6
  else if a1 = 7 then (f_M_joinLastTwo σ a2).bind fun u7 => (f_M_give u7.2 u7.1).bind fun u8 => some u8
  else if a1 = 8 then (f_M_linkLastThree σ).bind fun u9 => (f_M_give u9.2 u9.1).bind fun u10 => some u10
  else if a1 = 9 then (f_M_pushFrame σ a2 a3).bind fun u11 => some u11
  else if a1 = 10 then (f_F_pop σ).bind fun u12 => some u12
  else if a1 = 11 then (f_F_place σ).bind fun r13 => st_ (va_up σ 37 (fun _ => r13)) fun σ2 => (f_F_pop σ2).bind fun u14 => some u14
  else if a1 = 12 then (f_F_movePlace σ (σ 37 0)).bind fun u15 => st_ (va_up u15 36 (fun _ => a2)) fun σ3 => some σ3
  else if a1 = 13 then (f_M_answer σ).bind fun r16 => (f_M_store σ a2 r16).bind fun u17 => some u17
  else if a1 = 14 then (f_M_kept σ a2).bind fun r18 => (f_M_give σ r18).bind fun u19 => some u19
  else st_ (va_up σ 35 (fun _ => 1)) fun σ4 => some σ4
set_option maxHeartbeats 4000000 in
set_option maxRecDepth 100000 in
theorem c_M_obey (l : Launch) (dC : Nat → ClassId) (dI : Nat → Nat → Nat) (q : Nat → Nat) (cA : Nat → ClassId) (pt : Nat) (σ : MZ_) (a1 : Int32) (a2 : Int32) (a3 : Int32) (u : MZ_) (h : f_M_obey σ a1 a2 a3 = some u) : Met l y_M_obey w_M_obey rm_M_obey (va_Pc [.ref (q 22), .int a1, .int a2, .int a3] (PX_ dC dI q cA pt σ)) (QW_ none (fun H => va_P (dC, dI) cls_ (wX q cA u) H) (AX q)) 0 0 (AX q) := by
  refine Met.ofW (cc := prog_5_method_12_code) (maxL := 4) (ret := none) (by decide) rfl ?_
  intro p e s m args below meth c s₁ B hml hv
  obtain ⟨rfl, hP, hK, hD, hN, hZ⟩ := hv
  have hx := B.exec
  have hb := B.bytes
  have hr := B.returns
  have hts : ∀ w ∈ AW_, w.before _ s = true := fun w h => atoms_spec (ws := w_M_obey) B.pre w (List.mem_cons_of_mem _ h)
  have hown : s.vm.findClass "StagedParsers$Machine" = some m.cls := findClass_of_methodNamed B.named
  have hlocks := B.notSynchronized
  have hS : va_S (AX q) s.heap s.heap [] := va_S.rf
  have hl := lv_entry ([.ref (q 22), .int a1, .int a2, .int a3]) (n := 4) (Nat.le_of_ble_eq_true rfl)
  rw [lg_entry_eq]
  generalize (lg_sl ([.ref (q 22), .int a1, .int a2, .int a3]) ++ List.replicate (4 - (lg_sl ([.ref (q 22), .int a1, .int a2, .int a3])).length) Slot.unset).toArray = ls at hl ⊢
  have hl : lv_has ls 4 [(0, .ref (q 22)), (1, .int a1), (2, .int a2), (3, .int a3)] := hl
  rw [f_M_obey] at h
  refine lv_iload_n hx hb d_M_obey_0 rfl (lv_at hl 1 rfl) ?_
  by_cases hc0 : a1 = 1
  · have h := if_t hc0 h
    refine sw_in (tgt := 72) hx hb d_M_obey_1 hc0 (by decide) (by decide) rfl rfl ?_
    refine lv_aload_n hx hb d_M_obey_72 rfl (lv_at hl 0 rfl) ?_
    refine lv_iload_n hx hb d_M_obey_73 rfl (lv_at hl 2 rfl) ?_
    obtain ⟨u1, hcl, h⟩ := bd_some h
    refine cx_wrv (va_runV (As := [.int a2]) (rest := []) ⟨hx, hb, hml, hown, hts⟩ (c_M_give l dC dI q cA pt σ a2 _ hcl) (cw_M_97 hts ⟨Nat.le_of_ble_eq_true rfl, Nat.le_of_ble_eq_true rfl⟩) ⟨pxX_B, va_recv hK hP (ci := 5) (q0 := 22) rfl rfl, pxX_U hP hK hD hN hZ hS⟩ rfl rfl hl.1 rfl (lv_room (Nat.le_of_ble_eq_true rfl)) d_M_obey_74 ⟨Nat.zero_le _, Nat.zero_le _⟩) hS (fun _ h => h) (fun H locs hP hS => ?_)
    have hD : va_D (AX q) (wX q cA u1) := dd_re (wX_f _ _ _ _) hD
    refine lv_goto (tgt := 243) hx hb d_M_obey_77 rfl ?_
    obtain rfl := Option.some.inj h
    exact W.vret hx hb hr (fun t ht hW => ⟨rfl, by rw [ht]; exact hP, hS.F ht⟩) hS.2.2 d_M_obey_243
  have h := if_f hc0 h
  by_cases hc1 : a1 = 2
  · have h := if_t hc1 h
    refine sw_in (tgt := 80) hx hb d_M_obey_1 hc1 (by decide) (by decide) rfl rfl ?_
    refine lv_aload_n hx hb d_M_obey_80 rfl (lv_at hl 0 rfl) ?_
    refine lv_iload_n hx hb d_M_obey_81 rfl (lv_at hl 2 rfl) ?_
    refine lv_iload_n hx hb d_M_obey_82 rfl (lv_at hl 3 rfl) ?_
    obtain ⟨u2, hcl, h⟩ := bd_some h
    refine cx_wrv (va_runV (As := [.int a2, .int a3]) (rest := []) ⟨hx, hb, hml, hown, hts⟩ (c_M_take l dC dI q cA pt σ a2 a3 _ hcl) (cw_M_100 hts ⟨Nat.le_of_ble_eq_true rfl, Nat.le_of_ble_eq_true rfl⟩) ⟨pxX_B, va_recv hK hP (ci := 5) (q0 := 22) rfl rfl, pxX_U hP hK hD hN hZ hS⟩ rfl rfl hl.1 rfl (lv_room (Nat.le_of_ble_eq_true rfl)) d_M_obey_83 ⟨Nat.zero_le _, Nat.zero_le _⟩) hS (fun _ h => h) (fun H locs hP hS => ?_)
    have hD : va_D (AX q) (wX q cA u2) := dd_re (wX_f _ _ _ _) hD
    refine lv_goto (tgt := 243) hx hb d_M_obey_86 rfl ?_
    obtain rfl := Option.some.inj h
    exact W.vret hx hb hr (fun t ht hW => ⟨rfl, by rw [ht]; exact hP, hS.F ht⟩) hS.2.2 d_M_obey_243
  have h := if_f hc1 h
  by_cases hc2 : a1 = 3
  · have h := if_t hc2 h
    refine sw_in (tgt := 89) hx hb d_M_obey_1 hc2 (by decide) (by decide) rfl rfl ?_
    refine lv_aload_n hx hb d_M_obey_89 rfl (lv_at hl 0 rfl) ?_
    refine lv_aload_n hx hb d_M_obey_90 rfl (lv_at hl 0 rfl) ?_
    refine gf_M_41 hx hb hts hown hK hP d_M_obey_91 ?_
    obtain ⟨u3, hcl, h⟩ := bd_some h
    refine cx_wrv (va_runV (As := [.int (σ 37 0)]) (rest := []) ⟨hx, hb, hml, hown, hts⟩ (c_M_failAt l dC dI q cA pt σ (σ 37 0) _ hcl) (cw_M_104 hts ⟨Nat.le_of_ble_eq_true rfl, Nat.le_of_ble_eq_true rfl⟩) ⟨pxX_B, va_recv hK hP (ci := 5) (q0 := 22) rfl rfl, pxX_U hP hK hD hN hZ hS⟩ rfl rfl hl.1 rfl (lv_room (Nat.le_of_ble_eq_true rfl)) d_M_obey_94 ⟨Nat.zero_le _, Nat.zero_le _⟩) hS (fun _ h => h) (fun H locs hP hS => ?_)
    have hD : va_D (AX q) (wX q cA u3) := dd_re (wX_f _ _ _ _) hD
    refine lv_goto (tgt := 243) hx hb d_M_obey_97 rfl ?_
    obtain rfl := Option.some.inj h
    exact W.vret hx hb hr (fun t ht hW => ⟨rfl, by rw [ht]; exact hP, hS.F ht⟩) hS.2.2 d_M_obey_243
  have h := if_f hc2 h
  by_cases hc3 : a1 = 4
  · have h := if_t hc3 h
    refine sw_in (tgt := 100) hx hb d_M_obey_1 hc3 (by decide) (by decide) rfl rfl ?_
    refine lv_aload_n hx hb d_M_obey_100 rfl (lv_at hl 0 rfl) ?_
    refine lv_iconst (v := 0) hx hb d_M_obey_101 (by decide) ?_
    refine lv_aload_n hx hb d_M_obey_102 rfl (lv_at hl 0 rfl) ?_
    refine gf_M_65 hx hb hts hown hK hP d_M_obey_103 ?_
    obtain ⟨u4, hcl, h⟩ := bd_some h
    refine cx_wrv (va_runV (As := [.int 0, .int (σ 36 0)]) (rest := []) ⟨hx, hb, hml, hown, hts⟩ (c_M_pushFrame l dC dI q cA pt σ 0 (σ 36 0) _ hcl) (cw_M_107 hts ⟨Nat.le_of_ble_eq_true rfl, Nat.le_of_ble_eq_true rfl⟩) ⟨pxX_B, va_recv hK hP (ci := 5) (q0 := 22) rfl rfl, pxX_U hP hK hD hN hZ hS⟩ rfl rfl hl.1 rfl (lv_room (Nat.le_of_ble_eq_true rfl)) d_M_obey_106 ⟨Nat.zero_le _, Nat.zero_le _⟩) hS (fun _ h => h) (fun H locs hP hS => ?_)
    have hD : va_D (AX q) (wX q cA u4) := dd_re (wX_f _ _ _ _) hD
    refine lv_aload_n hx hb d_M_obey_109 rfl (lv_at hl 0 rfl) ?_
    refine lv_iload_n hx hb d_M_obey_110 rfl (lv_at hl 2 rfl) ?_
    refine pf_M_65 hx hb hts hown hK hP hD hS d_M_obey_111 (fun H locs hP hS => ?_)
    obtain ⟨σ1, eσ1, h⟩ := st_some h
    rw [← eσ1] at hP
    have hD : va_D (AX q) (wX q cA σ1) := dd_re (wX_f _ _ _ _) hD
    refine lv_goto (tgt := 243) hx hb d_M_obey_114 rfl ?_
    obtain rfl := Option.some.inj h
    exact W.vret hx hb hr (fun t ht hW => ⟨rfl, by rw [ht]; exact hP, hS.F ht⟩) hS.2.2 d_M_obey_243
  have h := if_f hc3 h
  by_cases hc4 : a1 = 5
  · have h := if_t hc4 h
    refine sw_in (tgt := 117) hx hb d_M_obey_1 hc4 (by decide) (by decide) rfl rfl ?_
    refine lv_aload_n hx hb d_M_obey_117 rfl (lv_at hl 0 rfl) ?_
    refine lv_iload_n hx hb d_M_obey_118 rfl (lv_at hl 2 rfl) ?_
    obtain ⟨u5, hcl, h⟩ := bd_some h
    refine cx_wrv (va_runV (As := [.int a2]) (rest := []) ⟨hx, hb, hml, hown, hts⟩ (c_M_callBody l dC dI q cA pt σ a2 _ hcl) (cw_M_60 hts ⟨Nat.le_of_ble_eq_true rfl, Nat.le_of_ble_eq_true rfl⟩) ⟨pxX_B, va_recv hK hP (ci := 5) (q0 := 22) rfl rfl, pxX_U hP hK hD hN hZ hS⟩ rfl rfl hl.1 rfl (lv_room (Nat.le_of_ble_eq_true rfl)) d_M_obey_119 ⟨Nat.zero_le _, Nat.zero_le _⟩) hS (fun _ h => h) (fun H locs hP hS => ?_)
    have hD : va_D (AX q) (wX q cA u5) := dd_re (wX_f _ _ _ _) hD
    refine lv_goto (tgt := 243) hx hb d_M_obey_122 rfl ?_
    obtain rfl := Option.some.inj h
    exact W.vret hx hb hr (fun t ht hW => ⟨rfl, by rw [ht]; exact hP, hS.F ht⟩) hS.2.2 d_M_obey_243
  have h := if_f hc4 h
  by_cases hc5 : a1 = 6
  · have h := if_t hc5 h
    refine sw_in (tgt := 125) hx hb d_M_obey_1 hc5 (by decide) (by decide) rfl rfl ?_
    refine lv_aload_n hx hb d_M_obey_125 rfl (lv_at hl 0 rfl) ?_
    obtain ⟨u6, hcl, h⟩ := bd_some h
    refine cx_wrv (va_runV (As := []) (rest := []) ⟨hx, hb, hml, hown, hts⟩ (c_M_goBack l dC dI q cA pt σ _ hcl) (cw_M_110 hts ⟨Nat.le_of_ble_eq_true rfl, Nat.le_of_ble_eq_true rfl⟩) ⟨pxX_B, va_recv hK hP (ci := 5) (q0 := 22) rfl rfl, pxX_U hP hK hD hN hZ hS⟩ rfl rfl hl.1 rfl (lv_room (Nat.le_of_ble_eq_true rfl)) d_M_obey_126 ⟨Nat.zero_le _, Nat.zero_le _⟩) hS (fun _ h => h) (fun H locs hP hS => ?_)
    have hD : va_D (AX q) (wX q cA u6) := dd_re (wX_f _ _ _ _) hD
    refine lv_goto (tgt := 243) hx hb d_M_obey_129 rfl ?_
    obtain rfl := Option.some.inj h
    exact W.vret hx hb hr (fun t ht hW => ⟨rfl, by rw [ht]; exact hP, hS.F ht⟩) hS.2.2 d_M_obey_243
  have h := if_f hc5 h
  by_cases hc6 : a1 = 7
  · have h := if_t hc6 h
    refine sw_in (tgt := 132) hx hb d_M_obey_1 hc6 (by decide) (by decide) rfl rfl ?_
    refine lv_aload_n hx hb d_M_obey_132 rfl (lv_at hl 0 rfl) ?_
    refine lv_aload_n hx hb d_M_obey_133 rfl (lv_at hl 0 rfl) ?_
    refine lv_iload_n hx hb d_M_obey_134 rfl (lv_at hl 2 rfl) ?_
    obtain ⟨u7, hcl, h⟩ := bd_some h
    refine cx_wri (va_runV (As := [.int a2]) (rest := [.ref (q 22)]) ⟨hx, hb, hml, hown, hts⟩ (c_M_joinLastTwo l dC dI q cA pt σ a2 _ hcl) (cw_M_113 hts ⟨Nat.le_of_ble_eq_true rfl, Nat.le_of_ble_eq_true rfl⟩) ⟨pxX_B, va_recv hK hP (ci := 5) (q0 := 22) rfl rfl, pxX_U hP hK hD hN hZ hS⟩ rfl rfl hl.1 rfl (lv_room (Nat.le_of_ble_eq_true rfl)) d_M_obey_135 ⟨Nat.zero_le _, Nat.zero_le _⟩) hS (fun _ h => h) (fun H locs hP hS => ?_)
    have hD : va_D (AX q) (wX q cA u7.2) := dd_re (wX_f _ _ _ _) hD
    obtain ⟨u8, hcl, h⟩ := bd_some h
    refine cx_wrv (va_runV (As := [.int u7.1]) (rest := []) ⟨hx, hb, hml, hown, hts⟩ (c_M_give l dC dI q cA pt u7.2 u7.1 _ hcl) (cw_M_97 hts ⟨Nat.le_of_ble_eq_true rfl, Nat.le_of_ble_eq_true rfl⟩) ⟨pxX_B, va_recv hK hP (ci := 5) (q0 := 22) rfl rfl, pxX_U hP hK hD hN hZ hS⟩ rfl rfl hl.1 rfl (lv_room (Nat.le_of_ble_eq_true rfl)) d_M_obey_138 ⟨Nat.zero_le _, Nat.zero_le _⟩) hS (fun _ h => h) (fun H locs hP hS => ?_)
    have hD : va_D (AX q) (wX q cA u8) := dd_re (wX_f _ _ _ _) hD
    refine lv_goto (tgt := 243) hx hb d_M_obey_141 rfl ?_
    obtain rfl := Option.some.inj h
    exact W.vret hx hb hr (fun t ht hW => ⟨rfl, by rw [ht]; exact hP, hS.F ht⟩) hS.2.2 d_M_obey_243
  have h := if_f hc6 h
  by_cases hc7 : a1 = 8
  · have h := if_t hc7 h
    refine sw_in (tgt := 144) hx hb d_M_obey_1 hc7 (by decide) (by decide) rfl rfl ?_
    refine lv_aload_n hx hb d_M_obey_144 rfl (lv_at hl 0 rfl) ?_
    refine lv_aload_n hx hb d_M_obey_145 rfl (lv_at hl 0 rfl) ?_
    obtain ⟨u9, hcl, h⟩ := bd_some h
    refine cx_wri (va_runV (As := []) (rest := [.ref (q 22)]) ⟨hx, hb, hml, hown, hts⟩ (c_M_linkLastThree l dC dI q cA pt σ _ hcl) (cw_M_116 hts ⟨Nat.le_of_ble_eq_true rfl, Nat.le_of_ble_eq_true rfl⟩) ⟨pxX_B, va_recv hK hP (ci := 5) (q0 := 22) rfl rfl, pxX_U hP hK hD hN hZ hS⟩ rfl rfl hl.1 rfl (lv_room (Nat.le_of_ble_eq_true rfl)) d_M_obey_146 ⟨Nat.zero_le _, Nat.zero_le _⟩) hS (fun _ h => h) (fun H locs hP hS => ?_)
    have hD : va_D (AX q) (wX q cA u9.2) := dd_re (wX_f _ _ _ _) hD
    obtain ⟨u10, hcl, h⟩ := bd_some h
    refine cx_wrv (va_runV (As := [.int u9.1]) (rest := []) ⟨hx, hb, hml, hown, hts⟩ (c_M_give l dC dI q cA pt u9.2 u9.1 _ hcl) (cw_M_97 hts ⟨Nat.le_of_ble_eq_true rfl, Nat.le_of_ble_eq_true rfl⟩) ⟨pxX_B, va_recv hK hP (ci := 5) (q0 := 22) rfl rfl, pxX_U hP hK hD hN hZ hS⟩ rfl rfl hl.1 rfl (lv_room (Nat.le_of_ble_eq_true rfl)) d_M_obey_149 ⟨Nat.zero_le _, Nat.zero_le _⟩) hS (fun _ h => h) (fun H locs hP hS => ?_)
    have hD : va_D (AX q) (wX q cA u10) := dd_re (wX_f _ _ _ _) hD
    refine lv_goto (tgt := 243) hx hb d_M_obey_152 rfl ?_
    obtain rfl := Option.some.inj h
    exact W.vret hx hb hr (fun t ht hW => ⟨rfl, by rw [ht]; exact hP, hS.F ht⟩) hS.2.2 d_M_obey_243
  have h := if_f hc7 h
  by_cases hc8 : a1 = 9
  · have h := if_t hc8 h
    refine sw_in (tgt := 155) hx hb d_M_obey_1 hc8 (by decide) (by decide) rfl rfl ?_
    refine lv_aload_n hx hb d_M_obey_155 rfl (lv_at hl 0 rfl) ?_
    refine lv_iload_n hx hb d_M_obey_156 rfl (lv_at hl 2 rfl) ?_
    refine lv_iload_n hx hb d_M_obey_157 rfl (lv_at hl 3 rfl) ?_
    obtain ⟨u11, hcl, h⟩ := bd_some h
    refine cx_wrv (va_runV (As := [.int a2, .int a3]) (rest := []) ⟨hx, hb, hml, hown, hts⟩ (c_M_pushFrame l dC dI q cA pt σ a2 a3 _ hcl) (cw_M_107 hts ⟨Nat.le_of_ble_eq_true rfl, Nat.le_of_ble_eq_true rfl⟩) ⟨pxX_B, va_recv hK hP (ci := 5) (q0 := 22) rfl rfl, pxX_U hP hK hD hN hZ hS⟩ rfl rfl hl.1 rfl (lv_room (Nat.le_of_ble_eq_true rfl)) d_M_obey_158 ⟨Nat.zero_le _, Nat.zero_le _⟩) hS (fun _ h => h) (fun H locs hP hS => ?_)
    have hD : va_D (AX q) (wX q cA u11) := dd_re (wX_f _ _ _ _) hD
    refine lv_goto (tgt := 243) hx hb d_M_obey_161 rfl ?_
    obtain rfl := Option.some.inj h
    exact W.vret hx hb hr (fun t ht hW => ⟨rfl, by rw [ht]; exact hP, hS.F ht⟩) hS.2.2 d_M_obey_243
  have h := if_f hc8 h
  by_cases hc9 : a1 = 10
  · have h := if_t hc9 h
    refine sw_in (tgt := 164) hx hb d_M_obey_1 hc9 (by decide) (by decide) rfl rfl ?_
    refine lv_aload_n hx hb d_M_obey_164 rfl (lv_at hl 0 rfl) ?_
    refine gf_M_12 hx hb hts hown hK hP d_M_obey_165 ?_
    obtain ⟨u12, hcl, h⟩ := bd_some h
    refine cx_wrv (va_runV (As := []) (rest := []) ⟨hx, hb, hml, hown, hts⟩ (c_F_pop l dC dI q cA pt σ _ hcl) (cw_M_120 hts ⟨Nat.le_of_ble_eq_true rfl, Nat.le_of_ble_eq_true rfl⟩) ⟨pxX_B, va_recv hK hP (ci := 6) (q0 := 25) rfl rfl, pxX_U hP hK hD hN hZ hS⟩ rfl rfl hl.1 rfl (lv_room (Nat.le_of_ble_eq_true rfl)) d_M_obey_168 ⟨Nat.zero_le _, Nat.zero_le _⟩) hS (fun _ h => h) (fun H locs hP hS => ?_)
    have hD : va_D (AX q) (wX q cA u12) := dd_re (wX_f _ _ _ _) hD
    refine lv_goto (tgt := 243) hx hb d_M_obey_171 rfl ?_
    obtain rfl := Option.some.inj h
    exact W.vret hx hb hr (fun t ht hW => ⟨rfl, by rw [ht]; exact hP, hS.F ht⟩) hS.2.2 d_M_obey_243
  have h := if_f hc9 h
  by_cases hc10 : a1 = 11
  · have h := if_t hc10 h
    refine sw_in (tgt := 174) hx hb d_M_obey_1 hc10 (by decide) (by decide) rfl rfl ?_
    refine lv_aload_n hx hb d_M_obey_174 rfl (lv_at hl 0 rfl) ?_
    refine lv_aload_n hx hb d_M_obey_175 rfl (lv_at hl 0 rfl) ?_
    refine gf_M_12 hx hb hts hown hK hP d_M_obey_176 ?_
    obtain ⟨r13, hcl, h⟩ := bd_some h
    refine cx_read (va_runV (As := []) (rest := [.ref (q 22)]) ⟨hx, hb, hml, hown, hts⟩ (c_F_place l dC dI q cA pt σ _ hcl) (cw_M_123 hts ⟨Nat.le_of_ble_eq_true rfl, Nat.le_of_ble_eq_true rfl⟩) ⟨pxX_B, va_recv hK hP (ci := 6) (q0 := 25) rfl rfl, pxX_U hP hK hD hN hZ hS⟩ rfl rfl hl.1 rfl (lv_room (Nat.le_of_ble_eq_true rfl)) d_M_obey_179 ⟨Nat.zero_le _, Nat.zero_le _⟩) ?_
    refine pf_M_41 hx hb hts hown hK hP hD hS d_M_obey_182 (fun H locs hP hS => ?_)
    obtain ⟨σ2, eσ2, h⟩ := st_some h
    rw [← eσ2] at hP
    have hD : va_D (AX q) (wX q cA σ2) := dd_re (wX_f _ _ _ _) hD
    refine lv_aload_n hx hb d_M_obey_185 rfl (lv_at hl 0 rfl) ?_
    refine gf_M_12 hx hb hts hown hK hP d_M_obey_186 ?_
    obtain ⟨u14, hcl, h⟩ := bd_some h
    refine cx_wrv (va_runV (As := []) (rest := []) ⟨hx, hb, hml, hown, hts⟩ (c_F_pop l dC dI q cA pt σ2 _ hcl) (cw_M_120 hts ⟨Nat.le_of_ble_eq_true rfl, Nat.le_of_ble_eq_true rfl⟩) ⟨pxX_B, va_recv hK hP (ci := 6) (q0 := 25) rfl rfl, pxX_U hP hK hD hN hZ hS⟩ rfl rfl hl.1 rfl (lv_room (Nat.le_of_ble_eq_true rfl)) d_M_obey_189 ⟨Nat.zero_le _, Nat.zero_le _⟩) hS (fun _ h => h) (fun H locs hP hS => ?_)
    have hD : va_D (AX q) (wX q cA u14) := dd_re (wX_f _ _ _ _) hD
    refine lv_goto (tgt := 243) hx hb d_M_obey_192 rfl ?_
    obtain rfl := Option.some.inj h
    exact W.vret hx hb hr (fun t ht hW => ⟨rfl, by rw [ht]; exact hP, hS.F ht⟩) hS.2.2 d_M_obey_243
  have h := if_f hc10 h
  by_cases hc11 : a1 = 12
  · have h := if_t hc11 h
    refine sw_in (tgt := 195) hx hb d_M_obey_1 hc11 (by decide) (by decide) rfl rfl ?_
    refine lv_aload_n hx hb d_M_obey_195 rfl (lv_at hl 0 rfl) ?_
    refine gf_M_12 hx hb hts hown hK hP d_M_obey_196 ?_
    refine lv_aload_n hx hb d_M_obey_199 rfl (lv_at hl 0 rfl) ?_
    refine gf_M_41 hx hb hts hown hK hP d_M_obey_200 ?_
    obtain ⟨u15, hcl, h⟩ := bd_some h
    refine cx_wrv (va_runV (As := [.int (σ 37 0)]) (rest := []) ⟨hx, hb, hml, hown, hts⟩ (c_F_movePlace l dC dI q cA pt σ (σ 37 0) _ hcl) (cw_M_125 hts ⟨Nat.le_of_ble_eq_true rfl, Nat.le_of_ble_eq_true rfl⟩) ⟨pxX_B, va_recv hK hP (ci := 6) (q0 := 25) rfl rfl, pxX_U hP hK hD hN hZ hS⟩ rfl rfl hl.1 rfl (lv_room (Nat.le_of_ble_eq_true rfl)) d_M_obey_203 ⟨Nat.zero_le _, Nat.zero_le _⟩) hS (fun _ h => h) (fun H locs hP hS => ?_)
    have hD : va_D (AX q) (wX q cA u15) := dd_re (wX_f _ _ _ _) hD
    refine lv_aload_n hx hb d_M_obey_206 rfl (lv_at hl 0 rfl) ?_
    refine lv_iload_n hx hb d_M_obey_207 rfl (lv_at hl 2 rfl) ?_
    refine pf_M_65 hx hb hts hown hK hP hD hS d_M_obey_208 (fun H locs hP hS => ?_)
    obtain ⟨σ3, eσ3, h⟩ := st_some h
    rw [← eσ3] at hP
    have hD : va_D (AX q) (wX q cA σ3) := dd_re (wX_f _ _ _ _) hD
    refine lv_goto (tgt := 243) hx hb d_M_obey_211 rfl ?_
    obtain rfl := Option.some.inj h
    exact W.vret hx hb hr (fun t ht hW => ⟨rfl, by rw [ht]; exact hP, hS.F ht⟩) hS.2.2 d_M_obey_243
  have h := if_f hc11 h
  by_cases hc12 : a1 = 13
  · have h := if_t hc12 h
    refine sw_in (tgt := 214) hx hb d_M_obey_1 hc12 (by decide) (by decide) rfl rfl ?_
    refine lv_aload_n hx hb d_M_obey_214 rfl (lv_at hl 0 rfl) ?_
    refine lv_iload_n hx hb d_M_obey_215 rfl (lv_at hl 2 rfl) ?_
    refine lv_aload_n hx hb d_M_obey_216 rfl (lv_at hl 0 rfl) ?_
    obtain ⟨r16, hcl, h⟩ := bd_some h
    refine cx_read (va_runV (As := []) (rest := [.int a2, .ref (q 22)]) ⟨hx, hb, hml, hown, hts⟩ (c_M_answer l dC dI q cA pt σ _ hcl) (cw_M_128 hts ⟨Nat.le_of_ble_eq_true rfl, Nat.le_of_ble_eq_true rfl⟩) ⟨pxX_B, va_recv hK hP (ci := 5) (q0 := 22) rfl rfl, pxX_U hP hK hD hN hZ hS⟩ rfl rfl hl.1 rfl (lv_room (Nat.le_of_ble_eq_true rfl)) d_M_obey_217 ⟨Nat.zero_le _, Nat.zero_le _⟩) ?_
    obtain ⟨u17, hcl, h⟩ := bd_some h
    refine cx_wrv (va_runV (As := [.int a2, .int r16]) (rest := []) ⟨hx, hb, hml, hown, hts⟩ (c_M_store l dC dI q cA pt σ a2 r16 _ hcl) (cw_M_131 hts ⟨Nat.le_of_ble_eq_true rfl, Nat.le_of_ble_eq_true rfl⟩) ⟨pxX_B, va_recv hK hP (ci := 5) (q0 := 22) rfl rfl, pxX_U hP hK hD hN hZ hS⟩ rfl rfl hl.1 rfl (lv_room (Nat.le_of_ble_eq_true rfl)) d_M_obey_220 ⟨Nat.zero_le _, Nat.zero_le _⟩) hS (fun _ h => h) (fun H locs hP hS => ?_)
    have hD : va_D (AX q) (wX q cA u17) := dd_re (wX_f _ _ _ _) hD
    refine lv_goto (tgt := 243) hx hb d_M_obey_223 rfl ?_
    obtain rfl := Option.some.inj h
    exact W.vret hx hb hr (fun t ht hW => ⟨rfl, by rw [ht]; exact hP, hS.F ht⟩) hS.2.2 d_M_obey_243
  have h := if_f hc12 h
  by_cases hc13 : a1 = 14
  · have h := if_t hc13 h
    refine sw_in (tgt := 226) hx hb d_M_obey_1 hc13 (by decide) (by decide) rfl rfl ?_
    refine lv_aload_n hx hb d_M_obey_226 rfl (lv_at hl 0 rfl) ?_
    refine lv_aload_n hx hb d_M_obey_227 rfl (lv_at hl 0 rfl) ?_
    refine lv_iload_n hx hb d_M_obey_228 rfl (lv_at hl 2 rfl) ?_
    obtain ⟨r18, hcl, h⟩ := bd_some h
    refine cx_read (va_runV (As := [.int a2]) (rest := [.ref (q 22)]) ⟨hx, hb, hml, hown, hts⟩ (c_M_kept l dC dI q cA pt σ a2 _ hcl) (cw_M_134 hts ⟨Nat.le_of_ble_eq_true rfl, Nat.le_of_ble_eq_true rfl⟩) ⟨pxX_B, va_recv hK hP (ci := 5) (q0 := 22) rfl rfl, pxX_U hP hK hD hN hZ hS⟩ rfl rfl hl.1 rfl (lv_room (Nat.le_of_ble_eq_true rfl)) d_M_obey_229 ⟨Nat.zero_le _, Nat.zero_le _⟩) ?_
    obtain ⟨u19, hcl, h⟩ := bd_some h
    refine cx_wrv (va_runV (As := [.int r18]) (rest := []) ⟨hx, hb, hml, hown, hts⟩ (c_M_give l dC dI q cA pt σ r18 _ hcl) (cw_M_97 hts ⟨Nat.le_of_ble_eq_true rfl, Nat.le_of_ble_eq_true rfl⟩) ⟨pxX_B, va_recv hK hP (ci := 5) (q0 := 22) rfl rfl, pxX_U hP hK hD hN hZ hS⟩ rfl rfl hl.1 rfl (lv_room (Nat.le_of_ble_eq_true rfl)) d_M_obey_232 ⟨Nat.zero_le _, Nat.zero_le _⟩) hS (fun _ h => h) (fun H locs hP hS => ?_)
    have hD : va_D (AX q) (wX q cA u19) := dd_re (wX_f _ _ _ _) hD
    refine lv_goto (tgt := 243) hx hb d_M_obey_235 rfl ?_
    obtain rfl := Option.some.inj h
    exact W.vret hx hb hr (fun t ht hW => ⟨rfl, by rw [ht]; exact hP, hS.F ht⟩) hS.2.2 d_M_obey_243
  have h := if_f hc13 h
  refine lv_tableOut (tgt := 238) hx hb d_M_obey_1 (by have q0 := lv_neT hc0 (a := 1) (by decide); have q1 := lv_neT hc1 (a := 2) (by decide); have q2 := lv_neT hc2 (a := 3) (by decide); have q3 := lv_neT hc3 (a := 4) (by decide); have q4 := lv_neT hc4 (a := 5) (by decide); have q5 := lv_neT hc5 (a := 6) (by decide); have q6 := lv_neT hc6 (a := 7) (by decide); have q7 := lv_neT hc7 (a := 8) (by decide); have q8 := lv_neT hc8 (a := 9) (by decide); have q9 := lv_neT hc9 (a := 10) (by decide); have q10 := lv_neT hc10 (a := 11) (by decide); have q11 := lv_neT hc11 (a := 12) (by decide); have q12 := lv_neT hc12 (a := 13) (by decide); have q13 := lv_neT hc13 (a := 14) (by decide); omega) rfl ?_
  refine lv_aload_n hx hb d_M_obey_238 rfl (lv_at hl 0 rfl) ?_
  refine lv_iconst (v := 1) hx hb d_M_obey_239 (by decide) ?_
  refine pf_M_37 hx hb hts hown hK hP hD hS d_M_obey_240 (fun H locs hP hS => ?_)
  obtain ⟨σ4, eσ4, h⟩ := st_some h
  rw [← eσ4] at hP
  have hD : va_D (AX q) (wX q cA σ4) := dd_re (wX_f _ _ _ _) hD
  obtain rfl := Option.some.inj h
  exact W.vret hx hb hr (fun t ht hW => ⟨rfl, by rw [ht]; exact hP, hS.F ht⟩) hS.2.2 d_M_obey_243
def y_M_reset : MethodName := ⟨"StagedParsers$Machine", "reset", "()V"⟩
def w_M_reset : List Cond := .code y_M_reset prog_5_method_11_code 1 none :: AW_
def rm_M_reset : Room := { frames := 1, cells := 0, slots := 0, locals := 23 }
theorem d_M_reset_0 : decode prog_5_method_11_code 0 = .ok (.aload_n 0, 1) := by decide +kernel
theorem d_M_reset_1 : decode prog_5_method_11_code 1 = .ok (.iconst 1, 1) := by decide +kernel
theorem d_M_reset_2 : decode prog_5_method_11_code 2 = .ok (.putfield 33, 3) := by decide +kernel
theorem d_M_reset_5 : decode prog_5_method_11_code 5 = .ok (.aload_n 0, 1) := by decide +kernel
theorem d_M_reset_6 : decode prog_5_method_11_code 6 = .ok (.iconst 0, 1) := by decide +kernel
theorem d_M_reset_7 : decode prog_5_method_11_code 7 = .ok (.putfield 37, 3) := by decide +kernel
theorem d_M_reset_10 : decode prog_5_method_11_code 10 = .ok (.aload_n 0, 1) := by decide +kernel
theorem d_M_reset_11 : decode prog_5_method_11_code 11 = .ok (.getfield 12, 3) := by decide +kernel
theorem d_M_reset_14 : decode prog_5_method_11_code 14 = .ok (.invokevirtual 84, 3) := by decide +kernel
theorem d_M_reset_17 : decode prog_5_method_11_code 17 = .ok (.aload_n 0, 1) := by decide +kernel
theorem d_M_reset_18 : decode prog_5_method_11_code 18 = .ok (.iconst 0, 1) := by decide +kernel
theorem d_M_reset_19 : decode prog_5_method_11_code 19 = .ok (.putfield 54, 3) := by decide +kernel
theorem d_M_reset_22 : decode prog_5_method_11_code 22 = .ok (.aload_n 0, 1) := by decide +kernel
theorem d_M_reset_23 : decode prog_5_method_11_code 23 = .ok (.getfield 22, 3) := by decide +kernel
theorem d_M_reset_26 : decode prog_5_method_11_code 26 = .ok (.iconst 0, 1) := by decide +kernel
theorem d_M_reset_27 : decode prog_5_method_11_code 27 = .ok (.invokestatic 85, 3) := by decide +kernel
theorem d_M_reset_30 : decode prog_5_method_11_code 30 = .ok (.aload_n 0, 1) := by decide +kernel
theorem d_M_reset_31 : decode prog_5_method_11_code 31 = .ok (.iconst 0, 1) := by decide +kernel
theorem d_M_reset_32 : decode prog_5_method_11_code 32 = .ok (.putfield 65, 3) := by decide +kernel
theorem d_M_reset_35 : decode prog_5_method_11_code 35 = .ok (.aload_n 0, 1) := by decide +kernel
theorem d_M_reset_36 : decode prog_5_method_11_code 36 = .ok (.iconst 0, 1) := by decide +kernel
theorem d_M_reset_37 : decode prog_5_method_11_code 37 = .ok (.putfield 41, 3) := by decide +kernel
theorem d_M_reset_40 : decode prog_5_method_11_code 40 = .ok (.aload_n 0, 1) := by decide +kernel
theorem d_M_reset_41 : decode prog_5_method_11_code 41 = .ok (.iconst 0, 1) := by decide +kernel
theorem d_M_reset_42 : decode prog_5_method_11_code 42 = .ok (.putfield 44, 3) := by decide +kernel
theorem d_M_reset_45 : decode prog_5_method_11_code 45 = .ok (.aload_n 0, 1) := by decide +kernel
theorem d_M_reset_46 : decode prog_5_method_11_code 46 = .ok (.iconst (-1), 1) := by decide +kernel
theorem d_M_reset_47 : decode prog_5_method_11_code 47 = .ok (.putfield 47, 3) := by decide +kernel
theorem d_M_reset_50 : decode prog_5_method_11_code 50 = .ok (.aload_n 0, 1) := by decide +kernel
theorem d_M_reset_51 : decode prog_5_method_11_code 51 = .ok (.iconst 0, 1) := by decide +kernel
theorem d_M_reset_52 : decode prog_5_method_11_code 52 = .ok (.putfield 91, 3) := by decide +kernel
theorem d_M_reset_55 : decode prog_5_method_11_code 55 = .ok (.aload_n 0, 1) := by decide +kernel
theorem d_M_reset_56 : decode prog_5_method_11_code 56 = .ok (.iconst 0, 1) := by decide +kernel
theorem d_M_reset_57 : decode prog_5_method_11_code 57 = .ok (.putfield 94, 3) := by decide +kernel
theorem d_M_reset_60 : decode prog_5_method_11_code 60 = .ok (.return_, 1) := by decide +kernel
section RW
variable {p : Program} {l : Launch} {e : Env} {R : Room} {s : State} {m : MethodId} {args : Array Value} {below : List Frame} {meth : Method} {c : Code} {H : Heap} {locs : List Loc} {cells slots : Nat} {Q : State → Prop}
variable {cc : ByteArray} {pc : Nat} {ls : Array Slot} {rest : List Value} {dC : Nat → ClassId} {dI : Nat → Nat → Nat} {q : Nat → Nat} {cA : Nat → ClassId} {σ : MZ_} {H0 : Heap} {A : Nat → Prop}

theorem pf_M_33 (hx : p.tables.exec = Jvm.exec) (hb : c.code = cc) (hts : ∀ w ∈ AW_, w.before args s = true) (hown : s.vm.findClass "StagedParsers$Machine" = some m.cls) (hK : va_K (dC, dI) cls_ (tyX cA) s) (hP : va_P (dC, dI) cls_ (wX q cA σ) H) (hD : va_D A (wX q cA σ)) (hS : va_S A H0 H locs) {v : Int32} (hbo : v = 0 ∨ v = 1) (hdg : decode cc pc = .ok (.putfield 33, 3)) (kk : ∀ (H1 : Heap) (locs1 : List Loc), va_P (dC, dI) cls_ (wX q cA (va_up σ 42 (fun _ => v))) H1 → va_S A H0 H1 locs1 → W p l e R s m args below meth c H1 locs1 cells slots Q (F0 m (pc + 3) ls rest)) : W p l e R s m args below meth c H locs cells slots Q (F0 m pc ls (.int v :: .ref (q 22) :: rest)) :=
  va_put (D := (dC, dI)) (cl := cls_) (ci := 5) (v := .int v) (ty := .boolean) (ws := wX q cA σ) (tys := tyX cA) (C := Rz_M) (T := Tz_M) (N := 14) hx hb hts uz_M tz_M tz_M_ok nz_M hown hK hP hD hS 22 rfl rfl 13 (by decide) (hts _ kw_164) (fun _ h9 => h9) rfl (by decide +kernel) (bo_nar hbo) (bo_fit hbo) (Nat.le_of_ble_eq_true rfl) hdg (fun H1 locs1 hP _ hS => kk H1 locs1 hP hS)
theorem cw_M_84 (hts : ∀ w ∈ AW_, w.before args s = true) (hR : rm_F_reset.frames + 1 ≤ R.frames ∧ 8 + (1 + 11) + rm_F_reset.locals ≤ R.locals) : CallW R s args "StagedParsers$Machine" "StagedParsers$Frames" 84 y_F_reset prog_3_method_2_code 1 none w_F_reset rm_F_reset 0 0 0 :=
  ⟨callB_of 0 hts (aw_in kw_641) rfl rfl rfl (hts _ kw_8) (hts _ kw_638) ⟨by decide, by decide, by decide +kernel⟩ hR, hts _ kw_639, hts _ kw_640⟩
theorem cw_M_85 (hts : ∀ w ∈ AW_, w.before args s = true) (hR : rm_A_fill.frames + 1 ≤ R.frames ∧ 8 + (4 + 11) + rm_A_fill.locals ≤ R.locals) : CallB R s args "StagedParsers$Machine" 85 y_A_fill prog_18_method_103_code 4 none w_A_fill rm_A_fill 0 0 2 ∧ (Cond.static y_A_fill).before args s = true :=
  ⟨callB_of 2 hts (aw_in kw_34) rfl rfl rfl (hts _ kw_3) (hts _ kw_642) ⟨by decide, by decide, by decide +kernel⟩ hR, hts _ kw_33⟩
end RW
def f_M_reset (σ : MZ_) : Option (MZ_) :=
  st_ (va_up σ 42 (fun _ => 1)) fun σ1 => st_ (va_up σ1 35 (fun _ => 0)) fun σ2 => (f_F_reset σ2).bind fun u1 => st_ (va_up u1 34 (fun _ => 0)) fun σ3 => (f_A_fill_24 σ3 0).bind fun u2 => st_ (va_up u2 36 (fun _ => 0)) fun σ4 => st_ (va_up σ4 37 (fun _ => 0)) fun σ5 => st_ (va_up σ5 38 (fun _ => 0)) fun σ6 => st_ (va_up σ6 39 (fun _ => (-1))) fun σ7 => st_ (va_up σ7 40 (fun _ => 0)) fun σ8 => st_ (va_up σ8 41 (fun _ => 0)) fun σ9 => some σ9
set_option maxHeartbeats 4000000 in
set_option maxRecDepth 100000 in
theorem c_M_reset (l : Launch) (dC : Nat → ClassId) (dI : Nat → Nat → Nat) (q : Nat → Nat) (cA : Nat → ClassId) (pt : Nat) (σ : MZ_) (u : MZ_) (h : f_M_reset σ = some u) : Met l y_M_reset w_M_reset rm_M_reset (va_Pc [.ref (q 22)] (PX_ dC dI q cA pt σ)) (QW_ none (fun H => va_P (dC, dI) cls_ (wX q cA u) H) (AX q)) 0 0 (AX q) := by
  refine Met.ofW (cc := prog_5_method_11_code) (maxL := 1) (ret := none) (by decide) rfl ?_
  intro p e s m args below meth c s₁ B hml hv
  obtain ⟨rfl, hP, hK, hD, hN, hZ⟩ := hv
  have hx := B.exec
  have hb := B.bytes
  have hr := B.returns
  have hts : ∀ w ∈ AW_, w.before _ s = true := fun w h => atoms_spec (ws := w_M_reset) B.pre w (List.mem_cons_of_mem _ h)
  have hown : s.vm.findClass "StagedParsers$Machine" = some m.cls := findClass_of_methodNamed B.named
  have hlocks := B.notSynchronized
  have hS : va_S (AX q) s.heap s.heap [] := va_S.rf
  have hl := lv_entry ([.ref (q 22)]) (n := 1) (Nat.le_of_ble_eq_true rfl)
  rw [lg_entry_eq]
  generalize (lg_sl ([.ref (q 22)]) ++ List.replicate (1 - (lg_sl ([.ref (q 22)])).length) Slot.unset).toArray = ls at hl ⊢
  have hl : lv_has ls 1 [(0, .ref (q 22))] := hl
  rw [f_M_reset] at h
  refine lv_aload_n hx hb d_M_reset_0 rfl (lv_at hl 0 rfl) ?_
  refine lv_iconst (v := 1) hx hb d_M_reset_1 (by decide) ?_
  refine pf_M_33 hx hb hts hown hK hP hD hS (Or.inr rfl) d_M_reset_2 (fun H locs hP hS => ?_)
  obtain ⟨σ1, eσ1, h⟩ := st_some h
  rw [← eσ1] at hP
  have hD : va_D (AX q) (wX q cA σ1) := dd_re (wX_f _ _ _ _) hD
  refine lv_aload_n hx hb d_M_reset_5 rfl (lv_at hl 0 rfl) ?_
  refine lv_iconst (v := 0) hx hb d_M_reset_6 (by decide) ?_
  refine pf_M_37 hx hb hts hown hK hP hD hS d_M_reset_7 (fun H locs hP hS => ?_)
  obtain ⟨σ2, eσ2, h⟩ := st_some h
  rw [← eσ2] at hP
  have hD : va_D (AX q) (wX q cA σ2) := dd_re (wX_f _ _ _ _) hD
  refine lv_aload_n hx hb d_M_reset_10 rfl (lv_at hl 0 rfl) ?_
  refine gf_M_12 hx hb hts hown hK hP d_M_reset_11 ?_
  obtain ⟨u1, hcl, h⟩ := bd_some h
  refine cx_wrv (va_runV (As := []) (rest := []) ⟨hx, hb, hml, hown, hts⟩ (c_F_reset l dC dI q cA pt σ2 _ hcl) (cw_M_84 hts ⟨Nat.le_of_ble_eq_true rfl, Nat.le_of_ble_eq_true rfl⟩) ⟨pxX_B, va_recv hK hP (ci := 6) (q0 := 25) rfl rfl, pxX_U hP hK hD hN hZ hS⟩ rfl rfl hl.1 rfl (lv_room (Nat.le_of_ble_eq_true rfl)) d_M_reset_14 ⟨Nat.zero_le _, Nat.zero_le _⟩) hS (fun _ h => h) (fun H locs hP hS => ?_)
  have hD : va_D (AX q) (wX q cA u1) := dd_re (wX_f _ _ _ _) hD
  refine lv_aload_n hx hb d_M_reset_17 rfl (lv_at hl 0 rfl) ?_
  refine lv_iconst (v := 0) hx hb d_M_reset_18 (by decide) ?_
  refine pf_M_54 hx hb hts hown hK hP hD hS d_M_reset_19 (fun H locs hP hS => ?_)
  obtain ⟨σ3, eσ3, h⟩ := st_some h
  rw [← eσ3] at hP
  have hD : va_D (AX q) (wX q cA σ3) := dd_re (wX_f _ _ _ _) hD
  refine lv_aload_n hx hb d_M_reset_22 rfl (lv_at hl 0 rfl) ?_
  refine gf_M_22 hx hb hts hown hK hP d_M_reset_23 ?_
  refine lv_iconst (v := 0) hx hb d_M_reset_26 (by decide) ?_
  obtain ⟨u2, hcl, h⟩ := bd_some h
  refine cx_wrv (va_runS (As := [.ref (q 24), .int 0]) (rest := []) ⟨hx, hb, hml, hown, hts⟩ (c_A_fill_24 l dC dI q cA pt σ3 0 _ hcl) (cw_M_85 hts ⟨Nat.le_of_ble_eq_true rfl, Nat.le_of_ble_eq_true rfl⟩) ⟨pxX_B, pxX_U hP hK hD hN hZ hS⟩ rfl rfl hl.1 rfl (lv_room (Nat.le_of_ble_eq_true rfl)) d_M_reset_27 ⟨Nat.zero_le _, Nat.zero_le _⟩) hS (fun _ h => h) (fun H locs hP hS => ?_)
  have hD : va_D (AX q) (wX q cA u2) := dd_re (wX_f _ _ _ _) hD
  refine lv_aload_n hx hb d_M_reset_30 rfl (lv_at hl 0 rfl) ?_
  refine lv_iconst (v := 0) hx hb d_M_reset_31 (by decide) ?_
  refine pf_M_65 hx hb hts hown hK hP hD hS d_M_reset_32 (fun H locs hP hS => ?_)
  obtain ⟨σ4, eσ4, h⟩ := st_some h
  rw [← eσ4] at hP
  have hD : va_D (AX q) (wX q cA σ4) := dd_re (wX_f _ _ _ _) hD
  refine lv_aload_n hx hb d_M_reset_35 rfl (lv_at hl 0 rfl) ?_
  refine lv_iconst (v := 0) hx hb d_M_reset_36 (by decide) ?_
  refine pf_M_41 hx hb hts hown hK hP hD hS d_M_reset_37 (fun H locs hP hS => ?_)
  obtain ⟨σ5, eσ5, h⟩ := st_some h
  rw [← eσ5] at hP
  have hD : va_D (AX q) (wX q cA σ5) := dd_re (wX_f _ _ _ _) hD
  refine lv_aload_n hx hb d_M_reset_40 rfl (lv_at hl 0 rfl) ?_
  refine lv_iconst (v := 0) hx hb d_M_reset_41 (by decide) ?_
  refine pf_M_44 hx hb hts hown hK hP hD hS d_M_reset_42 (fun H locs hP hS => ?_)
  obtain ⟨σ6, eσ6, h⟩ := st_some h
  rw [← eσ6] at hP
  have hD : va_D (AX q) (wX q cA σ6) := dd_re (wX_f _ _ _ _) hD
  refine lv_aload_n hx hb d_M_reset_45 rfl (lv_at hl 0 rfl) ?_
  refine lv_iconst (v := (-1)) hx hb d_M_reset_46 (by decide) ?_
  refine pf_M_47 hx hb hts hown hK hP hD hS d_M_reset_47 (fun H locs hP hS => ?_)
  obtain ⟨σ7, eσ7, h⟩ := st_some h
  rw [← eσ7] at hP
  have hD : va_D (AX q) (wX q cA σ7) := dd_re (wX_f _ _ _ _) hD
  refine lv_aload_n hx hb d_M_reset_50 rfl (lv_at hl 0 rfl) ?_
  refine lv_iconst (v := 0) hx hb d_M_reset_51 (by decide) ?_
  refine pf_M_91 hx hb hts hown hK hP hD hS d_M_reset_52 (fun H locs hP hS => ?_)
  obtain ⟨σ8, eσ8, h⟩ := st_some h
  rw [← eσ8] at hP
  have hD : va_D (AX q) (wX q cA σ8) := dd_re (wX_f _ _ _ _) hD
  refine lv_aload_n hx hb d_M_reset_55 rfl (lv_at hl 0 rfl) ?_
  refine lv_iconst (v := 0) hx hb d_M_reset_56 (by decide) ?_
  refine pf_M_94 hx hb hts hown hK hP hD hS d_M_reset_57 (fun H locs hP hS => ?_)
  obtain ⟨σ9, eσ9, h⟩ := st_some h
  rw [← eσ9] at hP
  have hD : va_D (AX q) (wX q cA σ9) := dd_re (wX_f _ _ _ _) hD
  obtain rfl := Option.some.inj h
  exact W.vret hx hb hr (fun t ht hW => ⟨rfl, by rw [ht]; exact hP, hS.F ht⟩) hS.2.2 d_M_reset_60
def y_M_run : MethodName := ⟨"StagedParsers$Machine", "run", "(I)V"⟩
def w_M_run : List Cond := .code y_M_run prog_5_method_10_code 4 none :: AW_
def rm_M_run : Room := { frames := 5, cells := 0, slots := 0, locals := 110 }
theorem d_M_run_0 : decode prog_5_method_10_code 0 = .ok (.aload_n 0, 1) := by decide +kernel
theorem d_M_run_1 : decode prog_5_method_10_code 1 = .ok (.invokevirtual 57, 3) := by decide +kernel
theorem d_M_run_4 : decode prog_5_method_10_code 4 = .ok (.aload_n 0, 1) := by decide +kernel
theorem d_M_run_5 : decode prog_5_method_10_code 5 = .ok (.iload_n 1, 1) := by decide +kernel
theorem d_M_run_6 : decode prog_5_method_10_code 6 = .ok (.invokevirtual 60, 3) := by decide +kernel
theorem d_M_run_9 : decode prog_5_method_10_code 9 = .ok (.iconst 0, 1) := by decide +kernel
theorem d_M_run_10 : decode prog_5_method_10_code 10 = .ok (.istore_n 2, 1) := by decide +kernel
theorem d_M_run_11 : decode prog_5_method_10_code 11 = .ok (.iload_n 2, 1) := by decide +kernel
theorem d_M_run_12 : decode prog_5_method_10_code 12 = .ok (.ldc 64, 2) := by decide +kernel
theorem d_M_run_14 : decode prog_5_method_10_code 14 = .ok (.if_icmp .ge 56, 3) := by decide +kernel
theorem d_M_run_17 : decode prog_5_method_10_code 17 = .ok (.aload_n 0, 1) := by decide +kernel
theorem d_M_run_18 : decode prog_5_method_10_code 18 = .ok (.getfield 37, 3) := by decide +kernel
theorem d_M_run_21 : decode prog_5_method_10_code 21 = .ok (.ifCond .ne 49, 3) := by decide +kernel
theorem d_M_run_24 : decode prog_5_method_10_code 24 = .ok (.aload_n 0, 1) := by decide +kernel
theorem d_M_run_25 : decode prog_5_method_10_code 25 = .ok (.getfield 65, 3) := by decide +kernel
theorem d_M_run_28 : decode prog_5_method_10_code 28 = .ok (.istore_n 3, 1) := by decide +kernel
theorem d_M_run_29 : decode prog_5_method_10_code 29 = .ok (.aload_n 0, 1) := by decide +kernel
theorem d_M_run_30 : decode prog_5_method_10_code 30 = .ok (.iload_n 3, 1) := by decide +kernel
theorem d_M_run_31 : decode prog_5_method_10_code 31 = .ok (.iconst 1, 1) := by decide +kernel
theorem d_M_run_32 : decode prog_5_method_10_code 32 = .ok (.iadd, 1) := by decide +kernel
theorem d_M_run_33 : decode prog_5_method_10_code 33 = .ok (.putfield 65, 3) := by decide +kernel
theorem d_M_run_36 : decode prog_5_method_10_code 36 = .ok (.aload_n 0, 1) := by decide +kernel
theorem d_M_run_37 : decode prog_5_method_10_code 37 = .ok (.aload_n 0, 1) := by decide +kernel
theorem d_M_run_38 : decode prog_5_method_10_code 38 = .ok (.getfield 25, 3) := by decide +kernel
theorem d_M_run_41 : decode prog_5_method_10_code 41 = .ok (.iload_n 3, 1) := by decide +kernel
theorem d_M_run_42 : decode prog_5_method_10_code 42 = .ok (.invokevirtual 68, 3) := by decide +kernel
theorem d_M_run_45 : decode prog_5_method_10_code 45 = .ok (.aload_n 0, 1) := by decide +kernel
theorem d_M_run_46 : decode prog_5_method_10_code 46 = .ok (.getfield 25, 3) := by decide +kernel
theorem d_M_run_49 : decode prog_5_method_10_code 49 = .ok (.iload_n 3, 1) := by decide +kernel
theorem d_M_run_50 : decode prog_5_method_10_code 50 = .ok (.invokevirtual 74, 3) := by decide +kernel
theorem d_M_run_53 : decode prog_5_method_10_code 53 = .ok (.aload_n 0, 1) := by decide +kernel
theorem d_M_run_54 : decode prog_5_method_10_code 54 = .ok (.getfield 25, 3) := by decide +kernel
theorem d_M_run_57 : decode prog_5_method_10_code 57 = .ok (.iload_n 3, 1) := by decide +kernel
theorem d_M_run_58 : decode prog_5_method_10_code 58 = .ok (.invokevirtual 77, 3) := by decide +kernel
theorem d_M_run_61 : decode prog_5_method_10_code 61 = .ok (.invokevirtual 80, 3) := by decide +kernel
theorem d_M_run_64 : decode prog_5_method_10_code 64 = .ok (.iinc 2 1, 3) := by decide +kernel
theorem d_M_run_67 : decode prog_5_method_10_code 67 = .ok (.goto (-56), 3) := by decide +kernel
theorem d_M_run_70 : decode prog_5_method_10_code 70 = .ok (.aload_n 0, 1) := by decide +kernel
theorem d_M_run_71 : decode prog_5_method_10_code 71 = .ok (.getfield 37, 3) := by decide +kernel
theorem d_M_run_74 : decode prog_5_method_10_code 74 = .ok (.ifCond .ne 8, 3) := by decide +kernel
theorem d_M_run_77 : decode prog_5_method_10_code 77 = .ok (.aload_n 0, 1) := by decide +kernel
theorem d_M_run_78 : decode prog_5_method_10_code 78 = .ok (.iconst 3, 1) := by decide +kernel
theorem d_M_run_79 : decode prog_5_method_10_code 79 = .ok (.putfield 37, 3) := by decide +kernel
theorem d_M_run_82 : decode prog_5_method_10_code 82 = .ok (.return_, 1) := by decide +kernel
section RW
variable {p : Program} {l : Launch} {e : Env} {R : Room} {s : State} {m : MethodId} {args : Array Value} {below : List Frame} {meth : Method} {c : Code} {H : Heap} {locs : List Loc} {cells slots : Nat} {Q : State → Prop}
variable {cc : ByteArray} {pc : Nat} {ls : Array Slot} {rest : List Value} {dC : Nat → ClassId} {dI : Nat → Nat → Nat} {q : Nat → Nat} {cA : Nat → ClassId} {σ : MZ_} {H0 : Heap} {A : Nat → Prop}

theorem cw_M_57 (hts : ∀ w ∈ AW_, w.before args s = true) (hR : rm_M_reset.frames + 1 ≤ R.frames ∧ 8 + (1 + 11) + rm_M_reset.locals ≤ R.locals) : CallW R s args "StagedParsers$Machine" "StagedParsers$Machine" 57 y_M_reset prog_5_method_11_code 1 none w_M_reset rm_M_reset 0 0 0 :=
  ⟨callB_of 0 hts (aw_in kw_637) rfl rfl rfl (hts _ kw_7) (hts _ kw_634) ⟨by decide, by decide, by decide +kernel⟩ hR, hts _ kw_636, hts _ ks_25⟩
theorem cw_M_68 (hts : ∀ w ∈ AW_, w.before args s = true) (hR : rm_C_operation.frames + 1 ≤ R.frames ∧ 8 + (2 + 11) + rm_C_operation.locals ≤ R.locals) : CallW R s args "StagedParsers$Machine" "StagedParsers$Code" 68 y_C_operation prog_2_method_2_code 2 (some .int) w_C_operation rm_C_operation 0 0 1 :=
  ⟨callB_of 1 hts (aw_in kw_667) rfl rfl rfl (hts _ kw_5) (hts _ kw_664) ⟨by decide, by decide, by decide +kernel⟩ hR, hts _ kw_665, hts _ kw_666⟩
theorem cw_M_74 (hts : ∀ w ∈ AW_, w.before args s = true) (hR : rm_C_p.frames + 1 ≤ R.frames ∧ 8 + (2 + 11) + rm_C_p.locals ≤ R.locals) : CallW R s args "StagedParsers$Machine" "StagedParsers$Code" 74 y_C_p prog_2_method_3_code 2 (some .int) w_C_p rm_C_p 0 0 1 :=
  ⟨callB_of 1 hts (aw_in kw_671) rfl rfl rfl (hts _ kw_5) (hts _ kw_668) ⟨by decide, by decide, by decide +kernel⟩ hR, hts _ kw_669, hts _ kw_670⟩
theorem cw_M_77 (hts : ∀ w ∈ AW_, w.before args s = true) (hR : rm_C_q.frames + 1 ≤ R.frames ∧ 8 + (2 + 11) + rm_C_q.locals ≤ R.locals) : CallW R s args "StagedParsers$Machine" "StagedParsers$Code" 77 y_C_q prog_2_method_4_code 2 (some .int) w_C_q rm_C_q 0 0 1 :=
  ⟨callB_of 1 hts (aw_in kw_675) rfl rfl rfl (hts _ kw_5) (hts _ kw_672) ⟨by decide, by decide, by decide +kernel⟩ hR, hts _ kw_673, hts _ kw_674⟩
theorem cw_M_80 (hts : ∀ w ∈ AW_, w.before args s = true) (hR : rm_M_obey.frames + 1 ≤ R.frames ∧ 8 + (4 + 11) + rm_M_obey.locals ≤ R.locals) : CallW R s args "StagedParsers$Machine" "StagedParsers$Machine" 80 y_M_obey prog_5_method_12_code 4 none w_M_obey rm_M_obey 0 0 3 :=
  ⟨callB_of 3 hts (aw_in kw_679) rfl rfl rfl (hts _ kw_7) (hts _ kw_676) ⟨by decide, by decide, by decide +kernel⟩ hR, hts _ kw_678, hts _ ks_28⟩
end RW
def f_M_run_L11 : Nat → MZ_ → Int32 → Int32 → Option (MZ_)
  | 0, _, _, _ => none
  | N + 1, σ, x1, x2 => if 16777216 ≤ x2 then if (σ 35 0) = 0 then st_ (va_up σ 35 (fun _ => 3)) fun σ1 => some σ1
      else some σ
    else if (σ 35 0) = 0 then st_ (va_up σ 36 (fun _ => (σ 36 0) + 1)) fun σ3 => (f_C_operation σ3 (σ 36 0)).bind fun r3 => (f_C_p σ3 (σ 36 0)).bind fun r4 => (f_C_q σ3 (σ 36 0)).bind fun r5 => (f_M_obey σ3 r3 r4 r5).bind fun u6 => f_M_run_L11 N u6 x1 (x2 + 1)
    else if (σ 35 0) = 0 then st_ (va_up σ 35 (fun _ => 3)) fun σ2 => some σ2
    else some σ
def f_M_run (σ : MZ_) (a1 : Int32) : Option (MZ_) :=
  (f_M_reset σ).bind fun u1 => (f_M_callBody u1 a1).bind fun u2 => f_M_run_L11 20000000 u2 a1 0
set_option maxHeartbeats 4000000 in
set_option maxRecDepth 100000 in
theorem c_M_run (l : Launch) (dC : Nat → ClassId) (dI : Nat → Nat → Nat) (q : Nat → Nat) (cA : Nat → ClassId) (pt : Nat) (σ : MZ_) (a1 : Int32) (u : MZ_) (h : f_M_run σ a1 = some u) : Met l y_M_run w_M_run rm_M_run (va_Pc [.ref (q 22), .int a1] (PX_ dC dI q cA pt σ)) (QW_ none (fun H => va_P (dC, dI) cls_ (wX q cA u) H) (AX q)) 0 0 (AX q) := by
  refine Met.ofW (cc := prog_5_method_10_code) (maxL := 4) (ret := none) (by decide) rfl ?_
  intro p e s m args below meth c s₁ B hml hv
  obtain ⟨rfl, hP, hK, hD, hN, hZ⟩ := hv
  have hx := B.exec
  have hb := B.bytes
  have hr := B.returns
  have hts : ∀ w ∈ AW_, w.before _ s = true := fun w h => atoms_spec (ws := w_M_run) B.pre w (List.mem_cons_of_mem _ h)
  have hown : s.vm.findClass "StagedParsers$Machine" = some m.cls := findClass_of_methodNamed B.named
  have hlocks := B.notSynchronized
  have hS : va_S (AX q) s.heap s.heap [] := va_S.rf
  have hl := lv_entry ([.ref (q 22), .int a1]) (n := 4) (Nat.le_of_ble_eq_true rfl)
  rw [lg_entry_eq]
  generalize (lg_sl ([.ref (q 22), .int a1]) ++ List.replicate (4 - (lg_sl ([.ref (q 22), .int a1])).length) Slot.unset).toArray = ls at hl ⊢
  have hl : lv_has ls 4 [(0, .ref (q 22)), (1, .int a1)] := hl
  have L11 : ∀ (N11 : Nat) (σ : MZ_) (x1 : Int32) (x2 : Int32), f_M_run_L11 N11 σ x1 x2 = some u → ∀ (H : Heap) (locs : List Loc) (ls : Array Slot), va_P (dC, dI) cls_ (wX q cA σ) H → va_S (AX q) s.heap H locs → lv_has ls 4 [(0, .ref (q 22)), (1, .int x1), (2, .int x2)] → W p l e (headSpec w_M_run rm_M_run).room s m ([.ref (q 22), .int a1] : List Value).toArray below meth c H locs 0 0 (MQ below (QW_ none (fun H => va_P (dC, dI) cls_ (wX q cA u) H) (AX q)) ([.ref (q 22), .int a1] : List Value).toArray s 0 0 (AX q)) (F0 m 11 ls []) := by
    intro N11
    induction N11 with
    | zero => intro σ x1 x2 h; cases h
    | succ N11 ih11 =>
      intro σ x1 x2 h H locs ls hP hS hl
      have hD : va_D (AX q) (wX q cA σ) := dd_re (wX_f _ _ _ _) hD
      rw [f_M_run_L11] at h
      refine lv_iload_n hx hb d_M_run_11 rfl (lv_at hl 2 rfl) ?_
      refine lv_ldc (v := 16777216) hx hb hown (hts _ kw_663) d_M_run_12 ?_
      refine lv_icmp_ge (tgt := 70) hx hb d_M_run_14 rfl (fun hc => ?_) (fun hc => ?_)
      · have h := if_t hc h
        refine lv_aload_n hx hb d_M_run_70 rfl (lv_at hl 0 rfl) ?_
        refine gf_M_37 hx hb hts hown hK hP d_M_run_71 ?_
        refine lv_if_ne (tgt := 82) hx hb d_M_run_74 rfl (fun hc => ?_) (fun hc => ?_)
        · have h := if_f hc h
          obtain rfl := Option.some.inj h
          exact W.vret hx hb hr (fun t ht hW => ⟨rfl, by rw [ht]; exact hP, hS.F ht⟩) hS.2.2 d_M_run_82
        · have h := if_t hc h
          refine lv_aload_n hx hb d_M_run_77 rfl (lv_at hl 0 rfl) ?_
          refine lv_iconst (v := 3) hx hb d_M_run_78 (by decide) ?_
          refine pf_M_37 hx hb hts hown hK hP hD hS d_M_run_79 (fun H locs hP hS => ?_)
          obtain ⟨σ1, eσ1, h⟩ := st_some h
          rw [← eσ1] at hP
          have hD : va_D (AX q) (wX q cA σ1) := dd_re (wX_f _ _ _ _) hD
          obtain rfl := Option.some.inj h
          exact W.vret hx hb hr (fun t ht hW => ⟨rfl, by rw [ht]; exact hP, hS.F ht⟩) hS.2.2 d_M_run_82
      · have h := if_f hc h
        refine lv_aload_n hx hb d_M_run_17 rfl (lv_at hl 0 rfl) ?_
        refine gf_M_37 hx hb hts hown hK hP d_M_run_18 ?_
        refine lv_if_ne (tgt := 70) hx hb d_M_run_21 rfl (fun hc => ?_) (fun hc => ?_)
        · have h := if_f hc h
          refine lv_aload_n hx hb d_M_run_70 rfl (lv_at hl 0 rfl) ?_
          refine gf_M_37 hx hb hts hown hK hP d_M_run_71 ?_
          refine lv_if_ne (tgt := 82) hx hb d_M_run_74 rfl (fun hc => ?_) (fun hc => ?_)
          · have h := if_f hc h
            obtain rfl := Option.some.inj h
            exact W.vret hx hb hr (fun t ht hW => ⟨rfl, by rw [ht]; exact hP, hS.F ht⟩) hS.2.2 d_M_run_82
          · have h := if_t hc h
            refine lv_aload_n hx hb d_M_run_77 rfl (lv_at hl 0 rfl) ?_
            refine lv_iconst (v := 3) hx hb d_M_run_78 (by decide) ?_
            refine pf_M_37 hx hb hts hown hK hP hD hS d_M_run_79 (fun H locs hP hS => ?_)
            obtain ⟨σ2, eσ2, h⟩ := st_some h
            rw [← eσ2] at hP
            have hD : va_D (AX q) (wX q cA σ2) := dd_re (wX_f _ _ _ _) hD
            obtain rfl := Option.some.inj h
            exact W.vret hx hb hr (fun t ht hW => ⟨rfl, by rw [ht]; exact hP, hS.F ht⟩) hS.2.2 d_M_run_82
        · have h := if_t hc h
          refine lv_aload_n hx hb d_M_run_24 rfl (lv_at hl 0 rfl) ?_
          refine gf_M_65 hx hb hts hown hK hP d_M_run_25 ?_
          refine lv_istore_n hx hb d_M_run_28 rfl hl (by decide) rfl (fun ls hl => ?_)
          have hl : lv_has ls 4 [(3, .int (σ 36 0)), (0, .ref (q 22)), (1, .int x1), (2, .int x2)] := hl
          refine lv_aload_n hx hb d_M_run_29 rfl (lv_at hl 1 rfl) ?_
          refine lv_iload_n hx hb d_M_run_30 rfl (lv_at hl 0 rfl) ?_
          refine lv_iconst (v := 1) hx hb d_M_run_31 (by decide) ?_
          refine lv_iadd hx hb d_M_run_32 ?_
          refine pf_M_65 hx hb hts hown hK hP hD hS d_M_run_33 (fun H locs hP hS => ?_)
          obtain ⟨σ3, eσ3, h⟩ := st_some h
          rw [← eσ3] at hP
          have hD : va_D (AX q) (wX q cA σ3) := dd_re (wX_f _ _ _ _) hD
          refine lv_aload_n hx hb d_M_run_36 rfl (lv_at hl 1 rfl) ?_
          refine lv_aload_n hx hb d_M_run_37 rfl (lv_at hl 1 rfl) ?_
          refine gf_M_25 hx hb hts hown hK hP d_M_run_38 ?_
          refine lv_iload_n hx hb d_M_run_41 rfl (lv_at hl 0 rfl) ?_
          obtain ⟨r3, hcl, h⟩ := bd_some h
          refine cx_read (va_runV (As := [.int (σ 36 0)]) (rest := [.ref (q 22)]) ⟨hx, hb, hml, hown, hts⟩ (c_C_operation l dC dI q cA pt σ3 (σ 36 0) _ hcl) (cw_M_68 hts ⟨Nat.le_of_ble_eq_true rfl, Nat.le_of_ble_eq_true rfl⟩) ⟨pxX_B, va_recv hK hP (ci := 3) (q0 := 14) rfl rfl, pxX_U hP hK hD hN hZ hS⟩ rfl rfl hl.1 rfl (lv_room (Nat.le_of_ble_eq_true rfl)) d_M_run_42 ⟨Nat.zero_le _, Nat.zero_le _⟩) ?_
          refine lv_aload_n hx hb d_M_run_45 rfl (lv_at hl 1 rfl) ?_
          refine gf_M_25 hx hb hts hown hK hP d_M_run_46 ?_
          refine lv_iload_n hx hb d_M_run_49 rfl (lv_at hl 0 rfl) ?_
          obtain ⟨r4, hcl, h⟩ := bd_some h
          refine cx_read (va_runV (As := [.int (σ 36 0)]) (rest := [.int r3, .ref (q 22)]) ⟨hx, hb, hml, hown, hts⟩ (c_C_p l dC dI q cA pt σ3 (σ 36 0) _ hcl) (cw_M_74 hts ⟨Nat.le_of_ble_eq_true rfl, Nat.le_of_ble_eq_true rfl⟩) ⟨pxX_B, va_recv hK hP (ci := 3) (q0 := 14) rfl rfl, pxX_U hP hK hD hN hZ hS⟩ rfl rfl hl.1 rfl (lv_room (Nat.le_of_ble_eq_true rfl)) d_M_run_50 ⟨Nat.zero_le _, Nat.zero_le _⟩) ?_
          refine lv_aload_n hx hb d_M_run_53 rfl (lv_at hl 1 rfl) ?_
          refine gf_M_25 hx hb hts hown hK hP d_M_run_54 ?_
          refine lv_iload_n hx hb d_M_run_57 rfl (lv_at hl 0 rfl) ?_
          obtain ⟨r5, hcl, h⟩ := bd_some h
          refine cx_read (va_runV (As := [.int (σ 36 0)]) (rest := [.int r4, .int r3, .ref (q 22)]) ⟨hx, hb, hml, hown, hts⟩ (c_C_q l dC dI q cA pt σ3 (σ 36 0) _ hcl) (cw_M_77 hts ⟨Nat.le_of_ble_eq_true rfl, Nat.le_of_ble_eq_true rfl⟩) ⟨pxX_B, va_recv hK hP (ci := 3) (q0 := 14) rfl rfl, pxX_U hP hK hD hN hZ hS⟩ rfl rfl hl.1 rfl (lv_room (Nat.le_of_ble_eq_true rfl)) d_M_run_58 ⟨Nat.zero_le _, Nat.zero_le _⟩) ?_
          obtain ⟨u6, hcl, h⟩ := bd_some h
          refine cx_wrv (va_runV (As := [.int r3, .int r4, .int r5]) (rest := []) ⟨hx, hb, hml, hown, hts⟩ (c_M_obey l dC dI q cA pt σ3 r3 r4 r5 _ hcl) (cw_M_80 hts ⟨Nat.le_of_ble_eq_true rfl, Nat.le_of_ble_eq_true rfl⟩) ⟨pxX_B, va_recv hK hP (ci := 5) (q0 := 22) rfl rfl, pxX_U hP hK hD hN hZ hS⟩ rfl rfl hl.1 rfl (lv_room (Nat.le_of_ble_eq_true rfl)) d_M_run_61 ⟨Nat.zero_le _, Nat.zero_le _⟩) hS (fun _ h => h) (fun H locs hP hS => ?_)
          have hD : va_D (AX q) (wX q cA u6) := dd_re (wX_f _ _ _ _) hD
          refine lv_iinc (v := x2 + 1) hx hb d_M_run_64 hl (k := 3) rfl rfl (by decide) rfl (fun ls hl => ?_)
          have hl : lv_has ls 4 [(2, .int (x2 + 1)), (3, .int (σ 36 0)), (0, .ref (q 22)), (1, .int x1)] := hl
          refine lv_goto (tgt := 11) hx hb d_M_run_67 rfl ?_
          exact ih11 _ _ _ h _ _ _ hP hS (lv_sub hl [2, 3, 0] rfl)
  rw [f_M_run] at h
  refine lv_aload_n hx hb d_M_run_0 rfl (lv_at hl 0 rfl) ?_
  obtain ⟨u1, hcl, h⟩ := bd_some h
  refine cx_wrv (va_runV (As := []) (rest := []) ⟨hx, hb, hml, hown, hts⟩ (c_M_reset l dC dI q cA pt σ _ hcl) (cw_M_57 hts ⟨Nat.le_of_ble_eq_true rfl, Nat.le_of_ble_eq_true rfl⟩) ⟨pxX_B, va_recv hK hP (ci := 5) (q0 := 22) rfl rfl, pxX_U hP hK hD hN hZ hS⟩ rfl rfl hl.1 rfl (lv_room (Nat.le_of_ble_eq_true rfl)) d_M_run_1 ⟨Nat.zero_le _, Nat.zero_le _⟩) hS (fun _ h => h) (fun H locs hP hS => ?_)
  have hD : va_D (AX q) (wX q cA u1) := dd_re (wX_f _ _ _ _) hD
  refine lv_aload_n hx hb d_M_run_4 rfl (lv_at hl 0 rfl) ?_
  refine lv_iload_n hx hb d_M_run_5 rfl (lv_at hl 1 rfl) ?_
  obtain ⟨u2, hcl, h⟩ := bd_some h
  refine cx_wrv (va_runV (As := [.int a1]) (rest := []) ⟨hx, hb, hml, hown, hts⟩ (c_M_callBody l dC dI q cA pt u1 a1 _ hcl) (cw_M_60 hts ⟨Nat.le_of_ble_eq_true rfl, Nat.le_of_ble_eq_true rfl⟩) ⟨pxX_B, va_recv hK hP (ci := 5) (q0 := 22) rfl rfl, pxX_U hP hK hD hN hZ hS⟩ rfl rfl hl.1 rfl (lv_room (Nat.le_of_ble_eq_true rfl)) d_M_run_6 ⟨Nat.zero_le _, Nat.zero_le _⟩) hS (fun _ h => h) (fun H locs hP hS => ?_)
  have hD : va_D (AX q) (wX q cA u2) := dd_re (wX_f _ _ _ _) hD
  refine lv_iconst (v := 0) hx hb d_M_run_9 (by decide) ?_
  refine lv_istore_n hx hb d_M_run_10 rfl hl (by decide) rfl (fun ls hl => ?_)
  have hl : lv_has ls 4 [(2, .int 0), (0, .ref (q 22)), (1, .int a1)] := hl
  exact L11 _ _ _ _ h _ _ _ hP hS (lv_sub hl [1, 2, 0] rfl)
