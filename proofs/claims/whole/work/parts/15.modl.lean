/-! the other system, second -/
def y_R_beginsNow : MethodName := ⟨"StagedParsersModel", "beginsNow", "(II)Z"⟩
def w_R_beginsNow : List Cond := .code y_R_beginsNow prog_9_method_15_code 4 (some .boolean) :: AW_
def rm_R_beginsNow : Room := { frames := 1, cells := 0, slots := 0, locals := 22 }
theorem d_R_beginsNow_0 : decode prog_9_method_15_code 0 = .ok (.aload_n 0, 1) := by decide +kernel
theorem d_R_beginsNow_1 : decode prog_9_method_15_code 1 = .ok (.getfield 13, 3) := by decide +kernel
theorem d_R_beginsNow_4 : decode prog_9_method_15_code 4 = .ok (.iload_n 1, 1) := by decide +kernel
theorem d_R_beginsNow_5 : decode prog_9_method_15_code 5 = .ok (.iaload, 1) := by decide +kernel
theorem d_R_beginsNow_6 : decode prog_9_method_15_code 6 = .ok (.istore_n 3, 1) := by decide +kernel
theorem d_R_beginsNow_7 : decode prog_9_method_15_code 7 = .ok (.aload_n 0, 1) := by decide +kernel
theorem d_R_beginsNow_8 : decode prog_9_method_15_code 8 = .ok (.getfield 7, 3) := by decide +kernel
theorem d_R_beginsNow_11 : decode prog_9_method_15_code 11 = .ok (.iload_n 1, 1) := by decide +kernel
theorem d_R_beginsNow_12 : decode prog_9_method_15_code 12 = .ok (.iaload, 1) := by decide +kernel
theorem d_R_beginsNow_13 : decode prog_9_method_15_code 13 = .ok (.tableswitch 204 1 12 #[63, 74, 204, 86, 124, 153, 204, 204, 153, 86, 160, 153], 63) := by decide +kernel
theorem d_R_beginsNow_76 : decode prog_9_method_15_code 76 = .ok (.iload_n 2, 1) := by decide +kernel
theorem d_R_beginsNow_77 : decode prog_9_method_15_code 77 = .ok (.iload_n 3, 1) := by decide +kernel
theorem d_R_beginsNow_78 : decode prog_9_method_15_code 78 = .ok (.if_icmp .ne 7, 3) := by decide +kernel
theorem d_R_beginsNow_81 : decode prog_9_method_15_code 81 = .ok (.iconst 1, 1) := by decide +kernel
theorem d_R_beginsNow_82 : decode prog_9_method_15_code 82 = .ok (.goto 4, 3) := by decide +kernel
theorem d_R_beginsNow_85 : decode prog_9_method_15_code 85 = .ok (.iconst 0, 1) := by decide +kernel
theorem d_R_beginsNow_86 : decode prog_9_method_15_code 86 = .ok (.ireturn, 1) := by decide +kernel
theorem d_R_beginsNow_87 : decode prog_9_method_15_code 87 = .ok (.iload_n 2, 1) := by decide +kernel
theorem d_R_beginsNow_88 : decode prog_9_method_15_code 88 = .ok (.iload_n 3, 1) := by decide +kernel
theorem d_R_beginsNow_89 : decode prog_9_method_15_code 89 = .ok (.aload_n 0, 1) := by decide +kernel
theorem d_R_beginsNow_90 : decode prog_9_method_15_code 90 = .ok (.getfield 16, 3) := by decide +kernel
theorem d_R_beginsNow_93 : decode prog_9_method_15_code 93 = .ok (.iload_n 1, 1) := by decide +kernel
theorem d_R_beginsNow_94 : decode prog_9_method_15_code 94 = .ok (.iaload, 1) := by decide +kernel
theorem d_R_beginsNow_95 : decode prog_9_method_15_code 95 = .ok (.invokestatic 72, 3) := by decide +kernel
theorem d_R_beginsNow_98 : decode prog_9_method_15_code 98 = .ok (.ireturn, 1) := by decide +kernel
theorem d_R_beginsNow_99 : decode prog_9_method_15_code 99 = .ok (.aload_n 0, 1) := by decide +kernel
theorem d_R_beginsNow_100 : decode prog_9_method_15_code 100 = .ok (.getfield 35, 3) := by decide +kernel
theorem d_R_beginsNow_103 : decode prog_9_method_15_code 103 = .ok (.iload_n 3, 1) := by decide +kernel
theorem d_R_beginsNow_104 : decode prog_9_method_15_code 104 = .ok (.baload, 1) := by decide +kernel
theorem d_R_beginsNow_105 : decode prog_9_method_15_code 105 = .ok (.ifCond .ne 26, 3) := by decide +kernel
theorem d_R_beginsNow_108 : decode prog_9_method_15_code 108 = .ok (.aload_n 0, 1) := by decide +kernel
theorem d_R_beginsNow_109 : decode prog_9_method_15_code 109 = .ok (.getfield 31, 3) := by decide +kernel
theorem d_R_beginsNow_112 : decode prog_9_method_15_code 112 = .ok (.iload_n 3, 1) := by decide +kernel
theorem d_R_beginsNow_113 : decode prog_9_method_15_code 113 = .ok (.baload, 1) := by decide +kernel
theorem d_R_beginsNow_114 : decode prog_9_method_15_code 114 = .ok (.ifCond .eq 21, 3) := by decide +kernel
theorem d_R_beginsNow_117 : decode prog_9_method_15_code 117 = .ok (.aload_n 0, 1) := by decide +kernel
theorem d_R_beginsNow_118 : decode prog_9_method_15_code 118 = .ok (.getfield 35, 3) := by decide +kernel
theorem d_R_beginsNow_121 : decode prog_9_method_15_code 121 = .ok (.aload_n 0, 1) := by decide +kernel
theorem d_R_beginsNow_122 : decode prog_9_method_15_code 122 = .ok (.getfield 16, 3) := by decide +kernel
theorem d_R_beginsNow_125 : decode prog_9_method_15_code 125 = .ok (.iload_n 1, 1) := by decide +kernel
theorem d_R_beginsNow_126 : decode prog_9_method_15_code 126 = .ok (.iaload, 1) := by decide +kernel
theorem d_R_beginsNow_127 : decode prog_9_method_15_code 127 = .ok (.baload, 1) := by decide +kernel
theorem d_R_beginsNow_128 : decode prog_9_method_15_code 128 = .ok (.ifCond .eq 7, 3) := by decide +kernel
theorem d_R_beginsNow_131 : decode prog_9_method_15_code 131 = .ok (.iconst 1, 1) := by decide +kernel
theorem d_R_beginsNow_132 : decode prog_9_method_15_code 132 = .ok (.goto 4, 3) := by decide +kernel
theorem d_R_beginsNow_135 : decode prog_9_method_15_code 135 = .ok (.iconst 0, 1) := by decide +kernel
theorem d_R_beginsNow_136 : decode prog_9_method_15_code 136 = .ok (.ireturn, 1) := by decide +kernel
theorem d_R_beginsNow_137 : decode prog_9_method_15_code 137 = .ok (.aload_n 0, 1) := by decide +kernel
theorem d_R_beginsNow_138 : decode prog_9_method_15_code 138 = .ok (.getfield 35, 3) := by decide +kernel
theorem d_R_beginsNow_141 : decode prog_9_method_15_code 141 = .ok (.iload_n 3, 1) := by decide +kernel
theorem d_R_beginsNow_142 : decode prog_9_method_15_code 142 = .ok (.baload, 1) := by decide +kernel
theorem d_R_beginsNow_143 : decode prog_9_method_15_code 143 = .ok (.ifCond .ne 17, 3) := by decide +kernel
theorem d_R_beginsNow_146 : decode prog_9_method_15_code 146 = .ok (.aload_n 0, 1) := by decide +kernel
theorem d_R_beginsNow_147 : decode prog_9_method_15_code 147 = .ok (.getfield 35, 3) := by decide +kernel
theorem d_R_beginsNow_150 : decode prog_9_method_15_code 150 = .ok (.aload_n 0, 1) := by decide +kernel
theorem d_R_beginsNow_151 : decode prog_9_method_15_code 151 = .ok (.getfield 16, 3) := by decide +kernel
theorem d_R_beginsNow_154 : decode prog_9_method_15_code 154 = .ok (.iload_n 1, 1) := by decide +kernel
theorem d_R_beginsNow_155 : decode prog_9_method_15_code 155 = .ok (.iaload, 1) := by decide +kernel
theorem d_R_beginsNow_156 : decode prog_9_method_15_code 156 = .ok (.baload, 1) := by decide +kernel
theorem d_R_beginsNow_157 : decode prog_9_method_15_code 157 = .ok (.ifCond .eq 7, 3) := by decide +kernel
theorem d_R_beginsNow_160 : decode prog_9_method_15_code 160 = .ok (.iconst 1, 1) := by decide +kernel
theorem d_R_beginsNow_161 : decode prog_9_method_15_code 161 = .ok (.goto 4, 3) := by decide +kernel
theorem d_R_beginsNow_164 : decode prog_9_method_15_code 164 = .ok (.iconst 0, 1) := by decide +kernel
theorem d_R_beginsNow_165 : decode prog_9_method_15_code 165 = .ok (.ireturn, 1) := by decide +kernel
theorem d_R_beginsNow_166 : decode prog_9_method_15_code 166 = .ok (.aload_n 0, 1) := by decide +kernel
theorem d_R_beginsNow_167 : decode prog_9_method_15_code 167 = .ok (.getfield 35, 3) := by decide +kernel
theorem d_R_beginsNow_170 : decode prog_9_method_15_code 170 = .ok (.iload_n 3, 1) := by decide +kernel
theorem d_R_beginsNow_171 : decode prog_9_method_15_code 171 = .ok (.baload, 1) := by decide +kernel
theorem d_R_beginsNow_172 : decode prog_9_method_15_code 172 = .ok (.ireturn, 1) := by decide +kernel
theorem d_R_beginsNow_173 : decode prog_9_method_15_code 173 = .ok (.aload_n 0, 1) := by decide +kernel
theorem d_R_beginsNow_174 : decode prog_9_method_15_code 174 = .ok (.getfield 25, 3) := by decide +kernel
theorem d_R_beginsNow_177 : decode prog_9_method_15_code 177 = .ok (.iload_n 3, 1) := by decide +kernel
theorem d_R_beginsNow_178 : decode prog_9_method_15_code 178 = .ok (.iaload, 1) := by decide +kernel
theorem d_R_beginsNow_179 : decode prog_9_method_15_code 179 = .ok (.ifCond .le 36, 3) := by decide +kernel
theorem d_R_beginsNow_182 : decode prog_9_method_15_code 182 = .ok (.aload_n 0, 1) := by decide +kernel
theorem d_R_beginsNow_183 : decode prog_9_method_15_code 183 = .ok (.getfield 35, 3) := by decide +kernel
theorem d_R_beginsNow_186 : decode prog_9_method_15_code 186 = .ok (.aload_n 0, 1) := by decide +kernel
theorem d_R_beginsNow_187 : decode prog_9_method_15_code 187 = .ok (.getfield 25, 3) := by decide +kernel
theorem d_R_beginsNow_190 : decode prog_9_method_15_code 190 = .ok (.iload_n 3, 1) := by decide +kernel
theorem d_R_beginsNow_191 : decode prog_9_method_15_code 191 = .ok (.iaload, 1) := by decide +kernel
theorem d_R_beginsNow_192 : decode prog_9_method_15_code 192 = .ok (.ifCond .le 14, 3) := by decide +kernel
theorem d_R_beginsNow_195 : decode prog_9_method_15_code 195 = .ok (.aload_n 0, 1) := by decide +kernel
theorem d_R_beginsNow_196 : decode prog_9_method_15_code 196 = .ok (.getfield 25, 3) := by decide +kernel
theorem d_R_beginsNow_199 : decode prog_9_method_15_code 199 = .ok (.iload_n 3, 1) := by decide +kernel
theorem d_R_beginsNow_200 : decode prog_9_method_15_code 200 = .ok (.iaload, 1) := by decide +kernel
theorem d_R_beginsNow_201 : decode prog_9_method_15_code 201 = .ok (.iconst 1, 1) := by decide +kernel
theorem d_R_beginsNow_202 : decode prog_9_method_15_code 202 = .ok (.isub, 1) := by decide +kernel
theorem d_R_beginsNow_203 : decode prog_9_method_15_code 203 = .ok (.goto 4, 3) := by decide +kernel
theorem d_R_beginsNow_206 : decode prog_9_method_15_code 206 = .ok (.iconst 0, 1) := by decide +kernel
theorem d_R_beginsNow_207 : decode prog_9_method_15_code 207 = .ok (.baload, 1) := by decide +kernel
theorem d_R_beginsNow_208 : decode prog_9_method_15_code 208 = .ok (.ifCond .eq 7, 3) := by decide +kernel
theorem d_R_beginsNow_211 : decode prog_9_method_15_code 211 = .ok (.iconst 1, 1) := by decide +kernel
theorem d_R_beginsNow_212 : decode prog_9_method_15_code 212 = .ok (.goto 4, 3) := by decide +kernel
theorem d_R_beginsNow_215 : decode prog_9_method_15_code 215 = .ok (.iconst 0, 1) := by decide +kernel
theorem d_R_beginsNow_216 : decode prog_9_method_15_code 216 = .ok (.ireturn, 1) := by decide +kernel
theorem d_R_beginsNow_217 : decode prog_9_method_15_code 217 = .ok (.iconst 0, 1) := by decide +kernel
theorem d_R_beginsNow_218 : decode prog_9_method_15_code 218 = .ok (.ireturn, 1) := by decide +kernel
section RW
variable {p : Program} {l : Launch} {e : Env} {R : Room} {s : State} {m : MethodId} {args : Array Value} {below : List Frame} {meth : Method} {c : Code} {H : Heap} {locs : List Loc} {cells slots : Nat} {Q : State → Prop}
variable {cc : ByteArray} {pc : Nat} {ls : Array Slot} {rest : List Value} {dC : Nat → ClassId} {dI : Nat → Nat → Nat} {q : Nat → Nat} {cA : Nat → ClassId} {σ : MZ_} {H0 : Heap} {A : Nat → Prop}

theorem gf_R_35 (hx : p.tables.exec = Jvm.exec) (hb : c.code = cc) (hts : ∀ w ∈ AW_, w.before args s = true) (hown : s.vm.findClass "StagedParsersModel" = some m.cls) (hK : va_K (dC, dI) cls_ (tyR cA) s) (hP : va_P (dC, dI) cls_ (wR q cA σ) H) (hdg : decode cc pc = .ok (.getfield 35, 3)) (kk : W p l e R s m args below meth c H locs cells slots Q (F0 m (pc + 3) ls (.ref (q 9) :: rest))) : W p l e R s m args below meth c H locs cells slots Q (F0 m pc ls (.ref (q 0) :: rest)) :=
  va_get (D := (dC, dI)) (cl := cls_) (ci := 7) (v := .ref (q 9)) (ws := wR q cA σ) (tys := tyR cA) (C := Rz_R) (T := Tz_R) (N := 34) hx hb hts uz_R hown hK hP 0 rfl rfl 12 (by decide) (hts _ kw_823) (fun _ h9 => h9) rfl hdg kk
end RW
def f_R_beginsNow (σ : MZ_) (a1 : Int32) (a2 : Int32) : Option (Int32) :=
  gd_ a1 80 (gd_ a1 80 (if (σ 1 a1.toNatClampNeg) = 1 then if a2 = (σ 2 a1.toNatClampNeg) then some 1
    else some 0
  else if (σ 1 a1.toNatClampNeg) = 2 then gd_ a1 80 ((f_R_in a2 (σ 2 a1.toNatClampNeg) (σ 3 a1.toNatClampNeg)).bind fun r1 => bo_ r1 (some r1))
  else if (σ 1 a1.toNatClampNeg) = 3 then some 0
  else if (σ 1 a1.toNatClampNeg) = 4 then gd_ (σ 2 a1.toNatClampNeg) 80 (if (σ 9 (σ 2 a1.toNatClampNeg).toNatClampNeg) = 0 then gd_ (σ 2 a1.toNatClampNeg) 80 (if (σ 8 (σ 2 a1.toNatClampNeg).toNatClampNeg) = 0 then some 0
      else gd_ a1 80 (gd_ (σ 3 a1.toNatClampNeg) 80 (if (σ 9 (σ 3 a1.toNatClampNeg).toNatClampNeg) = 0 then some 0
      else some 1)))
    else some 1)
  else if (σ 1 a1.toNatClampNeg) = 5 then gd_ (σ 2 a1.toNatClampNeg) 80 (if (σ 9 (σ 2 a1.toNatClampNeg).toNatClampNeg) = 0 then gd_ a1 80 (gd_ (σ 3 a1.toNatClampNeg) 80 (if (σ 9 (σ 3 a1.toNatClampNeg).toNatClampNeg) = 0 then some 0
      else some 1))
    else some 1)
  else if (σ 1 a1.toNatClampNeg) = 6 then gd_ (σ 2 a1.toNatClampNeg) 80 (bo_ (σ 9 (σ 2 a1.toNatClampNeg).toNatClampNeg) (some (σ 9 (σ 2 a1.toNatClampNeg).toNatClampNeg)))
  else if (σ 1 a1.toNatClampNeg) = 7 then some 0
  else if (σ 1 a1.toNatClampNeg) = 8 then some 0
  else if (σ 1 a1.toNatClampNeg) = 9 then gd_ (σ 2 a1.toNatClampNeg) 80 (bo_ (σ 9 (σ 2 a1.toNatClampNeg).toNatClampNeg) (some (σ 9 (σ 2 a1.toNatClampNeg).toNatClampNeg)))
  else if (σ 1 a1.toNatClampNeg) = 10 then gd_ (σ 2 a1.toNatClampNeg) 80 (if (σ 9 (σ 2 a1.toNatClampNeg).toNatClampNeg) = 0 then gd_ (σ 2 a1.toNatClampNeg) 80 (if (σ 8 (σ 2 a1.toNatClampNeg).toNatClampNeg) = 0 then some 0
      else gd_ a1 80 (gd_ (σ 3 a1.toNatClampNeg) 80 (if (σ 9 (σ 3 a1.toNatClampNeg).toNatClampNeg) = 0 then some 0
      else some 1)))
    else some 1)
  else if (σ 1 a1.toNatClampNeg) = 11 then gd_ (σ 2 a1.toNatClampNeg) 6 (if (σ 6 (σ 2 a1.toNatClampNeg).toNatClampNeg) ≤ 0 then some 0
    else gd_ (σ 2 a1.toNatClampNeg) 6 (if (σ 6 (σ 2 a1.toNatClampNeg).toNatClampNeg) ≤ 0 then gd_ 0 80 (if (σ 9 (0 : Int32).toNatClampNeg) = 0 then some 0
      else some 1)
    else gd_ (σ 2 a1.toNatClampNeg) 6 (gd_ ((σ 6 (σ 2 a1.toNatClampNeg).toNatClampNeg) - 1) 80 (if (σ 9 ((σ 6 (σ 2 a1.toNatClampNeg).toNatClampNeg) - 1).toNatClampNeg) = 0 then some 0
    else some 1))))
  else if (σ 1 a1.toNatClampNeg) = 12 then gd_ (σ 2 a1.toNatClampNeg) 80 (bo_ (σ 9 (σ 2 a1.toNatClampNeg).toNatClampNeg) (some (σ 9 (σ 2 a1.toNatClampNeg).toNatClampNeg)))
  else some 0))
set_option maxHeartbeats 4000000 in
set_option maxRecDepth 100000 in
theorem c_R_beginsNow (l : Launch) (dC : Nat → ClassId) (dI : Nat → Nat → Nat) (q : Nat → Nat) (cA : Nat → ClassId) (σ : MZ_) (a1 : Int32) (a2 : Int32) (u : Int32) (h : f_R_beginsNow σ a1 a2 = some u) : Met l y_R_beginsNow w_R_beginsNow rm_R_beginsNow (va_Pc [.ref (q 0), .int a1, .int a2] (PRx_ dC dI q cA σ)) (QcRead u) 0 0 (fun _ => False) := by
  refine Met.ofW (cc := prog_9_method_15_code) (maxL := 4) (ret := (some .boolean)) (by decide) rfl ?_
  intro p e s m args below meth c s₁ B hml hv
  obtain ⟨rfl, hP, hK, hD, hN, hZ⟩ := hv
  have hx := B.exec
  have hb := B.bytes
  have hr := B.returns
  have hts : ∀ w ∈ AW_, w.before _ s = true := fun w h => atoms_spec (ws := w_R_beginsNow) B.pre w (List.mem_cons_of_mem _ h)
  have hown : s.vm.findClass "StagedParsersModel" = some m.cls := findClass_of_methodNamed B.named
  have hlocks := B.notSynchronized
  have hS : va_S (AR q) s.heap s.heap [] := va_S.rf
  have hl := lv_entry ([.ref (q 0), .int a1, .int a2]) (n := 4) (Nat.le_of_ble_eq_true rfl)
  rw [lg_entry_eq]
  generalize (lg_sl ([.ref (q 0), .int a1, .int a2]) ++ List.replicate (4 - (lg_sl ([.ref (q 0), .int a1, .int a2])).length) Slot.unset).toArray = ls at hl ⊢
  have hl : lv_has ls 4 [(0, .ref (q 0)), (1, .int a1), (2, .int a2)] := hl
  rw [f_R_beginsNow] at h
  refine lv_aload_n hx hb d_R_beginsNow_0 rfl (lv_at hl 0 rfl) ?_
  refine gf_R_13 hx hb hts hown hK hP d_R_beginsNow_1 ?_
  refine lv_iload_n hx hb d_R_beginsNow_4 rfl (lv_at hl 1 rfl) ?_
  obtain ⟨hgd, h⟩ := gd_some h
  refine al_R_2 hx hb hK hP hgd d_R_beginsNow_5 ?_
  refine lv_istore_n hx hb d_R_beginsNow_6 rfl hl (by decide) rfl (fun ls hl => ?_)
  have hl : lv_has ls 4 [(3, .int (σ 2 a1.toNatClampNeg)), (0, .ref (q 0)), (1, .int a1), (2, .int a2)] := hl
  refine lv_aload_n hx hb d_R_beginsNow_7 rfl (lv_at hl 1 rfl) ?_
  refine gf_R_7 hx hb hts hown hK hP d_R_beginsNow_8 ?_
  refine lv_iload_n hx hb d_R_beginsNow_11 rfl (lv_at hl 2 rfl) ?_
  obtain ⟨hgd, h⟩ := gd_some h
  refine al_R_1 hx hb hK hP hgd d_R_beginsNow_12 ?_
  by_cases hc0 : (σ 1 a1.toNatClampNeg) = 1
  · have h := if_t hc0 h
    refine sw_in (tgt := 76) hx hb d_R_beginsNow_13 hc0 (by decide) (by decide) rfl rfl ?_
    refine lv_iload_n hx hb d_R_beginsNow_76 rfl (lv_at hl 3 rfl) ?_
    refine lv_iload_n hx hb d_R_beginsNow_77 rfl (lv_at hl 0 rfl) ?_
    refine lv_icmp_ne (tgt := 85) hx hb d_R_beginsNow_78 rfl (fun hc => ?_) (fun hc => ?_)
    · have h := if_f hc h
      refine lv_iconst (v := 0) hx hb d_R_beginsNow_85 (by decide) ?_
      obtain rfl := Option.some.inj h
      exact W.zret hx hb hr rfl (fun t ht hW => ⟨rfl, ht⟩) (fun _ h9 => nomatch h9) d_R_beginsNow_86
    · have h := if_t hc h
      refine lv_iconst (v := 1) hx hb d_R_beginsNow_81 (by decide) ?_
      refine lv_goto (tgt := 86) hx hb d_R_beginsNow_82 rfl ?_
      obtain rfl := Option.some.inj h
      exact W.zret hx hb hr rfl (fun t ht hW => ⟨rfl, ht⟩) (fun _ h9 => nomatch h9) d_R_beginsNow_86
  have h := if_f hc0 h
  by_cases hc1 : (σ 1 a1.toNatClampNeg) = 2
  · have h := if_t hc1 h
    refine sw_in (tgt := 87) hx hb d_R_beginsNow_13 hc1 (by decide) (by decide) rfl rfl ?_
    refine lv_iload_n hx hb d_R_beginsNow_87 rfl (lv_at hl 3 rfl) ?_
    refine lv_iload_n hx hb d_R_beginsNow_88 rfl (lv_at hl 0 rfl) ?_
    refine lv_aload_n hx hb d_R_beginsNow_89 rfl (lv_at hl 1 rfl) ?_
    refine gf_R_16 hx hb hts hown hK hP d_R_beginsNow_90 ?_
    refine lv_iload_n hx hb d_R_beginsNow_93 rfl (lv_at hl 2 rfl) ?_
    obtain ⟨hgd, h⟩ := gd_some h
    refine al_R_3 hx hb hK hP hgd d_R_beginsNow_94 ?_
    obtain ⟨r1, hcl, h⟩ := bd_some h
    refine cx_read (va_runS (As := [.int a2, .int (σ 2 a1.toNatClampNeg), .int (σ 3 a1.toNatClampNeg)]) (rest := []) ⟨hx, hb, hml, hown, hts⟩ (c_R_in l dC dI q cA σ a2 (σ 2 a1.toNatClampNeg) (σ 3 a1.toNatClampNeg) _ hcl) (cw_R_72 hts ⟨Nat.le_of_ble_eq_true rfl, Nat.le_of_ble_eq_true rfl⟩) ⟨pxR_B, pxR_U hP hK hD hN hZ hS⟩ rfl rfl hl.1 rfl (lv_room (Nat.le_of_ble_eq_true rfl)) d_R_beginsNow_95 ⟨Nat.zero_le _, Nat.zero_le _⟩) ?_
    obtain ⟨hbo, h⟩ := bo_some h
    obtain rfl := Option.some.inj h
    exact W.zret hx hb hr (bo_nar hbo) (fun t ht hW => ⟨rfl, ht⟩) (fun _ h9 => nomatch h9) d_R_beginsNow_98
  have h := if_f hc1 h
  by_cases hc2 : (σ 1 a1.toNatClampNeg) = 3
  · have h := if_t hc2 h
    refine sw_in (tgt := 217) hx hb d_R_beginsNow_13 hc2 (by decide) (by decide) rfl rfl ?_
    refine lv_iconst (v := 0) hx hb d_R_beginsNow_217 (by decide) ?_
    obtain rfl := Option.some.inj h
    exact W.zret hx hb hr rfl (fun t ht hW => ⟨rfl, ht⟩) (fun _ h9 => nomatch h9) d_R_beginsNow_218
  have h := if_f hc2 h
  by_cases hc3 : (σ 1 a1.toNatClampNeg) = 4
  · have h := if_t hc3 h
    refine sw_in (tgt := 99) hx hb d_R_beginsNow_13 hc3 (by decide) (by decide) rfl rfl ?_
    refine lv_aload_n hx hb d_R_beginsNow_99 rfl (lv_at hl 1 rfl) ?_
    refine gf_R_35 hx hb hts hown hK hP d_R_beginsNow_100 ?_
    refine lv_iload_n hx hb d_R_beginsNow_103 rfl (lv_at hl 0 rfl) ?_
    obtain ⟨hgd, h⟩ := gd_some h
    refine al_R_9 hx hb hK hP hgd d_R_beginsNow_104 ?_
    refine lv_if_ne (tgt := 131) hx hb d_R_beginsNow_105 rfl (fun hc => ?_) (fun hc => ?_)
    · have h := if_f hc h
      refine lv_iconst (v := 1) hx hb d_R_beginsNow_131 (by decide) ?_
      refine lv_goto (tgt := 136) hx hb d_R_beginsNow_132 rfl ?_
      obtain rfl := Option.some.inj h
      exact W.zret hx hb hr rfl (fun t ht hW => ⟨rfl, ht⟩) (fun _ h9 => nomatch h9) d_R_beginsNow_136
    · have h := if_t hc h
      refine lv_aload_n hx hb d_R_beginsNow_108 rfl (lv_at hl 1 rfl) ?_
      refine gf_R_31 hx hb hts hown hK hP d_R_beginsNow_109 ?_
      refine lv_iload_n hx hb d_R_beginsNow_112 rfl (lv_at hl 0 rfl) ?_
      obtain ⟨hgd, h⟩ := gd_some h
      refine al_R_8 hx hb hK hP hgd d_R_beginsNow_113 ?_
      refine lv_if_eq (tgt := 135) hx hb d_R_beginsNow_114 rfl (fun hc => ?_) (fun hc => ?_)
      · have h := if_t hc h
        refine lv_iconst (v := 0) hx hb d_R_beginsNow_135 (by decide) ?_
        obtain rfl := Option.some.inj h
        exact W.zret hx hb hr rfl (fun t ht hW => ⟨rfl, ht⟩) (fun _ h9 => nomatch h9) d_R_beginsNow_136
      · have h := if_f hc h
        refine lv_aload_n hx hb d_R_beginsNow_117 rfl (lv_at hl 1 rfl) ?_
        refine gf_R_35 hx hb hts hown hK hP d_R_beginsNow_118 ?_
        refine lv_aload_n hx hb d_R_beginsNow_121 rfl (lv_at hl 1 rfl) ?_
        refine gf_R_16 hx hb hts hown hK hP d_R_beginsNow_122 ?_
        refine lv_iload_n hx hb d_R_beginsNow_125 rfl (lv_at hl 2 rfl) ?_
        obtain ⟨hgd, h⟩ := gd_some h
        refine al_R_3 hx hb hK hP hgd d_R_beginsNow_126 ?_
        obtain ⟨hgd, h⟩ := gd_some h
        refine al_R_9 hx hb hK hP hgd d_R_beginsNow_127 ?_
        refine lv_if_eq (tgt := 135) hx hb d_R_beginsNow_128 rfl (fun hc => ?_) (fun hc => ?_)
        · have h := if_t hc h
          refine lv_iconst (v := 0) hx hb d_R_beginsNow_135 (by decide) ?_
          obtain rfl := Option.some.inj h
          exact W.zret hx hb hr rfl (fun t ht hW => ⟨rfl, ht⟩) (fun _ h9 => nomatch h9) d_R_beginsNow_136
        · have h := if_f hc h
          refine lv_iconst (v := 1) hx hb d_R_beginsNow_131 (by decide) ?_
          refine lv_goto (tgt := 136) hx hb d_R_beginsNow_132 rfl ?_
          obtain rfl := Option.some.inj h
          exact W.zret hx hb hr rfl (fun t ht hW => ⟨rfl, ht⟩) (fun _ h9 => nomatch h9) d_R_beginsNow_136
  have h := if_f hc3 h
  by_cases hc4 : (σ 1 a1.toNatClampNeg) = 5
  · have h := if_t hc4 h
    refine sw_in (tgt := 137) hx hb d_R_beginsNow_13 hc4 (by decide) (by decide) rfl rfl ?_
    refine lv_aload_n hx hb d_R_beginsNow_137 rfl (lv_at hl 1 rfl) ?_
    refine gf_R_35 hx hb hts hown hK hP d_R_beginsNow_138 ?_
    refine lv_iload_n hx hb d_R_beginsNow_141 rfl (lv_at hl 0 rfl) ?_
    obtain ⟨hgd, h⟩ := gd_some h
    refine al_R_9 hx hb hK hP hgd d_R_beginsNow_142 ?_
    refine lv_if_ne (tgt := 160) hx hb d_R_beginsNow_143 rfl (fun hc => ?_) (fun hc => ?_)
    · have h := if_f hc h
      refine lv_iconst (v := 1) hx hb d_R_beginsNow_160 (by decide) ?_
      refine lv_goto (tgt := 165) hx hb d_R_beginsNow_161 rfl ?_
      obtain rfl := Option.some.inj h
      exact W.zret hx hb hr rfl (fun t ht hW => ⟨rfl, ht⟩) (fun _ h9 => nomatch h9) d_R_beginsNow_165
    · have h := if_t hc h
      refine lv_aload_n hx hb d_R_beginsNow_146 rfl (lv_at hl 1 rfl) ?_
      refine gf_R_35 hx hb hts hown hK hP d_R_beginsNow_147 ?_
      refine lv_aload_n hx hb d_R_beginsNow_150 rfl (lv_at hl 1 rfl) ?_
      refine gf_R_16 hx hb hts hown hK hP d_R_beginsNow_151 ?_
      refine lv_iload_n hx hb d_R_beginsNow_154 rfl (lv_at hl 2 rfl) ?_
      obtain ⟨hgd, h⟩ := gd_some h
      refine al_R_3 hx hb hK hP hgd d_R_beginsNow_155 ?_
      obtain ⟨hgd, h⟩ := gd_some h
      refine al_R_9 hx hb hK hP hgd d_R_beginsNow_156 ?_
      refine lv_if_eq (tgt := 164) hx hb d_R_beginsNow_157 rfl (fun hc => ?_) (fun hc => ?_)
      · have h := if_t hc h
        refine lv_iconst (v := 0) hx hb d_R_beginsNow_164 (by decide) ?_
        obtain rfl := Option.some.inj h
        exact W.zret hx hb hr rfl (fun t ht hW => ⟨rfl, ht⟩) (fun _ h9 => nomatch h9) d_R_beginsNow_165
      · have h := if_f hc h
        refine lv_iconst (v := 1) hx hb d_R_beginsNow_160 (by decide) ?_
        refine lv_goto (tgt := 165) hx hb d_R_beginsNow_161 rfl ?_
        obtain rfl := Option.some.inj h
        exact W.zret hx hb hr rfl (fun t ht hW => ⟨rfl, ht⟩) (fun _ h9 => nomatch h9) d_R_beginsNow_165
  have h := if_f hc4 h
  by_cases hc5 : (σ 1 a1.toNatClampNeg) = 6
  · have h := if_t hc5 h
    refine sw_in (tgt := 166) hx hb d_R_beginsNow_13 hc5 (by decide) (by decide) rfl rfl ?_
    refine lv_aload_n hx hb d_R_beginsNow_166 rfl (lv_at hl 1 rfl) ?_
    refine gf_R_35 hx hb hts hown hK hP d_R_beginsNow_167 ?_
    refine lv_iload_n hx hb d_R_beginsNow_170 rfl (lv_at hl 0 rfl) ?_
    obtain ⟨hgd, h⟩ := gd_some h
    refine al_R_9 hx hb hK hP hgd d_R_beginsNow_171 ?_
    obtain ⟨hbo, h⟩ := bo_some h
    obtain rfl := Option.some.inj h
    exact W.zret hx hb hr (bo_nar hbo) (fun t ht hW => ⟨rfl, ht⟩) (fun _ h9 => nomatch h9) d_R_beginsNow_172
  have h := if_f hc5 h
  by_cases hc6 : (σ 1 a1.toNatClampNeg) = 7
  · have h := if_t hc6 h
    refine sw_in (tgt := 217) hx hb d_R_beginsNow_13 hc6 (by decide) (by decide) rfl rfl ?_
    refine lv_iconst (v := 0) hx hb d_R_beginsNow_217 (by decide) ?_
    obtain rfl := Option.some.inj h
    exact W.zret hx hb hr rfl (fun t ht hW => ⟨rfl, ht⟩) (fun _ h9 => nomatch h9) d_R_beginsNow_218
  have h := if_f hc6 h
  by_cases hc7 : (σ 1 a1.toNatClampNeg) = 8
  · have h := if_t hc7 h
    refine sw_in (tgt := 217) hx hb d_R_beginsNow_13 hc7 (by decide) (by decide) rfl rfl ?_
    refine lv_iconst (v := 0) hx hb d_R_beginsNow_217 (by decide) ?_
    obtain rfl := Option.some.inj h
    exact W.zret hx hb hr rfl (fun t ht hW => ⟨rfl, ht⟩) (fun _ h9 => nomatch h9) d_R_beginsNow_218
  have h := if_f hc7 h
  by_cases hc8 : (σ 1 a1.toNatClampNeg) = 9
  · have h := if_t hc8 h
    refine sw_in (tgt := 166) hx hb d_R_beginsNow_13 hc8 (by decide) (by decide) rfl rfl ?_
    refine lv_aload_n hx hb d_R_beginsNow_166 rfl (lv_at hl 1 rfl) ?_
    refine gf_R_35 hx hb hts hown hK hP d_R_beginsNow_167 ?_
    refine lv_iload_n hx hb d_R_beginsNow_170 rfl (lv_at hl 0 rfl) ?_
    obtain ⟨hgd, h⟩ := gd_some h
    refine al_R_9 hx hb hK hP hgd d_R_beginsNow_171 ?_
    obtain ⟨hbo, h⟩ := bo_some h
    obtain rfl := Option.some.inj h
    exact W.zret hx hb hr (bo_nar hbo) (fun t ht hW => ⟨rfl, ht⟩) (fun _ h9 => nomatch h9) d_R_beginsNow_172
  have h := if_f hc8 h
  by_cases hc9 : (σ 1 a1.toNatClampNeg) = 10
  · have h := if_t hc9 h
    refine sw_in (tgt := 99) hx hb d_R_beginsNow_13 hc9 (by decide) (by decide) rfl rfl ?_
    refine lv_aload_n hx hb d_R_beginsNow_99 rfl (lv_at hl 1 rfl) ?_
    refine gf_R_35 hx hb hts hown hK hP d_R_beginsNow_100 ?_
    refine lv_iload_n hx hb d_R_beginsNow_103 rfl (lv_at hl 0 rfl) ?_
    obtain ⟨hgd, h⟩ := gd_some h
    refine al_R_9 hx hb hK hP hgd d_R_beginsNow_104 ?_
    refine lv_if_ne (tgt := 131) hx hb d_R_beginsNow_105 rfl (fun hc => ?_) (fun hc => ?_)
    · have h := if_f hc h
      refine lv_iconst (v := 1) hx hb d_R_beginsNow_131 (by decide) ?_
      refine lv_goto (tgt := 136) hx hb d_R_beginsNow_132 rfl ?_
      obtain rfl := Option.some.inj h
      exact W.zret hx hb hr rfl (fun t ht hW => ⟨rfl, ht⟩) (fun _ h9 => nomatch h9) d_R_beginsNow_136
    · have h := if_t hc h
      refine lv_aload_n hx hb d_R_beginsNow_108 rfl (lv_at hl 1 rfl) ?_
      refine gf_R_31 hx hb hts hown hK hP d_R_beginsNow_109 ?_
      refine lv_iload_n hx hb d_R_beginsNow_112 rfl (lv_at hl 0 rfl) ?_
      obtain ⟨hgd, h⟩ := gd_some h
      refine al_R_8 hx hb hK hP hgd d_R_beginsNow_113 ?_
      refine lv_if_eq (tgt := 135) hx hb d_R_beginsNow_114 rfl (fun hc => ?_) (fun hc => ?_)
      · have h := if_t hc h
        refine lv_iconst (v := 0) hx hb d_R_beginsNow_135 (by decide) ?_
        obtain rfl := Option.some.inj h
        exact W.zret hx hb hr rfl (fun t ht hW => ⟨rfl, ht⟩) (fun _ h9 => nomatch h9) d_R_beginsNow_136
      · have h := if_f hc h
        refine lv_aload_n hx hb d_R_beginsNow_117 rfl (lv_at hl 1 rfl) ?_
        refine gf_R_35 hx hb hts hown hK hP d_R_beginsNow_118 ?_
        refine lv_aload_n hx hb d_R_beginsNow_121 rfl (lv_at hl 1 rfl) ?_
        refine gf_R_16 hx hb hts hown hK hP d_R_beginsNow_122 ?_
        refine lv_iload_n hx hb d_R_beginsNow_125 rfl (lv_at hl 2 rfl) ?_
        obtain ⟨hgd, h⟩ := gd_some h
        refine al_R_3 hx hb hK hP hgd d_R_beginsNow_126 ?_
        obtain ⟨hgd, h⟩ := gd_some h
        refine al_R_9 hx hb hK hP hgd d_R_beginsNow_127 ?_
        refine lv_if_eq (tgt := 135) hx hb d_R_beginsNow_128 rfl (fun hc => ?_) (fun hc => ?_)
        · have h := if_t hc h
          refine lv_iconst (v := 0) hx hb d_R_beginsNow_135 (by decide) ?_
          obtain rfl := Option.some.inj h
          exact W.zret hx hb hr rfl (fun t ht hW => ⟨rfl, ht⟩) (fun _ h9 => nomatch h9) d_R_beginsNow_136
        · have h := if_f hc h
          refine lv_iconst (v := 1) hx hb d_R_beginsNow_131 (by decide) ?_
          refine lv_goto (tgt := 136) hx hb d_R_beginsNow_132 rfl ?_
          obtain rfl := Option.some.inj h
          exact W.zret hx hb hr rfl (fun t ht hW => ⟨rfl, ht⟩) (fun _ h9 => nomatch h9) d_R_beginsNow_136
  have h := if_f hc9 h
  by_cases hc10 : (σ 1 a1.toNatClampNeg) = 11
  · have h := if_t hc10 h
    refine sw_in (tgt := 173) hx hb d_R_beginsNow_13 hc10 (by decide) (by decide) rfl rfl ?_
    refine lv_aload_n hx hb d_R_beginsNow_173 rfl (lv_at hl 1 rfl) ?_
    refine gf_R_25 hx hb hts hown hK hP d_R_beginsNow_174 ?_
    refine lv_iload_n hx hb d_R_beginsNow_177 rfl (lv_at hl 0 rfl) ?_
    obtain ⟨hgd, h⟩ := gd_some h
    refine al_R_6 hx hb hK hP hgd d_R_beginsNow_178 ?_
    refine lv_if_le (tgt := 215) hx hb d_R_beginsNow_179 rfl (fun hc => ?_) (fun hc => ?_)
    · have h := if_t hc h
      refine lv_iconst (v := 0) hx hb d_R_beginsNow_215 (by decide) ?_
      obtain rfl := Option.some.inj h
      exact W.zret hx hb hr rfl (fun t ht hW => ⟨rfl, ht⟩) (fun _ h9 => nomatch h9) d_R_beginsNow_216
    · have h := if_f hc h
      refine lv_aload_n hx hb d_R_beginsNow_182 rfl (lv_at hl 1 rfl) ?_
      refine gf_R_35 hx hb hts hown hK hP d_R_beginsNow_183 ?_
      refine lv_aload_n hx hb d_R_beginsNow_186 rfl (lv_at hl 1 rfl) ?_
      refine gf_R_25 hx hb hts hown hK hP d_R_beginsNow_187 ?_
      refine lv_iload_n hx hb d_R_beginsNow_190 rfl (lv_at hl 0 rfl) ?_
      obtain ⟨hgd, h⟩ := gd_some h
      refine al_R_6 hx hb hK hP hgd d_R_beginsNow_191 ?_
      refine lv_if_le (tgt := 206) hx hb d_R_beginsNow_192 rfl (fun hc => ?_) (fun hc => ?_)
      · have h := if_t hc h
        refine lv_iconst (v := 0) hx hb d_R_beginsNow_206 (by decide) ?_
        obtain ⟨hgd, h⟩ := gd_some h
        refine al_R_9 hx hb hK hP hgd d_R_beginsNow_207 ?_
        refine lv_if_eq (tgt := 215) hx hb d_R_beginsNow_208 rfl (fun hc => ?_) (fun hc => ?_)
        · have h := if_t hc h
          refine lv_iconst (v := 0) hx hb d_R_beginsNow_215 (by decide) ?_
          obtain rfl := Option.some.inj h
          exact W.zret hx hb hr rfl (fun t ht hW => ⟨rfl, ht⟩) (fun _ h9 => nomatch h9) d_R_beginsNow_216
        · have h := if_f hc h
          refine lv_iconst (v := 1) hx hb d_R_beginsNow_211 (by decide) ?_
          refine lv_goto (tgt := 216) hx hb d_R_beginsNow_212 rfl ?_
          obtain rfl := Option.some.inj h
          exact W.zret hx hb hr rfl (fun t ht hW => ⟨rfl, ht⟩) (fun _ h9 => nomatch h9) d_R_beginsNow_216
      · have h := if_f hc h
        refine lv_aload_n hx hb d_R_beginsNow_195 rfl (lv_at hl 1 rfl) ?_
        refine gf_R_25 hx hb hts hown hK hP d_R_beginsNow_196 ?_
        refine lv_iload_n hx hb d_R_beginsNow_199 rfl (lv_at hl 0 rfl) ?_
        obtain ⟨hgd, h⟩ := gd_some h
        refine al_R_6 hx hb hK hP hgd d_R_beginsNow_200 ?_
        refine lv_iconst (v := 1) hx hb d_R_beginsNow_201 (by decide) ?_
        refine lv_isub hx hb d_R_beginsNow_202 ?_
        refine lv_goto (tgt := 207) hx hb d_R_beginsNow_203 rfl ?_
        obtain ⟨hgd, h⟩ := gd_some h
        refine al_R_9 hx hb hK hP hgd d_R_beginsNow_207 ?_
        refine lv_if_eq (tgt := 215) hx hb d_R_beginsNow_208 rfl (fun hc => ?_) (fun hc => ?_)
        · have h := if_t hc h
          refine lv_iconst (v := 0) hx hb d_R_beginsNow_215 (by decide) ?_
          obtain rfl := Option.some.inj h
          exact W.zret hx hb hr rfl (fun t ht hW => ⟨rfl, ht⟩) (fun _ h9 => nomatch h9) d_R_beginsNow_216
        · have h := if_f hc h
          refine lv_iconst (v := 1) hx hb d_R_beginsNow_211 (by decide) ?_
          refine lv_goto (tgt := 216) hx hb d_R_beginsNow_212 rfl ?_
          obtain rfl := Option.some.inj h
          exact W.zret hx hb hr rfl (fun t ht hW => ⟨rfl, ht⟩) (fun _ h9 => nomatch h9) d_R_beginsNow_216
  have h := if_f hc10 h
  by_cases hc11 : (σ 1 a1.toNatClampNeg) = 12
  · have h := if_t hc11 h
    refine sw_in (tgt := 166) hx hb d_R_beginsNow_13 hc11 (by decide) (by decide) rfl rfl ?_
    refine lv_aload_n hx hb d_R_beginsNow_166 rfl (lv_at hl 1 rfl) ?_
    refine gf_R_35 hx hb hts hown hK hP d_R_beginsNow_167 ?_
    refine lv_iload_n hx hb d_R_beginsNow_170 rfl (lv_at hl 0 rfl) ?_
    obtain ⟨hgd, h⟩ := gd_some h
    refine al_R_9 hx hb hK hP hgd d_R_beginsNow_171 ?_
    obtain ⟨hbo, h⟩ := bo_some h
    obtain rfl := Option.some.inj h
    exact W.zret hx hb hr (bo_nar hbo) (fun t ht hW => ⟨rfl, ht⟩) (fun _ h9 => nomatch h9) d_R_beginsNow_172
  have h := if_f hc11 h
  refine lv_tableOut (tgt := 217) hx hb d_R_beginsNow_13 (by have q0 := lv_neT hc0 (a := 1) (by decide); have q1 := lv_neT hc1 (a := 2) (by decide); have q2 := lv_neT hc2 (a := 3) (by decide); have q3 := lv_neT hc3 (a := 4) (by decide); have q4 := lv_neT hc4 (a := 5) (by decide); have q5 := lv_neT hc5 (a := 6) (by decide); have q6 := lv_neT hc6 (a := 7) (by decide); have q7 := lv_neT hc7 (a := 8) (by decide); have q8 := lv_neT hc8 (a := 9) (by decide); have q9 := lv_neT hc9 (a := 10) (by decide); have q10 := lv_neT hc10 (a := 11) (by decide); have q11 := lv_neT hc11 (a := 12) (by decide); omega) rfl ?_
  refine lv_iconst (v := 0) hx hb d_R_beginsNow_217 (by decide) ?_
  obtain rfl := Option.some.inj h
  exact W.zret hx hb hr rfl (fun t ht hW => ⟨rfl, ht⟩) (fun _ h9 => nomatch h9) d_R_beginsNow_218
def y_R_findBeginning : MethodName := ⟨"StagedParsersModel", "findBeginning", "(I)V"⟩
def w_R_findBeginning : List Cond := .code y_R_findBeginning prog_9_method_16_code 5 none :: AW_
def rm_R_findBeginning : Room := { frames := 2, cells := 0, slots := 0, locals := 45 }
theorem d_R_findBeginning_0 : decode prog_9_method_16_code 0 = .ok (.aload_n 0, 1) := by decide +kernel
theorem d_R_findBeginning_1 : decode prog_9_method_16_code 1 = .ok (.invokevirtual 109, 3) := by decide +kernel
theorem d_R_findBeginning_4 : decode prog_9_method_16_code 4 = .ok (.iconst 0, 1) := by decide +kernel
theorem d_R_findBeginning_5 : decode prog_9_method_16_code 5 = .ok (.istore_n 2, 1) := by decide +kernel
theorem d_R_findBeginning_6 : decode prog_9_method_16_code 6 = .ok (.iload_n 2, 1) := by decide +kernel
theorem d_R_findBeginning_7 : decode prog_9_method_16_code 7 = .ok (.aload_n 0, 1) := by decide +kernel
theorem d_R_findBeginning_8 : decode prog_9_method_16_code 8 = .ok (.getfield 69, 3) := by decide +kernel
theorem d_R_findBeginning_11 : decode prog_9_method_16_code 11 = .ok (.if_icmp .ge 16, 3) := by decide +kernel
theorem d_R_findBeginning_14 : decode prog_9_method_16_code 14 = .ok (.aload_n 0, 1) := by decide +kernel
theorem d_R_findBeginning_15 : decode prog_9_method_16_code 15 = .ok (.getfield 35, 3) := by decide +kernel
theorem d_R_findBeginning_18 : decode prog_9_method_16_code 18 = .ok (.iload_n 2, 1) := by decide +kernel
theorem d_R_findBeginning_19 : decode prog_9_method_16_code 19 = .ok (.iconst 0, 1) := by decide +kernel
theorem d_R_findBeginning_20 : decode prog_9_method_16_code 20 = .ok (.bastore, 1) := by decide +kernel
theorem d_R_findBeginning_21 : decode prog_9_method_16_code 21 = .ok (.iinc 2 1, 3) := by decide +kernel
theorem d_R_findBeginning_24 : decode prog_9_method_16_code 24 = .ok (.goto (-18), 3) := by decide +kernel
theorem d_R_findBeginning_27 : decode prog_9_method_16_code 27 = .ok (.iconst 1, 1) := by decide +kernel
theorem d_R_findBeginning_28 : decode prog_9_method_16_code 28 = .ok (.istore_n 2, 1) := by decide +kernel
theorem d_R_findBeginning_29 : decode prog_9_method_16_code 29 = .ok (.iload_n 2, 1) := by decide +kernel
theorem d_R_findBeginning_30 : decode prog_9_method_16_code 30 = .ok (.ifCond .eq 61, 3) := by decide +kernel
theorem d_R_findBeginning_33 : decode prog_9_method_16_code 33 = .ok (.iconst 0, 1) := by decide +kernel
theorem d_R_findBeginning_34 : decode prog_9_method_16_code 34 = .ok (.istore_n 2, 1) := by decide +kernel
theorem d_R_findBeginning_35 : decode prog_9_method_16_code 35 = .ok (.iconst 0, 1) := by decide +kernel
theorem d_R_findBeginning_36 : decode prog_9_method_16_code 36 = .ok (.istore_n 3, 1) := by decide +kernel
theorem d_R_findBeginning_37 : decode prog_9_method_16_code 37 = .ok (.iload_n 3, 1) := by decide +kernel
theorem d_R_findBeginning_38 : decode prog_9_method_16_code 38 = .ok (.aload_n 0, 1) := by decide +kernel
theorem d_R_findBeginning_39 : decode prog_9_method_16_code 39 = .ok (.getfield 69, 3) := by decide +kernel
theorem d_R_findBeginning_42 : decode prog_9_method_16_code 42 = .ok (.if_icmp .ge 46, 3) := by decide +kernel
theorem d_R_findBeginning_45 : decode prog_9_method_16_code 45 = .ok (.aload_n 0, 1) := by decide +kernel
theorem d_R_findBeginning_46 : decode prog_9_method_16_code 46 = .ok (.iload_n 3, 1) := by decide +kernel
theorem d_R_findBeginning_47 : decode prog_9_method_16_code 47 = .ok (.iload_n 1, 1) := by decide +kernel
theorem d_R_findBeginning_48 : decode prog_9_method_16_code 48 = .ok (.invokevirtual 112, 3) := by decide +kernel
theorem d_R_findBeginning_51 : decode prog_9_method_16_code 51 = .ok (.istore 4, 2) := by decide +kernel
theorem d_R_findBeginning_53 : decode prog_9_method_16_code 53 = .ok (.iload_n 2, 1) := by decide +kernel
theorem d_R_findBeginning_54 : decode prog_9_method_16_code 54 = .ok (.ifCond .ne 14, 3) := by decide +kernel
theorem d_R_findBeginning_57 : decode prog_9_method_16_code 57 = .ok (.iload 4, 2) := by decide +kernel
theorem d_R_findBeginning_59 : decode prog_9_method_16_code 59 = .ok (.aload_n 0, 1) := by decide +kernel
theorem d_R_findBeginning_60 : decode prog_9_method_16_code 60 = .ok (.getfield 35, 3) := by decide +kernel
theorem d_R_findBeginning_63 : decode prog_9_method_16_code 63 = .ok (.iload_n 3, 1) := by decide +kernel
theorem d_R_findBeginning_64 : decode prog_9_method_16_code 64 = .ok (.baload, 1) := by decide +kernel
theorem d_R_findBeginning_65 : decode prog_9_method_16_code 65 = .ok (.if_icmp .eq 7, 3) := by decide +kernel
theorem d_R_findBeginning_68 : decode prog_9_method_16_code 68 = .ok (.iconst 1, 1) := by decide +kernel
theorem d_R_findBeginning_69 : decode prog_9_method_16_code 69 = .ok (.goto 4, 3) := by decide +kernel
theorem d_R_findBeginning_72 : decode prog_9_method_16_code 72 = .ok (.iconst 0, 1) := by decide +kernel
theorem d_R_findBeginning_73 : decode prog_9_method_16_code 73 = .ok (.istore_n 2, 1) := by decide +kernel
theorem d_R_findBeginning_74 : decode prog_9_method_16_code 74 = .ok (.aload_n 0, 1) := by decide +kernel
theorem d_R_findBeginning_75 : decode prog_9_method_16_code 75 = .ok (.getfield 35, 3) := by decide +kernel
theorem d_R_findBeginning_78 : decode prog_9_method_16_code 78 = .ok (.iload_n 3, 1) := by decide +kernel
theorem d_R_findBeginning_79 : decode prog_9_method_16_code 79 = .ok (.iload 4, 2) := by decide +kernel
theorem d_R_findBeginning_81 : decode prog_9_method_16_code 81 = .ok (.bastore, 1) := by decide +kernel
theorem d_R_findBeginning_82 : decode prog_9_method_16_code 82 = .ok (.iinc 3 1, 3) := by decide +kernel
theorem d_R_findBeginning_85 : decode prog_9_method_16_code 85 = .ok (.goto (-48), 3) := by decide +kernel
theorem d_R_findBeginning_88 : decode prog_9_method_16_code 88 = .ok (.goto (-59), 3) := by decide +kernel
theorem d_R_findBeginning_91 : decode prog_9_method_16_code 91 = .ok (.return_, 1) := by decide +kernel
section RW
variable {p : Program} {l : Launch} {e : Env} {R : Room} {s : State} {m : MethodId} {args : Array Value} {below : List Frame} {meth : Method} {c : Code} {H : Heap} {locs : List Loc} {cells slots : Nat} {Q : State → Prop}
variable {cc : ByteArray} {pc : Nat} {ls : Array Slot} {rest : List Value} {dC : Nat → ClassId} {dI : Nat → Nat → Nat} {q : Nat → Nat} {cA : Nat → ClassId} {σ : MZ_} {H0 : Heap} {A : Nat → Prop}

theorem cw_R_109 (hts : ∀ w ∈ AW_, w.before args s = true) (hR : rm_R_findEmpty.frames + 1 ≤ R.frames ∧ 8 + (4 + 11) + rm_R_findEmpty.locals ≤ R.locals) : CallW R s args "StagedParsersModel" "StagedParsersModel" 109 y_R_findEmpty prog_9_method_14_code 4 none w_R_findEmpty rm_R_findEmpty 0 0 0 :=
  ⟨callB_of 0 hts (aw_in kw_962) rfl rfl rfl (hts _ kw_9) (hts _ kw_959) ⟨by decide, by decide, by decide +kernel⟩ hR, hts _ kw_961, hts _ ks_45⟩
theorem cw_R_112 (hts : ∀ w ∈ AW_, w.before args s = true) (hR : rm_R_beginsNow.frames + 1 ≤ R.frames ∧ 8 + (4 + 11) + rm_R_beginsNow.locals ≤ R.locals) : CallW R s args "StagedParsersModel" "StagedParsersModel" 112 y_R_beginsNow prog_9_method_15_code 4 (some .boolean) w_R_beginsNow rm_R_beginsNow 0 0 2 :=
  ⟨callB_of 2 hts (aw_in kw_978) rfl rfl rfl (hts _ kw_9) (hts _ kw_975) ⟨by decide, by decide, by decide +kernel⟩ hR, hts _ kw_977, hts _ ks_48⟩
end RW
def f_R_findBeginning_L37 (k : MZ_ → Int32 → Int32 → Option (MZ_)) : Nat → MZ_ → Int32 → Int32 → Int32 → Option (MZ_)
  | 0, _, _, _, _ => none
  | N + 1, σ, x1, x2, x3 => if (σ 31 0) ≤ x3 then k σ x1 x2
    else (f_R_beginsNow σ x3 x1).bind fun r2 => if x2 = 0 then gd_ x3 80 (if r2 = (σ 9 x3.toNatClampNeg) then gd_ x3 80 (st_ (va_up σ 9 (upd (σ 9) x3.toNatClampNeg (vp_nar .boolean r2))) fun σ3 => f_R_findBeginning_L37 k N σ3 x1 0 (x3 + 1))
      else gd_ x3 80 (st_ (va_up σ 9 (upd (σ 9) x3.toNatClampNeg (vp_nar .boolean r2))) fun σ4 => f_R_findBeginning_L37 k N σ4 x1 1 (x3 + 1)))
    else gd_ x3 80 (st_ (va_up σ 9 (upd (σ 9) x3.toNatClampNeg (vp_nar .boolean r2))) fun σ2 => f_R_findBeginning_L37 k N σ2 x1 1 (x3 + 1))
def f_R_findBeginning_L29 : Nat → MZ_ → Int32 → Int32 → Option (MZ_)
  | 0, _, _, _ => none
  | N + 1, σ, x1, x2 => if x2 = 0 then some σ
    else f_R_findBeginning_L37 (fun σ x1 x2 => f_R_findBeginning_L29 N σ x1 x2) 100 σ x1 0 0
def f_R_findBeginning_L6 : Nat → MZ_ → Int32 → Int32 → Option (MZ_)
  | 0, _, _, _ => none
  | N + 1, σ, x1, x2 => if (σ 31 0) ≤ x2 then f_R_findBeginning_L29 100 σ x1 1
    else gd_ x2 80 (st_ (va_up σ 9 (upd (σ 9) x2.toNatClampNeg (vp_nar .boolean 0))) fun σ1 => f_R_findBeginning_L6 N σ1 x1 (x2 + 1))
def f_R_findBeginning (σ : MZ_) (a1 : Int32) : Option (MZ_) :=
  (f_R_findEmpty σ).bind fun u1 => f_R_findBeginning_L6 100 u1 a1 0
set_option maxHeartbeats 4000000 in
set_option maxRecDepth 100000 in
theorem c_R_findBeginning (l : Launch) (dC : Nat → ClassId) (dI : Nat → Nat → Nat) (q : Nat → Nat) (cA : Nat → ClassId) (σ : MZ_) (a1 : Int32) (u : MZ_) (h : f_R_findBeginning σ a1 = some u) : Met l y_R_findBeginning w_R_findBeginning rm_R_findBeginning (va_Pc [.ref (q 0), .int a1] (PRx_ dC dI q cA σ)) (QW_ none (fun H => va_P (dC, dI) cls_ (wR q cA u) H) (AR q)) 0 0 (AR q) := by
  refine Met.ofW (cc := prog_9_method_16_code) (maxL := 5) (ret := none) (by decide) rfl ?_
  intro p e s m args below meth c s₁ B hml hv
  obtain ⟨rfl, hP, hK, hD, hN, hZ⟩ := hv
  have hx := B.exec
  have hb := B.bytes
  have hr := B.returns
  have hts : ∀ w ∈ AW_, w.before _ s = true := fun w h => atoms_spec (ws := w_R_findBeginning) B.pre w (List.mem_cons_of_mem _ h)
  have hown : s.vm.findClass "StagedParsersModel" = some m.cls := findClass_of_methodNamed B.named
  have hlocks := B.notSynchronized
  have hS : va_S (AR q) s.heap s.heap [] := va_S.rf
  have hl := lv_entry ([.ref (q 0), .int a1]) (n := 5) (Nat.le_of_ble_eq_true rfl)
  rw [lg_entry_eq]
  generalize (lg_sl ([.ref (q 0), .int a1]) ++ List.replicate (5 - (lg_sl ([.ref (q 0), .int a1])).length) Slot.unset).toArray = ls at hl ⊢
  have hl : lv_has ls 5 [(0, .ref (q 0)), (1, .int a1)] := hl
  have L29 : ∀ (N29 : Nat) (σ : MZ_) (x1 : Int32) (x2 : Int32), f_R_findBeginning_L29 N29 σ x1 x2 = some u → ∀ (H : Heap) (locs : List Loc) (ls : Array Slot), va_P (dC, dI) cls_ (wR q cA σ) H → va_S (AR q) s.heap H locs → lv_has ls 5 [(0, .ref (q 0)), (1, .int x1), (2, .int x2)] → W p l e (headSpec w_R_findBeginning rm_R_findBeginning).room s m ([.ref (q 0), .int a1] : List Value).toArray below meth c H locs 0 0 (MQ below (QW_ none (fun H => va_P (dC, dI) cls_ (wR q cA u) H) (AR q)) ([.ref (q 0), .int a1] : List Value).toArray s 0 0 (AR q)) (F0 m 29 ls []) := by
    intro N29
    induction N29 with
    | zero => intro σ x1 x2 h; cases h
    | succ N29 ih29 =>
      intro σ x1 x2 h H locs ls hP hS hl
      have hD : va_D (AR q) (wR q cA σ) := dd_re (wR_f _ _ _ _) hD
      rw [f_R_findBeginning_L29] at h
      refine lv_iload_n hx hb d_R_findBeginning_29 rfl (lv_at hl 2 rfl) ?_
      refine lv_if_eq (tgt := 91) hx hb d_R_findBeginning_30 rfl (fun hc => ?_) (fun hc => ?_)
      · have h := if_t hc h
        obtain rfl := Option.some.inj h
        exact W.vret hx hb hr (fun t ht hW => ⟨rfl, by rw [ht]; exact hP, hS.F ht⟩) hS.2.2 d_R_findBeginning_91
      · have h := if_f hc h
        refine lv_iconst (v := 0) hx hb d_R_findBeginning_33 (by decide) ?_
        refine lv_istore_n hx hb d_R_findBeginning_34 rfl hl (by decide) rfl (fun ls hl => ?_)
        have hl : lv_has ls 5 [(2, .int 0), (0, .ref (q 0)), (1, .int x1)] := hl
        refine lv_iconst (v := 0) hx hb d_R_findBeginning_35 (by decide) ?_
        refine lv_istore_n hx hb d_R_findBeginning_36 rfl hl (by decide) rfl (fun ls hl => ?_)
        have hl : lv_has ls 5 [(3, .int 0), (2, .int 0), (0, .ref (q 0)), (1, .int x1)] := hl
        have L37 : ∀ (N37 : Nat) (σ : MZ_) (x1 : Int32) (x2 : Int32) (x3 : Int32), f_R_findBeginning_L37 (fun σ x1 x2 => f_R_findBeginning_L29 N29 σ x1 x2) N37 σ x1 x2 x3 = some u → ∀ (H : Heap) (locs : List Loc) (ls : Array Slot), va_P (dC, dI) cls_ (wR q cA σ) H → va_S (AR q) s.heap H locs → lv_has ls 5 [(0, .ref (q 0)), (1, .int x1), (2, .int x2), (3, .int x3)] → W p l e (headSpec w_R_findBeginning rm_R_findBeginning).room s m ([.ref (q 0), .int a1] : List Value).toArray below meth c H locs 0 0 (MQ below (QW_ none (fun H => va_P (dC, dI) cls_ (wR q cA u) H) (AR q)) ([.ref (q 0), .int a1] : List Value).toArray s 0 0 (AR q)) (F0 m 37 ls []) := by
          intro N37
          induction N37 with
          | zero => intro σ x1 x2 x3 h; cases h
          | succ N37 ih37 =>
            intro σ x1 x2 x3 h H locs ls hP hS hl
            have hD : va_D (AR q) (wR q cA σ) := dd_re (wR_f _ _ _ _) hD
            rw [f_R_findBeginning_L37] at h
            refine lv_iload_n hx hb d_R_findBeginning_37 rfl (lv_at hl 3 rfl) ?_
            refine lv_aload_n hx hb d_R_findBeginning_38 rfl (lv_at hl 0 rfl) ?_
            refine gf_R_69 hx hb hts hown hK hP d_R_findBeginning_39 ?_
            refine lv_icmp_ge (tgt := 88) hx hb d_R_findBeginning_42 rfl (fun hc => ?_) (fun hc => ?_)
            · have h := if_t hc h
              refine lv_goto (tgt := 29) hx hb d_R_findBeginning_88 rfl ?_
              exact ih29 _ _ _ h _ _ _ hP hS (lv_sub hl [0, 1, 2] rfl)
            · have h := if_f hc h
              refine lv_aload_n hx hb d_R_findBeginning_45 rfl (lv_at hl 0 rfl) ?_
              refine lv_iload_n hx hb d_R_findBeginning_46 rfl (lv_at hl 3 rfl) ?_
              refine lv_iload_n hx hb d_R_findBeginning_47 rfl (lv_at hl 1 rfl) ?_
              obtain ⟨r2, hcl, h⟩ := bd_some h
              refine cx_read (va_runV (As := [.int x3, .int x1]) (rest := []) ⟨hx, hb, hml, hown, hts⟩ (c_R_beginsNow l dC dI q cA σ x3 x1 _ hcl) (cw_R_112 hts ⟨Nat.le_of_ble_eq_true rfl, Nat.le_of_ble_eq_true rfl⟩) ⟨pxR_B, va_recv hK hP (ci := 7) (q0 := 0) rfl rfl, pxR_U hP hK hD hN hZ hS⟩ rfl rfl hl.1 rfl (lv_room (Nat.le_of_ble_eq_true rfl)) d_R_findBeginning_48 ⟨Nat.zero_le _, Nat.zero_le _⟩) ?_
              refine lv_istore hx hb d_R_findBeginning_51 hl (by decide) rfl (fun ls hl => ?_)
              have hl : lv_has ls 5 [(4, .int r2), (0, .ref (q 0)), (1, .int x1), (2, .int x2), (3, .int x3)] := hl
              refine lv_iload_n hx hb d_R_findBeginning_53 rfl (lv_at hl 3 rfl) ?_
              refine lv_if_ne (tgt := 68) hx hb d_R_findBeginning_54 rfl (fun hc => ?_) (fun hc => ?_)
              · have h := if_f hc h
                refine lv_iconst (v := 1) hx hb d_R_findBeginning_68 (by decide) ?_
                refine lv_goto (tgt := 73) hx hb d_R_findBeginning_69 rfl ?_
                refine lv_istore_n hx hb d_R_findBeginning_73 rfl hl (by decide) rfl (fun ls hl => ?_)
                have hl : lv_has ls 5 [(2, .int 1), (4, .int r2), (0, .ref (q 0)), (1, .int x1), (3, .int x3)] := hl
                refine lv_aload_n hx hb d_R_findBeginning_74 rfl (lv_at hl 2 rfl) ?_
                refine gf_R_35 hx hb hts hown hK hP d_R_findBeginning_75 ?_
                refine lv_iload_n hx hb d_R_findBeginning_78 rfl (lv_at hl 4 rfl) ?_
                refine lv_iload hx hb d_R_findBeginning_79 (lv_at hl 1 rfl) ?_
                obtain ⟨hgd, h⟩ := gd_some h
                refine as_R_9 hx hb hK hP hD hS hgd d_R_findBeginning_81 (fun H locs hP hS => ?_)
                obtain ⟨σ2, eσ2, h⟩ := st_some h
                rw [← eσ2] at hP
                have hD : va_D (AR q) (wR q cA σ2) := dd_re (wR_f _ _ _ _) hD
                refine lv_iinc (v := x3 + 1) hx hb d_R_findBeginning_82 hl (k := 4) rfl rfl (by decide) rfl (fun ls hl => ?_)
                have hl : lv_has ls 5 [(3, .int (x3 + 1)), (2, .int 1), (4, .int r2), (0, .ref (q 0)), (1, .int x1)] := hl
                refine lv_goto (tgt := 37) hx hb d_R_findBeginning_85 rfl ?_
                exact ih37 _ _ _ _ h _ _ _ hP hS (lv_sub hl [3, 4, 1, 0] rfl)
              · have h := if_t hc h
                refine lv_iload hx hb d_R_findBeginning_57 (lv_at hl 0 rfl) ?_
                refine lv_aload_n hx hb d_R_findBeginning_59 rfl (lv_at hl 1 rfl) ?_
                refine gf_R_35 hx hb hts hown hK hP d_R_findBeginning_60 ?_
                refine lv_iload_n hx hb d_R_findBeginning_63 rfl (lv_at hl 4 rfl) ?_
                obtain ⟨hgd, h⟩ := gd_some h
                refine al_R_9 hx hb hK hP hgd d_R_findBeginning_64 ?_
                refine lv_icmp_eq (tgt := 72) hx hb d_R_findBeginning_65 rfl (fun hc => ?_) (fun hc => ?_)
                · have h := if_t hc h
                  refine lv_iconst (v := 0) hx hb d_R_findBeginning_72 (by decide) ?_
                  refine lv_istore_n hx hb d_R_findBeginning_73 rfl hl (by decide) rfl (fun ls hl => ?_)
                  have hl : lv_has ls 5 [(2, .int 0), (4, .int r2), (0, .ref (q 0)), (1, .int x1), (3, .int x3)] := hl
                  refine lv_aload_n hx hb d_R_findBeginning_74 rfl (lv_at hl 2 rfl) ?_
                  refine gf_R_35 hx hb hts hown hK hP d_R_findBeginning_75 ?_
                  refine lv_iload_n hx hb d_R_findBeginning_78 rfl (lv_at hl 4 rfl) ?_
                  refine lv_iload hx hb d_R_findBeginning_79 (lv_at hl 1 rfl) ?_
                  obtain ⟨hgd, h⟩ := gd_some h
                  refine as_R_9 hx hb hK hP hD hS hgd d_R_findBeginning_81 (fun H locs hP hS => ?_)
                  obtain ⟨σ3, eσ3, h⟩ := st_some h
                  rw [← eσ3] at hP
                  have hD : va_D (AR q) (wR q cA σ3) := dd_re (wR_f _ _ _ _) hD
                  refine lv_iinc (v := x3 + 1) hx hb d_R_findBeginning_82 hl (k := 4) rfl rfl (by decide) rfl (fun ls hl => ?_)
                  have hl : lv_has ls 5 [(3, .int (x3 + 1)), (2, .int 0), (4, .int r2), (0, .ref (q 0)), (1, .int x1)] := hl
                  refine lv_goto (tgt := 37) hx hb d_R_findBeginning_85 rfl ?_
                  exact ih37 _ _ _ _ h _ _ _ hP hS (lv_sub hl [3, 4, 1, 0] rfl)
                · have h := if_f hc h
                  refine lv_iconst (v := 1) hx hb d_R_findBeginning_68 (by decide) ?_
                  refine lv_goto (tgt := 73) hx hb d_R_findBeginning_69 rfl ?_
                  refine lv_istore_n hx hb d_R_findBeginning_73 rfl hl (by decide) rfl (fun ls hl => ?_)
                  have hl : lv_has ls 5 [(2, .int 1), (4, .int r2), (0, .ref (q 0)), (1, .int x1), (3, .int x3)] := hl
                  refine lv_aload_n hx hb d_R_findBeginning_74 rfl (lv_at hl 2 rfl) ?_
                  refine gf_R_35 hx hb hts hown hK hP d_R_findBeginning_75 ?_
                  refine lv_iload_n hx hb d_R_findBeginning_78 rfl (lv_at hl 4 rfl) ?_
                  refine lv_iload hx hb d_R_findBeginning_79 (lv_at hl 1 rfl) ?_
                  obtain ⟨hgd, h⟩ := gd_some h
                  refine as_R_9 hx hb hK hP hD hS hgd d_R_findBeginning_81 (fun H locs hP hS => ?_)
                  obtain ⟨σ4, eσ4, h⟩ := st_some h
                  rw [← eσ4] at hP
                  have hD : va_D (AR q) (wR q cA σ4) := dd_re (wR_f _ _ _ _) hD
                  refine lv_iinc (v := x3 + 1) hx hb d_R_findBeginning_82 hl (k := 4) rfl rfl (by decide) rfl (fun ls hl => ?_)
                  have hl : lv_has ls 5 [(3, .int (x3 + 1)), (2, .int 1), (4, .int r2), (0, .ref (q 0)), (1, .int x1)] := hl
                  refine lv_goto (tgt := 37) hx hb d_R_findBeginning_85 rfl ?_
                  exact ih37 _ _ _ _ h _ _ _ hP hS (lv_sub hl [3, 4, 1, 0] rfl)
        exact L37 _ _ _ _ _ h _ _ _ hP hS (lv_sub hl [2, 3, 1, 0] rfl)
  have L6 : ∀ (N6 : Nat) (σ : MZ_) (x1 : Int32) (x2 : Int32), f_R_findBeginning_L6 N6 σ x1 x2 = some u → ∀ (H : Heap) (locs : List Loc) (ls : Array Slot), va_P (dC, dI) cls_ (wR q cA σ) H → va_S (AR q) s.heap H locs → lv_has ls 5 [(0, .ref (q 0)), (1, .int x1), (2, .int x2)] → W p l e (headSpec w_R_findBeginning rm_R_findBeginning).room s m ([.ref (q 0), .int a1] : List Value).toArray below meth c H locs 0 0 (MQ below (QW_ none (fun H => va_P (dC, dI) cls_ (wR q cA u) H) (AR q)) ([.ref (q 0), .int a1] : List Value).toArray s 0 0 (AR q)) (F0 m 6 ls []) := by
    intro N6
    induction N6 with
    | zero => intro σ x1 x2 h; cases h
    | succ N6 ih6 =>
      intro σ x1 x2 h H locs ls hP hS hl
      have hD : va_D (AR q) (wR q cA σ) := dd_re (wR_f _ _ _ _) hD
      rw [f_R_findBeginning_L6] at h
      refine lv_iload_n hx hb d_R_findBeginning_6 rfl (lv_at hl 2 rfl) ?_
      refine lv_aload_n hx hb d_R_findBeginning_7 rfl (lv_at hl 0 rfl) ?_
      refine gf_R_69 hx hb hts hown hK hP d_R_findBeginning_8 ?_
      refine lv_icmp_ge (tgt := 27) hx hb d_R_findBeginning_11 rfl (fun hc => ?_) (fun hc => ?_)
      · have h := if_t hc h
        refine lv_iconst (v := 1) hx hb d_R_findBeginning_27 (by decide) ?_
        refine lv_istore_n hx hb d_R_findBeginning_28 rfl hl (by decide) rfl (fun ls hl => ?_)
        have hl : lv_has ls 5 [(2, .int 1), (0, .ref (q 0)), (1, .int x1)] := hl
        exact L29 _ _ _ _ h _ _ _ hP hS (lv_sub hl [1, 2, 0] rfl)
      · have h := if_f hc h
        refine lv_aload_n hx hb d_R_findBeginning_14 rfl (lv_at hl 0 rfl) ?_
        refine gf_R_35 hx hb hts hown hK hP d_R_findBeginning_15 ?_
        refine lv_iload_n hx hb d_R_findBeginning_18 rfl (lv_at hl 2 rfl) ?_
        refine lv_iconst (v := 0) hx hb d_R_findBeginning_19 (by decide) ?_
        obtain ⟨hgd, h⟩ := gd_some h
        refine as_R_9 hx hb hK hP hD hS hgd d_R_findBeginning_20 (fun H locs hP hS => ?_)
        obtain ⟨σ1, eσ1, h⟩ := st_some h
        rw [← eσ1] at hP
        have hD : va_D (AR q) (wR q cA σ1) := dd_re (wR_f _ _ _ _) hD
        refine lv_iinc (v := x2 + 1) hx hb d_R_findBeginning_21 hl (k := 2) rfl rfl (by decide) rfl (fun ls hl => ?_)
        have hl : lv_has ls 5 [(2, .int (x2 + 1)), (0, .ref (q 0)), (1, .int x1)] := hl
        refine lv_goto (tgt := 6) hx hb d_R_findBeginning_24 rfl ?_
        exact ih6 _ _ _ h _ _ _ hP hS (lv_sub hl [1, 2, 0] rfl)
  rw [f_R_findBeginning] at h
  refine lv_aload_n hx hb d_R_findBeginning_0 rfl (lv_at hl 0 rfl) ?_
  obtain ⟨u1, hcl, h⟩ := bd_some h
  refine cx_wrv (va_runV (As := []) (rest := []) ⟨hx, hb, hml, hown, hts⟩ (c_R_findEmpty l dC dI q cA σ _ hcl) (cw_R_109 hts ⟨Nat.le_of_ble_eq_true rfl, Nat.le_of_ble_eq_true rfl⟩) ⟨pxR_B, va_recv hK hP (ci := 7) (q0 := 0) rfl rfl, pxR_U hP hK hD hN hZ hS⟩ rfl rfl hl.1 rfl (lv_room (Nat.le_of_ble_eq_true rfl)) d_R_findBeginning_1 ⟨Nat.zero_le _, Nat.zero_le _⟩) hS (fun _ h => h) (fun H locs hP hS => ?_)
  have hD : va_D (AR q) (wR q cA u1) := dd_re (wR_f _ _ _ _) hD
  refine lv_iconst (v := 0) hx hb d_R_findBeginning_4 (by decide) ?_
  refine lv_istore_n hx hb d_R_findBeginning_5 rfl hl (by decide) rfl (fun ls hl => ?_)
  have hl : lv_has ls 5 [(2, .int 0), (0, .ref (q 0)), (1, .int a1)] := hl
  exact L6 _ _ _ _ h _ _ _ hP hS (lv_sub hl [1, 2, 0] rfl)
def y_R_leadsNow : MethodName := ⟨"StagedParsersModel", "leadsNow", "(I)I"⟩
def w_R_leadsNow : List Cond := .code y_R_leadsNow prog_9_method_17_code 3 (some .int) :: AW_
def rm_R_leadsNow : Room := { frames := 0, cells := 0, slots := 0, locals := 0 }
theorem d_R_leadsNow_0 : decode prog_9_method_17_code 0 = .ok (.aload_n 0, 1) := by decide +kernel
theorem d_R_leadsNow_1 : decode prog_9_method_17_code 1 = .ok (.getfield 13, 3) := by decide +kernel
theorem d_R_leadsNow_4 : decode prog_9_method_17_code 4 = .ok (.iload_n 1, 1) := by decide +kernel
theorem d_R_leadsNow_5 : decode prog_9_method_17_code 5 = .ok (.iaload, 1) := by decide +kernel
theorem d_R_leadsNow_6 : decode prog_9_method_17_code 6 = .ok (.istore_n 2, 1) := by decide +kernel
theorem d_R_leadsNow_7 : decode prog_9_method_17_code 7 = .ok (.aload_n 0, 1) := by decide +kernel
theorem d_R_leadsNow_8 : decode prog_9_method_17_code 8 = .ok (.getfield 7, 3) := by decide +kernel
theorem d_R_leadsNow_11 : decode prog_9_method_17_code 11 = .ok (.iload_n 1, 1) := by decide +kernel
theorem d_R_leadsNow_12 : decode prog_9_method_17_code 12 = .ok (.iaload, 1) := by decide +kernel
theorem d_R_leadsNow_13 : decode prog_9_method_17_code 13 = .ok (.tableswitch 118 4 12 #[55, 92, 111, 111, 111, 111, 55, 51, 111], 51) := by decide +kernel
theorem d_R_leadsNow_64 : decode prog_9_method_17_code 64 = .ok (.iconst 1, 1) := by decide +kernel
theorem d_R_leadsNow_65 : decode prog_9_method_17_code 65 = .ok (.iload_n 2, 1) := by decide +kernel
theorem d_R_leadsNow_66 : decode prog_9_method_17_code 66 = .ok (.ishl, 1) := by decide +kernel
theorem d_R_leadsNow_67 : decode prog_9_method_17_code 67 = .ok (.ireturn, 1) := by decide +kernel
theorem d_R_leadsNow_68 : decode prog_9_method_17_code 68 = .ok (.aload_n 0, 1) := by decide +kernel
theorem d_R_leadsNow_69 : decode prog_9_method_17_code 69 = .ok (.getfield 31, 3) := by decide +kernel
theorem d_R_leadsNow_72 : decode prog_9_method_17_code 72 = .ok (.iload_n 2, 1) := by decide +kernel
theorem d_R_leadsNow_73 : decode prog_9_method_17_code 73 = .ok (.baload, 1) := by decide +kernel
theorem d_R_leadsNow_74 : decode prog_9_method_17_code 74 = .ok (.ifCond .eq 24, 3) := by decide +kernel
theorem d_R_leadsNow_77 : decode prog_9_method_17_code 77 = .ok (.aload_n 0, 1) := by decide +kernel
theorem d_R_leadsNow_78 : decode prog_9_method_17_code 78 = .ok (.getfield 38, 3) := by decide +kernel
theorem d_R_leadsNow_81 : decode prog_9_method_17_code 81 = .ok (.iload_n 2, 1) := by decide +kernel
theorem d_R_leadsNow_82 : decode prog_9_method_17_code 82 = .ok (.iaload, 1) := by decide +kernel
theorem d_R_leadsNow_83 : decode prog_9_method_17_code 83 = .ok (.aload_n 0, 1) := by decide +kernel
theorem d_R_leadsNow_84 : decode prog_9_method_17_code 84 = .ok (.getfield 38, 3) := by decide +kernel
theorem d_R_leadsNow_87 : decode prog_9_method_17_code 87 = .ok (.aload_n 0, 1) := by decide +kernel
theorem d_R_leadsNow_88 : decode prog_9_method_17_code 88 = .ok (.getfield 16, 3) := by decide +kernel
theorem d_R_leadsNow_91 : decode prog_9_method_17_code 91 = .ok (.iload_n 1, 1) := by decide +kernel
theorem d_R_leadsNow_92 : decode prog_9_method_17_code 92 = .ok (.iaload, 1) := by decide +kernel
theorem d_R_leadsNow_93 : decode prog_9_method_17_code 93 = .ok (.iaload, 1) := by decide +kernel
theorem d_R_leadsNow_94 : decode prog_9_method_17_code 94 = .ok (.ior, 1) := by decide +kernel
theorem d_R_leadsNow_95 : decode prog_9_method_17_code 95 = .ok (.goto 9, 3) := by decide +kernel
theorem d_R_leadsNow_98 : decode prog_9_method_17_code 98 = .ok (.aload_n 0, 1) := by decide +kernel
theorem d_R_leadsNow_99 : decode prog_9_method_17_code 99 = .ok (.getfield 38, 3) := by decide +kernel
theorem d_R_leadsNow_102 : decode prog_9_method_17_code 102 = .ok (.iload_n 2, 1) := by decide +kernel
theorem d_R_leadsNow_103 : decode prog_9_method_17_code 103 = .ok (.iaload, 1) := by decide +kernel
theorem d_R_leadsNow_104 : decode prog_9_method_17_code 104 = .ok (.ireturn, 1) := by decide +kernel
theorem d_R_leadsNow_105 : decode prog_9_method_17_code 105 = .ok (.aload_n 0, 1) := by decide +kernel
theorem d_R_leadsNow_106 : decode prog_9_method_17_code 106 = .ok (.getfield 38, 3) := by decide +kernel
theorem d_R_leadsNow_109 : decode prog_9_method_17_code 109 = .ok (.iload_n 2, 1) := by decide +kernel
theorem d_R_leadsNow_110 : decode prog_9_method_17_code 110 = .ok (.iaload, 1) := by decide +kernel
theorem d_R_leadsNow_111 : decode prog_9_method_17_code 111 = .ok (.aload_n 0, 1) := by decide +kernel
theorem d_R_leadsNow_112 : decode prog_9_method_17_code 112 = .ok (.getfield 38, 3) := by decide +kernel
theorem d_R_leadsNow_115 : decode prog_9_method_17_code 115 = .ok (.aload_n 0, 1) := by decide +kernel
theorem d_R_leadsNow_116 : decode prog_9_method_17_code 116 = .ok (.getfield 16, 3) := by decide +kernel
theorem d_R_leadsNow_119 : decode prog_9_method_17_code 119 = .ok (.iload_n 1, 1) := by decide +kernel
theorem d_R_leadsNow_120 : decode prog_9_method_17_code 120 = .ok (.iaload, 1) := by decide +kernel
theorem d_R_leadsNow_121 : decode prog_9_method_17_code 121 = .ok (.iaload, 1) := by decide +kernel
theorem d_R_leadsNow_122 : decode prog_9_method_17_code 122 = .ok (.ior, 1) := by decide +kernel
theorem d_R_leadsNow_123 : decode prog_9_method_17_code 123 = .ok (.ireturn, 1) := by decide +kernel
theorem d_R_leadsNow_124 : decode prog_9_method_17_code 124 = .ok (.aload_n 0, 1) := by decide +kernel
theorem d_R_leadsNow_125 : decode prog_9_method_17_code 125 = .ok (.getfield 38, 3) := by decide +kernel
theorem d_R_leadsNow_128 : decode prog_9_method_17_code 128 = .ok (.iload_n 2, 1) := by decide +kernel
theorem d_R_leadsNow_129 : decode prog_9_method_17_code 129 = .ok (.iaload, 1) := by decide +kernel
theorem d_R_leadsNow_130 : decode prog_9_method_17_code 130 = .ok (.ireturn, 1) := by decide +kernel
theorem d_R_leadsNow_131 : decode prog_9_method_17_code 131 = .ok (.iconst 0, 1) := by decide +kernel
theorem d_R_leadsNow_132 : decode prog_9_method_17_code 132 = .ok (.ireturn, 1) := by decide +kernel
section RW
variable {p : Program} {l : Launch} {e : Env} {R : Room} {s : State} {m : MethodId} {args : Array Value} {below : List Frame} {meth : Method} {c : Code} {H : Heap} {locs : List Loc} {cells slots : Nat} {Q : State → Prop}
variable {cc : ByteArray} {pc : Nat} {ls : Array Slot} {rest : List Value} {dC : Nat → ClassId} {dI : Nat → Nat → Nat} {q : Nat → Nat} {cA : Nat → ClassId} {σ : MZ_} {H0 : Heap} {A : Nat → Prop}

theorem gf_R_38 (hx : p.tables.exec = Jvm.exec) (hb : c.code = cc) (hts : ∀ w ∈ AW_, w.before args s = true) (hown : s.vm.findClass "StagedParsersModel" = some m.cls) (hK : va_K (dC, dI) cls_ (tyR cA) s) (hP : va_P (dC, dI) cls_ (wR q cA σ) H) (hdg : decode cc pc = .ok (.getfield 38, 3)) (kk : W p l e R s m args below meth c H locs cells slots Q (F0 m (pc + 3) ls (.ref (q 10) :: rest))) : W p l e R s m args below meth c H locs cells slots Q (F0 m pc ls (.ref (q 0) :: rest)) :=
  va_get (D := (dC, dI)) (cl := cls_) (ci := 7) (v := .ref (q 10)) (ws := wR q cA σ) (tys := tyR cA) (C := Rz_R) (T := Tz_R) (N := 34) hx hb hts uz_R hown hK hP 0 rfl rfl 13 (by decide) (hts _ kw_824) (fun _ h9 => h9) rfl hdg kk
end RW
def f_R_leadsNow (σ : MZ_) (a1 : Int32) : Option (Int32) :=
  gd_ a1 80 (gd_ a1 80 (if (σ 1 a1.toNatClampNeg) = 4 then gd_ (σ 2 a1.toNatClampNeg) 80 (if (σ 8 (σ 2 a1.toNatClampNeg).toNatClampNeg) = 0 then gd_ (σ 2 a1.toNatClampNeg) 80 (some (σ 10 (σ 2 a1.toNatClampNeg).toNatClampNeg))
    else gd_ (σ 2 a1.toNatClampNeg) 80 (gd_ a1 80 (gd_ (σ 3 a1.toNatClampNeg) 80 (some ((σ 10 (σ 2 a1.toNatClampNeg).toNatClampNeg) ||| (σ 10 (σ 3 a1.toNatClampNeg).toNatClampNeg))))))
  else if (σ 1 a1.toNatClampNeg) = 5 then gd_ (σ 2 a1.toNatClampNeg) 80 (gd_ a1 80 (gd_ (σ 3 a1.toNatClampNeg) 80 (some ((σ 10 (σ 2 a1.toNatClampNeg).toNatClampNeg) ||| (σ 10 (σ 3 a1.toNatClampNeg).toNatClampNeg)))))
  else if (σ 1 a1.toNatClampNeg) = 6 then gd_ (σ 2 a1.toNatClampNeg) 80 (some (σ 10 (σ 2 a1.toNatClampNeg).toNatClampNeg))
  else if (σ 1 a1.toNatClampNeg) = 7 then gd_ (σ 2 a1.toNatClampNeg) 80 (some (σ 10 (σ 2 a1.toNatClampNeg).toNatClampNeg))
  else if (σ 1 a1.toNatClampNeg) = 8 then gd_ (σ 2 a1.toNatClampNeg) 80 (some (σ 10 (σ 2 a1.toNatClampNeg).toNatClampNeg))
  else if (σ 1 a1.toNatClampNeg) = 9 then gd_ (σ 2 a1.toNatClampNeg) 80 (some (σ 10 (σ 2 a1.toNatClampNeg).toNatClampNeg))
  else if (σ 1 a1.toNatClampNeg) = 10 then gd_ (σ 2 a1.toNatClampNeg) 80 (if (σ 8 (σ 2 a1.toNatClampNeg).toNatClampNeg) = 0 then gd_ (σ 2 a1.toNatClampNeg) 80 (some (σ 10 (σ 2 a1.toNatClampNeg).toNatClampNeg))
    else gd_ (σ 2 a1.toNatClampNeg) 80 (gd_ a1 80 (gd_ (σ 3 a1.toNatClampNeg) 80 (some ((σ 10 (σ 2 a1.toNatClampNeg).toNatClampNeg) ||| (σ 10 (σ 3 a1.toNatClampNeg).toNatClampNeg))))))
  else if (σ 1 a1.toNatClampNeg) = 11 then some (1 <<< ((σ 2 a1.toNatClampNeg) &&& 31))
  else if (σ 1 a1.toNatClampNeg) = 12 then gd_ (σ 2 a1.toNatClampNeg) 80 (some (σ 10 (σ 2 a1.toNatClampNeg).toNatClampNeg))
  else some 0))
set_option maxHeartbeats 4000000 in
set_option maxRecDepth 100000 in
theorem c_R_leadsNow (l : Launch) (dC : Nat → ClassId) (dI : Nat → Nat → Nat) (q : Nat → Nat) (cA : Nat → ClassId) (σ : MZ_) (a1 : Int32) (u : Int32) (h : f_R_leadsNow σ a1 = some u) : Met l y_R_leadsNow w_R_leadsNow rm_R_leadsNow (va_Pc [.ref (q 0), .int a1] (PRx_ dC dI q cA σ)) (QcRead u) 0 0 (fun _ => False) := by
  refine Met.ofW (cc := prog_9_method_17_code) (maxL := 3) (ret := (some .int)) (by decide) rfl ?_
  intro p e s m args below meth c s₁ B hml hv
  obtain ⟨rfl, hP, hK, hD, hN, hZ⟩ := hv
  have hx := B.exec
  have hb := B.bytes
  have hr := B.returns
  have hts : ∀ w ∈ AW_, w.before _ s = true := fun w h => atoms_spec (ws := w_R_leadsNow) B.pre w (List.mem_cons_of_mem _ h)
  have hown : s.vm.findClass "StagedParsersModel" = some m.cls := findClass_of_methodNamed B.named
  have hlocks := B.notSynchronized
  have hS : va_S (AR q) s.heap s.heap [] := va_S.rf
  have hl := lv_entry ([.ref (q 0), .int a1]) (n := 3) (Nat.le_of_ble_eq_true rfl)
  rw [lg_entry_eq]
  generalize (lg_sl ([.ref (q 0), .int a1]) ++ List.replicate (3 - (lg_sl ([.ref (q 0), .int a1])).length) Slot.unset).toArray = ls at hl ⊢
  have hl : lv_has ls 3 [(0, .ref (q 0)), (1, .int a1)] := hl
  rw [f_R_leadsNow] at h
  refine lv_aload_n hx hb d_R_leadsNow_0 rfl (lv_at hl 0 rfl) ?_
  refine gf_R_13 hx hb hts hown hK hP d_R_leadsNow_1 ?_
  refine lv_iload_n hx hb d_R_leadsNow_4 rfl (lv_at hl 1 rfl) ?_
  obtain ⟨hgd, h⟩ := gd_some h
  refine al_R_2 hx hb hK hP hgd d_R_leadsNow_5 ?_
  refine lv_istore_n hx hb d_R_leadsNow_6 rfl hl (by decide) rfl (fun ls hl => ?_)
  have hl : lv_has ls 3 [(2, .int (σ 2 a1.toNatClampNeg)), (0, .ref (q 0)), (1, .int a1)] := hl
  refine lv_aload_n hx hb d_R_leadsNow_7 rfl (lv_at hl 1 rfl) ?_
  refine gf_R_7 hx hb hts hown hK hP d_R_leadsNow_8 ?_
  refine lv_iload_n hx hb d_R_leadsNow_11 rfl (lv_at hl 2 rfl) ?_
  obtain ⟨hgd, h⟩ := gd_some h
  refine al_R_1 hx hb hK hP hgd d_R_leadsNow_12 ?_
  by_cases hc0 : (σ 1 a1.toNatClampNeg) = 4
  · have h := if_t hc0 h
    refine sw_in (tgt := 68) hx hb d_R_leadsNow_13 hc0 (by decide) (by decide) rfl rfl ?_
    refine lv_aload_n hx hb d_R_leadsNow_68 rfl (lv_at hl 1 rfl) ?_
    refine gf_R_31 hx hb hts hown hK hP d_R_leadsNow_69 ?_
    refine lv_iload_n hx hb d_R_leadsNow_72 rfl (lv_at hl 0 rfl) ?_
    obtain ⟨hgd, h⟩ := gd_some h
    refine al_R_8 hx hb hK hP hgd d_R_leadsNow_73 ?_
    refine lv_if_eq (tgt := 98) hx hb d_R_leadsNow_74 rfl (fun hc => ?_) (fun hc => ?_)
    · have h := if_t hc h
      refine lv_aload_n hx hb d_R_leadsNow_98 rfl (lv_at hl 1 rfl) ?_
      refine gf_R_38 hx hb hts hown hK hP d_R_leadsNow_99 ?_
      refine lv_iload_n hx hb d_R_leadsNow_102 rfl (lv_at hl 0 rfl) ?_
      obtain ⟨hgd, h⟩ := gd_some h
      refine al_R_10 hx hb hK hP hgd d_R_leadsNow_103 ?_
      obtain rfl := Option.some.inj h
      exact W.iret hx hb hr (fun t ht hW => ⟨rfl, ht⟩) (fun _ h9 => nomatch h9) d_R_leadsNow_104
    · have h := if_f hc h
      refine lv_aload_n hx hb d_R_leadsNow_77 rfl (lv_at hl 1 rfl) ?_
      refine gf_R_38 hx hb hts hown hK hP d_R_leadsNow_78 ?_
      refine lv_iload_n hx hb d_R_leadsNow_81 rfl (lv_at hl 0 rfl) ?_
      obtain ⟨hgd, h⟩ := gd_some h
      refine al_R_10 hx hb hK hP hgd d_R_leadsNow_82 ?_
      refine lv_aload_n hx hb d_R_leadsNow_83 rfl (lv_at hl 1 rfl) ?_
      refine gf_R_38 hx hb hts hown hK hP d_R_leadsNow_84 ?_
      refine lv_aload_n hx hb d_R_leadsNow_87 rfl (lv_at hl 1 rfl) ?_
      refine gf_R_16 hx hb hts hown hK hP d_R_leadsNow_88 ?_
      refine lv_iload_n hx hb d_R_leadsNow_91 rfl (lv_at hl 2 rfl) ?_
      obtain ⟨hgd, h⟩ := gd_some h
      refine al_R_3 hx hb hK hP hgd d_R_leadsNow_92 ?_
      obtain ⟨hgd, h⟩ := gd_some h
      refine al_R_10 hx hb hK hP hgd d_R_leadsNow_93 ?_
      refine lv_ior hx hb d_R_leadsNow_94 ?_
      refine lv_goto (tgt := 104) hx hb d_R_leadsNow_95 rfl ?_
      obtain rfl := Option.some.inj h
      exact W.iret hx hb hr (fun t ht hW => ⟨rfl, ht⟩) (fun _ h9 => nomatch h9) d_R_leadsNow_104
  have h := if_f hc0 h
  by_cases hc1 : (σ 1 a1.toNatClampNeg) = 5
  · have h := if_t hc1 h
    refine sw_in (tgt := 105) hx hb d_R_leadsNow_13 hc1 (by decide) (by decide) rfl rfl ?_
    refine lv_aload_n hx hb d_R_leadsNow_105 rfl (lv_at hl 1 rfl) ?_
    refine gf_R_38 hx hb hts hown hK hP d_R_leadsNow_106 ?_
    refine lv_iload_n hx hb d_R_leadsNow_109 rfl (lv_at hl 0 rfl) ?_
    obtain ⟨hgd, h⟩ := gd_some h
    refine al_R_10 hx hb hK hP hgd d_R_leadsNow_110 ?_
    refine lv_aload_n hx hb d_R_leadsNow_111 rfl (lv_at hl 1 rfl) ?_
    refine gf_R_38 hx hb hts hown hK hP d_R_leadsNow_112 ?_
    refine lv_aload_n hx hb d_R_leadsNow_115 rfl (lv_at hl 1 rfl) ?_
    refine gf_R_16 hx hb hts hown hK hP d_R_leadsNow_116 ?_
    refine lv_iload_n hx hb d_R_leadsNow_119 rfl (lv_at hl 2 rfl) ?_
    obtain ⟨hgd, h⟩ := gd_some h
    refine al_R_3 hx hb hK hP hgd d_R_leadsNow_120 ?_
    obtain ⟨hgd, h⟩ := gd_some h
    refine al_R_10 hx hb hK hP hgd d_R_leadsNow_121 ?_
    refine lv_ior hx hb d_R_leadsNow_122 ?_
    obtain rfl := Option.some.inj h
    exact W.iret hx hb hr (fun t ht hW => ⟨rfl, ht⟩) (fun _ h9 => nomatch h9) d_R_leadsNow_123
  have h := if_f hc1 h
  by_cases hc2 : (σ 1 a1.toNatClampNeg) = 6
  · have h := if_t hc2 h
    refine sw_in (tgt := 124) hx hb d_R_leadsNow_13 hc2 (by decide) (by decide) rfl rfl ?_
    refine lv_aload_n hx hb d_R_leadsNow_124 rfl (lv_at hl 1 rfl) ?_
    refine gf_R_38 hx hb hts hown hK hP d_R_leadsNow_125 ?_
    refine lv_iload_n hx hb d_R_leadsNow_128 rfl (lv_at hl 0 rfl) ?_
    obtain ⟨hgd, h⟩ := gd_some h
    refine al_R_10 hx hb hK hP hgd d_R_leadsNow_129 ?_
    obtain rfl := Option.some.inj h
    exact W.iret hx hb hr (fun t ht hW => ⟨rfl, ht⟩) (fun _ h9 => nomatch h9) d_R_leadsNow_130
  have h := if_f hc2 h
  by_cases hc3 : (σ 1 a1.toNatClampNeg) = 7
  · have h := if_t hc3 h
    refine sw_in (tgt := 124) hx hb d_R_leadsNow_13 hc3 (by decide) (by decide) rfl rfl ?_
    refine lv_aload_n hx hb d_R_leadsNow_124 rfl (lv_at hl 1 rfl) ?_
    refine gf_R_38 hx hb hts hown hK hP d_R_leadsNow_125 ?_
    refine lv_iload_n hx hb d_R_leadsNow_128 rfl (lv_at hl 0 rfl) ?_
    obtain ⟨hgd, h⟩ := gd_some h
    refine al_R_10 hx hb hK hP hgd d_R_leadsNow_129 ?_
    obtain rfl := Option.some.inj h
    exact W.iret hx hb hr (fun t ht hW => ⟨rfl, ht⟩) (fun _ h9 => nomatch h9) d_R_leadsNow_130
  have h := if_f hc3 h
  by_cases hc4 : (σ 1 a1.toNatClampNeg) = 8
  · have h := if_t hc4 h
    refine sw_in (tgt := 124) hx hb d_R_leadsNow_13 hc4 (by decide) (by decide) rfl rfl ?_
    refine lv_aload_n hx hb d_R_leadsNow_124 rfl (lv_at hl 1 rfl) ?_
    refine gf_R_38 hx hb hts hown hK hP d_R_leadsNow_125 ?_
    refine lv_iload_n hx hb d_R_leadsNow_128 rfl (lv_at hl 0 rfl) ?_
    obtain ⟨hgd, h⟩ := gd_some h
    refine al_R_10 hx hb hK hP hgd d_R_leadsNow_129 ?_
    obtain rfl := Option.some.inj h
    exact W.iret hx hb hr (fun t ht hW => ⟨rfl, ht⟩) (fun _ h9 => nomatch h9) d_R_leadsNow_130
  have h := if_f hc4 h
  by_cases hc5 : (σ 1 a1.toNatClampNeg) = 9
  · have h := if_t hc5 h
    refine sw_in (tgt := 124) hx hb d_R_leadsNow_13 hc5 (by decide) (by decide) rfl rfl ?_
    refine lv_aload_n hx hb d_R_leadsNow_124 rfl (lv_at hl 1 rfl) ?_
    refine gf_R_38 hx hb hts hown hK hP d_R_leadsNow_125 ?_
    refine lv_iload_n hx hb d_R_leadsNow_128 rfl (lv_at hl 0 rfl) ?_
    obtain ⟨hgd, h⟩ := gd_some h
    refine al_R_10 hx hb hK hP hgd d_R_leadsNow_129 ?_
    obtain rfl := Option.some.inj h
    exact W.iret hx hb hr (fun t ht hW => ⟨rfl, ht⟩) (fun _ h9 => nomatch h9) d_R_leadsNow_130
  have h := if_f hc5 h
  by_cases hc6 : (σ 1 a1.toNatClampNeg) = 10
  · have h := if_t hc6 h
    refine sw_in (tgt := 68) hx hb d_R_leadsNow_13 hc6 (by decide) (by decide) rfl rfl ?_
    refine lv_aload_n hx hb d_R_leadsNow_68 rfl (lv_at hl 1 rfl) ?_
    refine gf_R_31 hx hb hts hown hK hP d_R_leadsNow_69 ?_
    refine lv_iload_n hx hb d_R_leadsNow_72 rfl (lv_at hl 0 rfl) ?_
    obtain ⟨hgd, h⟩ := gd_some h
    refine al_R_8 hx hb hK hP hgd d_R_leadsNow_73 ?_
    refine lv_if_eq (tgt := 98) hx hb d_R_leadsNow_74 rfl (fun hc => ?_) (fun hc => ?_)
    · have h := if_t hc h
      refine lv_aload_n hx hb d_R_leadsNow_98 rfl (lv_at hl 1 rfl) ?_
      refine gf_R_38 hx hb hts hown hK hP d_R_leadsNow_99 ?_
      refine lv_iload_n hx hb d_R_leadsNow_102 rfl (lv_at hl 0 rfl) ?_
      obtain ⟨hgd, h⟩ := gd_some h
      refine al_R_10 hx hb hK hP hgd d_R_leadsNow_103 ?_
      obtain rfl := Option.some.inj h
      exact W.iret hx hb hr (fun t ht hW => ⟨rfl, ht⟩) (fun _ h9 => nomatch h9) d_R_leadsNow_104
    · have h := if_f hc h
      refine lv_aload_n hx hb d_R_leadsNow_77 rfl (lv_at hl 1 rfl) ?_
      refine gf_R_38 hx hb hts hown hK hP d_R_leadsNow_78 ?_
      refine lv_iload_n hx hb d_R_leadsNow_81 rfl (lv_at hl 0 rfl) ?_
      obtain ⟨hgd, h⟩ := gd_some h
      refine al_R_10 hx hb hK hP hgd d_R_leadsNow_82 ?_
      refine lv_aload_n hx hb d_R_leadsNow_83 rfl (lv_at hl 1 rfl) ?_
      refine gf_R_38 hx hb hts hown hK hP d_R_leadsNow_84 ?_
      refine lv_aload_n hx hb d_R_leadsNow_87 rfl (lv_at hl 1 rfl) ?_
      refine gf_R_16 hx hb hts hown hK hP d_R_leadsNow_88 ?_
      refine lv_iload_n hx hb d_R_leadsNow_91 rfl (lv_at hl 2 rfl) ?_
      obtain ⟨hgd, h⟩ := gd_some h
      refine al_R_3 hx hb hK hP hgd d_R_leadsNow_92 ?_
      obtain ⟨hgd, h⟩ := gd_some h
      refine al_R_10 hx hb hK hP hgd d_R_leadsNow_93 ?_
      refine lv_ior hx hb d_R_leadsNow_94 ?_
      refine lv_goto (tgt := 104) hx hb d_R_leadsNow_95 rfl ?_
      obtain rfl := Option.some.inj h
      exact W.iret hx hb hr (fun t ht hW => ⟨rfl, ht⟩) (fun _ h9 => nomatch h9) d_R_leadsNow_104
  have h := if_f hc6 h
  by_cases hc7 : (σ 1 a1.toNatClampNeg) = 11
  · have h := if_t hc7 h
    refine sw_in (tgt := 64) hx hb d_R_leadsNow_13 hc7 (by decide) (by decide) rfl rfl ?_
    refine lv_iconst (v := 1) hx hb d_R_leadsNow_64 (by decide) ?_
    refine lv_iload_n hx hb d_R_leadsNow_65 rfl (lv_at hl 0 rfl) ?_
    refine lv_ishl hx hb d_R_leadsNow_66 ?_
    obtain rfl := Option.some.inj h
    exact W.iret hx hb hr (fun t ht hW => ⟨rfl, ht⟩) (fun _ h9 => nomatch h9) d_R_leadsNow_67
  have h := if_f hc7 h
  by_cases hc8 : (σ 1 a1.toNatClampNeg) = 12
  · have h := if_t hc8 h
    refine sw_in (tgt := 124) hx hb d_R_leadsNow_13 hc8 (by decide) (by decide) rfl rfl ?_
    refine lv_aload_n hx hb d_R_leadsNow_124 rfl (lv_at hl 1 rfl) ?_
    refine gf_R_38 hx hb hts hown hK hP d_R_leadsNow_125 ?_
    refine lv_iload_n hx hb d_R_leadsNow_128 rfl (lv_at hl 0 rfl) ?_
    obtain ⟨hgd, h⟩ := gd_some h
    refine al_R_10 hx hb hK hP hgd d_R_leadsNow_129 ?_
    obtain rfl := Option.some.inj h
    exact W.iret hx hb hr (fun t ht hW => ⟨rfl, ht⟩) (fun _ h9 => nomatch h9) d_R_leadsNow_130
  have h := if_f hc8 h
  refine lv_tableOut (tgt := 131) hx hb d_R_leadsNow_13 (by have q0 := lv_neT hc0 (a := 4) (by decide); have q1 := lv_neT hc1 (a := 5) (by decide); have q2 := lv_neT hc2 (a := 6) (by decide); have q3 := lv_neT hc3 (a := 7) (by decide); have q4 := lv_neT hc4 (a := 8) (by decide); have q5 := lv_neT hc5 (a := 9) (by decide); have q6 := lv_neT hc6 (a := 10) (by decide); have q7 := lv_neT hc7 (a := 11) (by decide); have q8 := lv_neT hc8 (a := 12) (by decide); omega) rfl ?_
  refine lv_iconst (v := 0) hx hb d_R_leadsNow_131 (by decide) ?_
  obtain rfl := Option.some.inj h
  exact W.iret hx hb hr (fun t ht hW => ⟨rfl, ht⟩) (fun _ h9 => nomatch h9) d_R_leadsNow_132
def y_R_allLeads : MethodName := ⟨"StagedParsersModel", "allLeads", "(I)I"⟩
def w_R_allLeads : List Cond := .code y_R_allLeads prog_9_method_18_code 5 (some .int) :: AW_
def rm_R_allLeads : Room := { frames := 2, cells := 0, slots := 0, locals := 45 }
theorem d_R_allLeads_0 : decode prog_9_method_18_code 0 = .ok (.aload_n 0, 1) := by decide +kernel
theorem d_R_allLeads_1 : decode prog_9_method_18_code 1 = .ok (.invokevirtual 109, 3) := by decide +kernel
theorem d_R_allLeads_4 : decode prog_9_method_18_code 4 = .ok (.iconst 0, 1) := by decide +kernel
theorem d_R_allLeads_5 : decode prog_9_method_18_code 5 = .ok (.istore_n 2, 1) := by decide +kernel
theorem d_R_allLeads_6 : decode prog_9_method_18_code 6 = .ok (.iload_n 2, 1) := by decide +kernel
theorem d_R_allLeads_7 : decode prog_9_method_18_code 7 = .ok (.aload_n 0, 1) := by decide +kernel
theorem d_R_allLeads_8 : decode prog_9_method_18_code 8 = .ok (.getfield 69, 3) := by decide +kernel
theorem d_R_allLeads_11 : decode prog_9_method_18_code 11 = .ok (.if_icmp .ge 20, 3) := by decide +kernel
theorem d_R_allLeads_14 : decode prog_9_method_18_code 14 = .ok (.aload_n 0, 1) := by decide +kernel
theorem d_R_allLeads_15 : decode prog_9_method_18_code 15 = .ok (.getfield 38, 3) := by decide +kernel
theorem d_R_allLeads_18 : decode prog_9_method_18_code 18 = .ok (.iload_n 2, 1) := by decide +kernel
theorem d_R_allLeads_19 : decode prog_9_method_18_code 19 = .ok (.aload_n 0, 1) := by decide +kernel
theorem d_R_allLeads_20 : decode prog_9_method_18_code 20 = .ok (.iload_n 2, 1) := by decide +kernel
theorem d_R_allLeads_21 : decode prog_9_method_18_code 21 = .ok (.invokevirtual 116, 3) := by decide +kernel
theorem d_R_allLeads_24 : decode prog_9_method_18_code 24 = .ok (.iastore, 1) := by decide +kernel
theorem d_R_allLeads_25 : decode prog_9_method_18_code 25 = .ok (.iinc 2 1, 3) := by decide +kernel
theorem d_R_allLeads_28 : decode prog_9_method_18_code 28 = .ok (.goto (-22), 3) := by decide +kernel
theorem d_R_allLeads_31 : decode prog_9_method_18_code 31 = .ok (.aload_n 0, 1) := by decide +kernel
theorem d_R_allLeads_32 : decode prog_9_method_18_code 32 = .ok (.getfield 25, 3) := by decide +kernel
theorem d_R_allLeads_35 : decode prog_9_method_18_code 35 = .ok (.iload_n 1, 1) := by decide +kernel
theorem d_R_allLeads_36 : decode prog_9_method_18_code 36 = .ok (.iaload, 1) := by decide +kernel
theorem d_R_allLeads_37 : decode prog_9_method_18_code 37 = .ok (.ifCond .le 19, 3) := by decide +kernel
theorem d_R_allLeads_40 : decode prog_9_method_18_code 40 = .ok (.aload_n 0, 1) := by decide +kernel
theorem d_R_allLeads_41 : decode prog_9_method_18_code 41 = .ok (.getfield 38, 3) := by decide +kernel
theorem d_R_allLeads_44 : decode prog_9_method_18_code 44 = .ok (.aload_n 0, 1) := by decide +kernel
theorem d_R_allLeads_45 : decode prog_9_method_18_code 45 = .ok (.getfield 25, 3) := by decide +kernel
theorem d_R_allLeads_48 : decode prog_9_method_18_code 48 = .ok (.iload_n 1, 1) := by decide +kernel
theorem d_R_allLeads_49 : decode prog_9_method_18_code 49 = .ok (.iaload, 1) := by decide +kernel
theorem d_R_allLeads_50 : decode prog_9_method_18_code 50 = .ok (.iconst 1, 1) := by decide +kernel
theorem d_R_allLeads_51 : decode prog_9_method_18_code 51 = .ok (.isub, 1) := by decide +kernel
theorem d_R_allLeads_52 : decode prog_9_method_18_code 52 = .ok (.iaload, 1) := by decide +kernel
theorem d_R_allLeads_53 : decode prog_9_method_18_code 53 = .ok (.goto 4, 3) := by decide +kernel
theorem d_R_allLeads_56 : decode prog_9_method_18_code 56 = .ok (.iconst 0, 1) := by decide +kernel
theorem d_R_allLeads_57 : decode prog_9_method_18_code 57 = .ok (.istore_n 2, 1) := by decide +kernel
theorem d_R_allLeads_58 : decode prog_9_method_18_code 58 = .ok (.iconst 0, 1) := by decide +kernel
theorem d_R_allLeads_59 : decode prog_9_method_18_code 59 = .ok (.istore_n 3, 1) := by decide +kernel
theorem d_R_allLeads_60 : decode prog_9_method_18_code 60 = .ok (.iload_n 3, 1) := by decide +kernel
theorem d_R_allLeads_61 : decode prog_9_method_18_code 61 = .ok (.bipush 6, 2) := by decide +kernel
theorem d_R_allLeads_63 : decode prog_9_method_18_code 63 = .ok (.if_icmp .ge 62, 3) := by decide +kernel
theorem d_R_allLeads_66 : decode prog_9_method_18_code 66 = .ok (.iconst 0, 1) := by decide +kernel
theorem d_R_allLeads_67 : decode prog_9_method_18_code 67 = .ok (.istore 4, 2) := by decide +kernel
theorem d_R_allLeads_69 : decode prog_9_method_18_code 69 = .ok (.iload 4, 2) := by decide +kernel
theorem d_R_allLeads_71 : decode prog_9_method_18_code 71 = .ok (.bipush 6, 2) := by decide +kernel
theorem d_R_allLeads_73 : decode prog_9_method_18_code 73 = .ok (.if_icmp .ge 46, 3) := by decide +kernel
theorem d_R_allLeads_76 : decode prog_9_method_18_code 76 = .ok (.iload_n 2, 1) := by decide +kernel
theorem d_R_allLeads_77 : decode prog_9_method_18_code 77 = .ok (.iload 4, 2) := by decide +kernel
theorem d_R_allLeads_79 : decode prog_9_method_18_code 79 = .ok (.ishr, 1) := by decide +kernel
theorem d_R_allLeads_80 : decode prog_9_method_18_code 80 = .ok (.iconst 1, 1) := by decide +kernel
theorem d_R_allLeads_81 : decode prog_9_method_18_code 81 = .ok (.iand, 1) := by decide +kernel
theorem d_R_allLeads_82 : decode prog_9_method_18_code 82 = .ok (.iconst 1, 1) := by decide +kernel
theorem d_R_allLeads_83 : decode prog_9_method_18_code 83 = .ok (.if_icmp .ne 30, 3) := by decide +kernel
theorem d_R_allLeads_86 : decode prog_9_method_18_code 86 = .ok (.aload_n 0, 1) := by decide +kernel
theorem d_R_allLeads_87 : decode prog_9_method_18_code 87 = .ok (.getfield 25, 3) := by decide +kernel
theorem d_R_allLeads_90 : decode prog_9_method_18_code 90 = .ok (.iload 4, 2) := by decide +kernel
theorem d_R_allLeads_92 : decode prog_9_method_18_code 92 = .ok (.iaload, 1) := by decide +kernel
theorem d_R_allLeads_93 : decode prog_9_method_18_code 93 = .ok (.ifCond .le 20, 3) := by decide +kernel
theorem d_R_allLeads_96 : decode prog_9_method_18_code 96 = .ok (.iload_n 2, 1) := by decide +kernel
theorem d_R_allLeads_97 : decode prog_9_method_18_code 97 = .ok (.aload_n 0, 1) := by decide +kernel
theorem d_R_allLeads_98 : decode prog_9_method_18_code 98 = .ok (.getfield 38, 3) := by decide +kernel
theorem d_R_allLeads_101 : decode prog_9_method_18_code 101 = .ok (.aload_n 0, 1) := by decide +kernel
theorem d_R_allLeads_102 : decode prog_9_method_18_code 102 = .ok (.getfield 25, 3) := by decide +kernel
theorem d_R_allLeads_105 : decode prog_9_method_18_code 105 = .ok (.iload 4, 2) := by decide +kernel
theorem d_R_allLeads_107 : decode prog_9_method_18_code 107 = .ok (.iaload, 1) := by decide +kernel
theorem d_R_allLeads_108 : decode prog_9_method_18_code 108 = .ok (.iconst 1, 1) := by decide +kernel
theorem d_R_allLeads_109 : decode prog_9_method_18_code 109 = .ok (.isub, 1) := by decide +kernel
theorem d_R_allLeads_110 : decode prog_9_method_18_code 110 = .ok (.iaload, 1) := by decide +kernel
theorem d_R_allLeads_111 : decode prog_9_method_18_code 111 = .ok (.ior, 1) := by decide +kernel
theorem d_R_allLeads_112 : decode prog_9_method_18_code 112 = .ok (.istore_n 2, 1) := by decide +kernel
theorem d_R_allLeads_113 : decode prog_9_method_18_code 113 = .ok (.iinc 4 1, 3) := by decide +kernel
theorem d_R_allLeads_116 : decode prog_9_method_18_code 116 = .ok (.goto (-47), 3) := by decide +kernel
theorem d_R_allLeads_119 : decode prog_9_method_18_code 119 = .ok (.iinc 3 1, 3) := by decide +kernel
theorem d_R_allLeads_122 : decode prog_9_method_18_code 122 = .ok (.goto (-62), 3) := by decide +kernel
theorem d_R_allLeads_125 : decode prog_9_method_18_code 125 = .ok (.iload_n 2, 1) := by decide +kernel
theorem d_R_allLeads_126 : decode prog_9_method_18_code 126 = .ok (.ireturn, 1) := by decide +kernel
section RW
variable {p : Program} {l : Launch} {e : Env} {R : Room} {s : State} {m : MethodId} {args : Array Value} {below : List Frame} {meth : Method} {c : Code} {H : Heap} {locs : List Loc} {cells slots : Nat} {Q : State → Prop}
variable {cc : ByteArray} {pc : Nat} {ls : Array Slot} {rest : List Value} {dC : Nat → ClassId} {dI : Nat → Nat → Nat} {q : Nat → Nat} {cA : Nat → ClassId} {σ : MZ_} {H0 : Heap} {A : Nat → Prop}

theorem cw_R_116 (hts : ∀ w ∈ AW_, w.before args s = true) (hR : rm_R_leadsNow.frames + 1 ≤ R.frames ∧ 8 + (3 + 11) + rm_R_leadsNow.locals ≤ R.locals) : CallW R s args "StagedParsersModel" "StagedParsersModel" 116 y_R_leadsNow prog_9_method_17_code 3 (some .int) w_R_leadsNow rm_R_leadsNow 0 0 1 :=
  ⟨callB_of 1 hts (aw_in kw_990) rfl rfl rfl (hts _ kw_9) (hts _ kw_987) ⟨by decide, by decide, by decide +kernel⟩ hR, hts _ kw_989, hts _ ks_50⟩
end RW
def f_R_allLeads_L69 (k : MZ_ → Int32 → Int32 → Int32 → Option (Int32 × MZ_)) : Nat → MZ_ → Int32 → Int32 → Int32 → Int32 → Option (Int32 × MZ_)
  | 0, _, _, _, _, _ => none
  | N + 1, σ, x1, x2, x3, x4 => if 6 ≤ x4 then k σ x1 x2 (x3 + 1)
    else if ((x2 >>> (x4 &&& 31)) &&& 1) = 1 then gd_ x4 6 (if (σ 6 x4.toNatClampNeg) ≤ 0 then f_R_allLeads_L69 k N σ x1 x2 x3 (x4 + 1)
      else gd_ x4 6 (gd_ ((σ 6 x4.toNatClampNeg) - 1) 80 (f_R_allLeads_L69 k N σ x1 (x2 ||| (σ 10 ((σ 6 x4.toNatClampNeg) - 1).toNatClampNeg)) x3 (x4 + 1))))
    else f_R_allLeads_L69 k N σ x1 x2 x3 (x4 + 1)
def f_R_allLeads_L60 : Nat → MZ_ → Int32 → Int32 → Int32 → Option (Int32 × MZ_)
  | 0, _, _, _, _ => none
  | N + 1, σ, x1, x2, x3 => if 6 ≤ x3 then some (x2, σ)
    else f_R_allLeads_L69 (fun σ x1 x2 x3 => f_R_allLeads_L60 N σ x1 x2 x3) 100 σ x1 x2 x3 0
def f_R_allLeads_L6 : Nat → MZ_ → Int32 → Int32 → Option (Int32 × MZ_)
  | 0, _, _, _ => none
  | N + 1, σ, x1, x2 => if (σ 31 0) ≤ x2 then gd_ x1 6 (if (σ 6 x1.toNatClampNeg) ≤ 0 then f_R_allLeads_L60 100 σ x1 0 0
      else gd_ x1 6 (gd_ ((σ 6 x1.toNatClampNeg) - 1) 80 (f_R_allLeads_L60 100 σ x1 (σ 10 ((σ 6 x1.toNatClampNeg) - 1).toNatClampNeg) 0)))
    else (f_R_leadsNow σ x2).bind fun r2 => gd_ x2 80 (st_ (va_up σ 10 (upd (σ 10) x2.toNatClampNeg r2)) fun σ1 => f_R_allLeads_L6 N σ1 x1 (x2 + 1))
def f_R_allLeads (σ : MZ_) (a1 : Int32) : Option (Int32 × MZ_) :=
  (f_R_findEmpty σ).bind fun u1 => f_R_allLeads_L6 100 u1 a1 0
set_option maxHeartbeats 4000000 in
set_option maxRecDepth 100000 in
theorem c_R_allLeads (l : Launch) (dC : Nat → ClassId) (dI : Nat → Nat → Nat) (q : Nat → Nat) (cA : Nat → ClassId) (σ : MZ_) (a1 : Int32) (u : Int32 × MZ_) (h : f_R_allLeads σ a1 = some u) : Met l y_R_allLeads w_R_allLeads rm_R_allLeads (va_Pc [.ref (q 0), .int a1] (PRx_ dC dI q cA σ)) (QW_ (some (.int u.1)) (fun H => va_P (dC, dI) cls_ (wR q cA u.2) H) (AR q)) 0 0 (AR q) := by
  refine Met.ofW (cc := prog_9_method_18_code) (maxL := 5) (ret := (some .int)) (by decide) rfl ?_
  intro p e s m args below meth c s₁ B hml hv
  obtain ⟨rfl, hP, hK, hD, hN, hZ⟩ := hv
  have hx := B.exec
  have hb := B.bytes
  have hr := B.returns
  have hts : ∀ w ∈ AW_, w.before _ s = true := fun w h => atoms_spec (ws := w_R_allLeads) B.pre w (List.mem_cons_of_mem _ h)
  have hown : s.vm.findClass "StagedParsersModel" = some m.cls := findClass_of_methodNamed B.named
  have hlocks := B.notSynchronized
  have hS : va_S (AR q) s.heap s.heap [] := va_S.rf
  have hl := lv_entry ([.ref (q 0), .int a1]) (n := 5) (Nat.le_of_ble_eq_true rfl)
  rw [lg_entry_eq]
  generalize (lg_sl ([.ref (q 0), .int a1]) ++ List.replicate (5 - (lg_sl ([.ref (q 0), .int a1])).length) Slot.unset).toArray = ls at hl ⊢
  have hl : lv_has ls 5 [(0, .ref (q 0)), (1, .int a1)] := hl
  have L60 : ∀ (N60 : Nat) (σ : MZ_) (x1 : Int32) (x2 : Int32) (x3 : Int32), f_R_allLeads_L60 N60 σ x1 x2 x3 = some u → ∀ (H : Heap) (locs : List Loc) (ls : Array Slot), va_P (dC, dI) cls_ (wR q cA σ) H → va_S (AR q) s.heap H locs → lv_has ls 5 [(0, .ref (q 0)), (1, .int x1), (2, .int x2), (3, .int x3)] → W p l e (headSpec w_R_allLeads rm_R_allLeads).room s m ([.ref (q 0), .int a1] : List Value).toArray below meth c H locs 0 0 (MQ below (QW_ (some (.int u.1)) (fun H => va_P (dC, dI) cls_ (wR q cA u.2) H) (AR q)) ([.ref (q 0), .int a1] : List Value).toArray s 0 0 (AR q)) (F0 m 60 ls []) := by
    intro N60
    induction N60 with
    | zero => intro σ x1 x2 x3 h; cases h
    | succ N60 ih60 =>
      intro σ x1 x2 x3 h H locs ls hP hS hl
      have hD : va_D (AR q) (wR q cA σ) := dd_re (wR_f _ _ _ _) hD
      rw [f_R_allLeads_L60] at h
      refine lv_iload_n hx hb d_R_allLeads_60 rfl (lv_at hl 3 rfl) ?_
      refine lv_bipush (v := 6) hx hb d_R_allLeads_61 (by decide) ?_
      refine lv_icmp_ge (tgt := 125) hx hb d_R_allLeads_63 rfl (fun hc => ?_) (fun hc => ?_)
      · have h := if_t hc h
        refine lv_iload_n hx hb d_R_allLeads_125 rfl (lv_at hl 2 rfl) ?_
        obtain rfl := Option.some.inj h
        exact W.iret hx hb hr (fun t ht hW => ⟨rfl, by rw [ht]; exact hP, hS.F ht⟩) hS.2.2 d_R_allLeads_126
      · have h := if_f hc h
        refine lv_iconst (v := 0) hx hb d_R_allLeads_66 (by decide) ?_
        refine lv_istore hx hb d_R_allLeads_67 hl (by decide) rfl (fun ls hl => ?_)
        have hl : lv_has ls 5 [(4, .int 0), (0, .ref (q 0)), (1, .int x1), (2, .int x2), (3, .int x3)] := hl
        have L69 : ∀ (N69 : Nat) (σ : MZ_) (x1 : Int32) (x2 : Int32) (x3 : Int32) (x4 : Int32), f_R_allLeads_L69 (fun σ x1 x2 x3 => f_R_allLeads_L60 N60 σ x1 x2 x3) N69 σ x1 x2 x3 x4 = some u → ∀ (H : Heap) (locs : List Loc) (ls : Array Slot), va_P (dC, dI) cls_ (wR q cA σ) H → va_S (AR q) s.heap H locs → lv_has ls 5 [(0, .ref (q 0)), (1, .int x1), (2, .int x2), (3, .int x3), (4, .int x4)] → W p l e (headSpec w_R_allLeads rm_R_allLeads).room s m ([.ref (q 0), .int a1] : List Value).toArray below meth c H locs 0 0 (MQ below (QW_ (some (.int u.1)) (fun H => va_P (dC, dI) cls_ (wR q cA u.2) H) (AR q)) ([.ref (q 0), .int a1] : List Value).toArray s 0 0 (AR q)) (F0 m 69 ls []) := by
          intro N69
          induction N69 with
          | zero => intro σ x1 x2 x3 x4 h; cases h
          | succ N69 ih69 =>
            intro σ x1 x2 x3 x4 h H locs ls hP hS hl
            have hD : va_D (AR q) (wR q cA σ) := dd_re (wR_f _ _ _ _) hD
            rw [f_R_allLeads_L69] at h
            refine lv_iload hx hb d_R_allLeads_69 (lv_at hl 4 rfl) ?_
            refine lv_bipush (v := 6) hx hb d_R_allLeads_71 (by decide) ?_
            refine lv_icmp_ge (tgt := 119) hx hb d_R_allLeads_73 rfl (fun hc => ?_) (fun hc => ?_)
            · have h := if_t hc h
              refine lv_iinc (v := x3 + 1) hx hb d_R_allLeads_119 hl (k := 3) rfl rfl (by decide) rfl (fun ls hl => ?_)
              have hl : lv_has ls 5 [(3, .int (x3 + 1)), (0, .ref (q 0)), (1, .int x1), (2, .int x2), (4, .int x4)] := hl
              refine lv_goto (tgt := 60) hx hb d_R_allLeads_122 rfl ?_
              exact ih60 _ _ _ _ h _ _ _ hP hS (lv_sub hl [1, 2, 3, 0] rfl)
            · have h := if_f hc h
              refine lv_iload_n hx hb d_R_allLeads_76 rfl (lv_at hl 2 rfl) ?_
              refine lv_iload hx hb d_R_allLeads_77 (lv_at hl 4 rfl) ?_
              refine lv_ishr hx hb d_R_allLeads_79 ?_
              refine lv_iconst (v := 1) hx hb d_R_allLeads_80 (by decide) ?_
              refine lv_iand hx hb d_R_allLeads_81 ?_
              refine lv_iconst (v := 1) hx hb d_R_allLeads_82 (by decide) ?_
              refine lv_icmp_ne (tgt := 113) hx hb d_R_allLeads_83 rfl (fun hc => ?_) (fun hc => ?_)
              · have h := if_f hc h
                refine lv_iinc (v := x4 + 1) hx hb d_R_allLeads_113 hl (k := 4) rfl rfl (by decide) rfl (fun ls hl => ?_)
                have hl : lv_has ls 5 [(4, .int (x4 + 1)), (0, .ref (q 0)), (1, .int x1), (2, .int x2), (3, .int x3)] := hl
                refine lv_goto (tgt := 69) hx hb d_R_allLeads_116 rfl ?_
                exact ih69 _ _ _ _ _ h _ _ _ hP hS (lv_sub hl [1, 2, 3, 4, 0] rfl)
              · have h := if_t hc h
                refine lv_aload_n hx hb d_R_allLeads_86 rfl (lv_at hl 0 rfl) ?_
                refine gf_R_25 hx hb hts hown hK hP d_R_allLeads_87 ?_
                refine lv_iload hx hb d_R_allLeads_90 (lv_at hl 4 rfl) ?_
                obtain ⟨hgd, h⟩ := gd_some h
                refine al_R_6 hx hb hK hP hgd d_R_allLeads_92 ?_
                refine lv_if_le (tgt := 113) hx hb d_R_allLeads_93 rfl (fun hc => ?_) (fun hc => ?_)
                · have h := if_t hc h
                  refine lv_iinc (v := x4 + 1) hx hb d_R_allLeads_113 hl (k := 4) rfl rfl (by decide) rfl (fun ls hl => ?_)
                  have hl : lv_has ls 5 [(4, .int (x4 + 1)), (0, .ref (q 0)), (1, .int x1), (2, .int x2), (3, .int x3)] := hl
                  refine lv_goto (tgt := 69) hx hb d_R_allLeads_116 rfl ?_
                  exact ih69 _ _ _ _ _ h _ _ _ hP hS (lv_sub hl [1, 2, 3, 4, 0] rfl)
                · have h := if_f hc h
                  refine lv_iload_n hx hb d_R_allLeads_96 rfl (lv_at hl 2 rfl) ?_
                  refine lv_aload_n hx hb d_R_allLeads_97 rfl (lv_at hl 0 rfl) ?_
                  refine gf_R_38 hx hb hts hown hK hP d_R_allLeads_98 ?_
                  refine lv_aload_n hx hb d_R_allLeads_101 rfl (lv_at hl 0 rfl) ?_
                  refine gf_R_25 hx hb hts hown hK hP d_R_allLeads_102 ?_
                  refine lv_iload hx hb d_R_allLeads_105 (lv_at hl 4 rfl) ?_
                  obtain ⟨hgd, h⟩ := gd_some h
                  refine al_R_6 hx hb hK hP hgd d_R_allLeads_107 ?_
                  refine lv_iconst (v := 1) hx hb d_R_allLeads_108 (by decide) ?_
                  refine lv_isub hx hb d_R_allLeads_109 ?_
                  obtain ⟨hgd, h⟩ := gd_some h
                  refine al_R_10 hx hb hK hP hgd d_R_allLeads_110 ?_
                  refine lv_ior hx hb d_R_allLeads_111 ?_
                  refine lv_istore_n hx hb d_R_allLeads_112 rfl hl (by decide) rfl (fun ls hl => ?_)
                  have hl : lv_has ls 5 [(2, .int (x2 ||| (σ 10 ((σ 6 x4.toNatClampNeg) - 1).toNatClampNeg))), (0, .ref (q 0)), (1, .int x1), (3, .int x3), (4, .int x4)] := hl
                  refine lv_iinc (v := x4 + 1) hx hb d_R_allLeads_113 hl (k := 4) rfl rfl (by decide) rfl (fun ls hl => ?_)
                  have hl : lv_has ls 5 [(4, .int (x4 + 1)), (2, .int (x2 ||| (σ 10 ((σ 6 x4.toNatClampNeg) - 1).toNatClampNeg))), (0, .ref (q 0)), (1, .int x1), (3, .int x3)] := hl
                  refine lv_goto (tgt := 69) hx hb d_R_allLeads_116 rfl ?_
                  exact ih69 _ _ _ _ _ h _ _ _ hP hS (lv_sub hl [2, 3, 1, 4, 0] rfl)
        exact L69 _ _ _ _ _ _ h _ _ _ hP hS (lv_sub hl [1, 2, 3, 4, 0] rfl)
  have L6 : ∀ (N6 : Nat) (σ : MZ_) (x1 : Int32) (x2 : Int32), f_R_allLeads_L6 N6 σ x1 x2 = some u → ∀ (H : Heap) (locs : List Loc) (ls : Array Slot), va_P (dC, dI) cls_ (wR q cA σ) H → va_S (AR q) s.heap H locs → lv_has ls 5 [(0, .ref (q 0)), (1, .int x1), (2, .int x2)] → W p l e (headSpec w_R_allLeads rm_R_allLeads).room s m ([.ref (q 0), .int a1] : List Value).toArray below meth c H locs 0 0 (MQ below (QW_ (some (.int u.1)) (fun H => va_P (dC, dI) cls_ (wR q cA u.2) H) (AR q)) ([.ref (q 0), .int a1] : List Value).toArray s 0 0 (AR q)) (F0 m 6 ls []) := by
    intro N6
    induction N6 with
    | zero => intro σ x1 x2 h; cases h
    | succ N6 ih6 =>
      intro σ x1 x2 h H locs ls hP hS hl
      have hD : va_D (AR q) (wR q cA σ) := dd_re (wR_f _ _ _ _) hD
      rw [f_R_allLeads_L6] at h
      refine lv_iload_n hx hb d_R_allLeads_6 rfl (lv_at hl 2 rfl) ?_
      refine lv_aload_n hx hb d_R_allLeads_7 rfl (lv_at hl 0 rfl) ?_
      refine gf_R_69 hx hb hts hown hK hP d_R_allLeads_8 ?_
      refine lv_icmp_ge (tgt := 31) hx hb d_R_allLeads_11 rfl (fun hc => ?_) (fun hc => ?_)
      · have h := if_t hc h
        refine lv_aload_n hx hb d_R_allLeads_31 rfl (lv_at hl 0 rfl) ?_
        refine gf_R_25 hx hb hts hown hK hP d_R_allLeads_32 ?_
        refine lv_iload_n hx hb d_R_allLeads_35 rfl (lv_at hl 1 rfl) ?_
        obtain ⟨hgd, h⟩ := gd_some h
        refine al_R_6 hx hb hK hP hgd d_R_allLeads_36 ?_
        refine lv_if_le (tgt := 56) hx hb d_R_allLeads_37 rfl (fun hc => ?_) (fun hc => ?_)
        · have h := if_t hc h
          refine lv_iconst (v := 0) hx hb d_R_allLeads_56 (by decide) ?_
          refine lv_istore_n hx hb d_R_allLeads_57 rfl hl (by decide) rfl (fun ls hl => ?_)
          have hl : lv_has ls 5 [(2, .int 0), (0, .ref (q 0)), (1, .int x1)] := hl
          refine lv_iconst (v := 0) hx hb d_R_allLeads_58 (by decide) ?_
          refine lv_istore_n hx hb d_R_allLeads_59 rfl hl (by decide) rfl (fun ls hl => ?_)
          have hl : lv_has ls 5 [(3, .int 0), (2, .int 0), (0, .ref (q 0)), (1, .int x1)] := hl
          exact L60 _ _ _ _ _ h _ _ _ hP hS (lv_sub hl [2, 3, 1, 0] rfl)
        · have h := if_f hc h
          refine lv_aload_n hx hb d_R_allLeads_40 rfl (lv_at hl 0 rfl) ?_
          refine gf_R_38 hx hb hts hown hK hP d_R_allLeads_41 ?_
          refine lv_aload_n hx hb d_R_allLeads_44 rfl (lv_at hl 0 rfl) ?_
          refine gf_R_25 hx hb hts hown hK hP d_R_allLeads_45 ?_
          refine lv_iload_n hx hb d_R_allLeads_48 rfl (lv_at hl 1 rfl) ?_
          obtain ⟨hgd, h⟩ := gd_some h
          refine al_R_6 hx hb hK hP hgd d_R_allLeads_49 ?_
          refine lv_iconst (v := 1) hx hb d_R_allLeads_50 (by decide) ?_
          refine lv_isub hx hb d_R_allLeads_51 ?_
          obtain ⟨hgd, h⟩ := gd_some h
          refine al_R_10 hx hb hK hP hgd d_R_allLeads_52 ?_
          refine lv_goto (tgt := 57) hx hb d_R_allLeads_53 rfl ?_
          refine lv_istore_n hx hb d_R_allLeads_57 rfl hl (by decide) rfl (fun ls hl => ?_)
          have hl : lv_has ls 5 [(2, .int (σ 10 ((σ 6 x1.toNatClampNeg) - 1).toNatClampNeg)), (0, .ref (q 0)), (1, .int x1)] := hl
          refine lv_iconst (v := 0) hx hb d_R_allLeads_58 (by decide) ?_
          refine lv_istore_n hx hb d_R_allLeads_59 rfl hl (by decide) rfl (fun ls hl => ?_)
          have hl : lv_has ls 5 [(3, .int 0), (2, .int (σ 10 ((σ 6 x1.toNatClampNeg) - 1).toNatClampNeg)), (0, .ref (q 0)), (1, .int x1)] := hl
          exact L60 _ _ _ _ _ h _ _ _ hP hS (lv_sub hl [2, 3, 1, 0] rfl)
      · have h := if_f hc h
        refine lv_aload_n hx hb d_R_allLeads_14 rfl (lv_at hl 0 rfl) ?_
        refine gf_R_38 hx hb hts hown hK hP d_R_allLeads_15 ?_
        refine lv_iload_n hx hb d_R_allLeads_18 rfl (lv_at hl 2 rfl) ?_
        refine lv_aload_n hx hb d_R_allLeads_19 rfl (lv_at hl 0 rfl) ?_
        refine lv_iload_n hx hb d_R_allLeads_20 rfl (lv_at hl 2 rfl) ?_
        obtain ⟨r2, hcl, h⟩ := bd_some h
        refine cx_read (va_runV (As := [.int x2]) (rest := [.int x2, .ref (q 10)]) ⟨hx, hb, hml, hown, hts⟩ (c_R_leadsNow l dC dI q cA σ x2 _ hcl) (cw_R_116 hts ⟨Nat.le_of_ble_eq_true rfl, Nat.le_of_ble_eq_true rfl⟩) ⟨pxR_B, va_recv hK hP (ci := 7) (q0 := 0) rfl rfl, pxR_U hP hK hD hN hZ hS⟩ rfl rfl hl.1 rfl (lv_room (Nat.le_of_ble_eq_true rfl)) d_R_allLeads_21 ⟨Nat.zero_le _, Nat.zero_le _⟩) ?_
        obtain ⟨hgd, h⟩ := gd_some h
        refine as_R_10 hx hb hK hP hD hS hgd d_R_allLeads_24 (fun H locs hP hS => ?_)
        obtain ⟨σ1, eσ1, h⟩ := st_some h
        rw [← eσ1] at hP
        have hD : va_D (AR q) (wR q cA σ1) := dd_re (wR_f _ _ _ _) hD
        refine lv_iinc (v := x2 + 1) hx hb d_R_allLeads_25 hl (k := 2) rfl rfl (by decide) rfl (fun ls hl => ?_)
        have hl : lv_has ls 5 [(2, .int (x2 + 1)), (0, .ref (q 0)), (1, .int x1)] := hl
        refine lv_goto (tgt := 6) hx hb d_R_allLeads_28 rfl ?_
        exact ih6 _ _ _ h _ _ _ hP hS (lv_sub hl [1, 2, 0] rfl)
  rw [f_R_allLeads] at h
  refine lv_aload_n hx hb d_R_allLeads_0 rfl (lv_at hl 0 rfl) ?_
  obtain ⟨u1, hcl, h⟩ := bd_some h
  refine cx_wrv (va_runV (As := []) (rest := []) ⟨hx, hb, hml, hown, hts⟩ (c_R_findEmpty l dC dI q cA σ _ hcl) (cw_R_109 hts ⟨Nat.le_of_ble_eq_true rfl, Nat.le_of_ble_eq_true rfl⟩) ⟨pxR_B, va_recv hK hP (ci := 7) (q0 := 0) rfl rfl, pxR_U hP hK hD hN hZ hS⟩ rfl rfl hl.1 rfl (lv_room (Nat.le_of_ble_eq_true rfl)) d_R_allLeads_1 ⟨Nat.zero_le _, Nat.zero_le _⟩) hS (fun _ h => h) (fun H locs hP hS => ?_)
  have hD : va_D (AR q) (wR q cA u1) := dd_re (wR_f _ _ _ _) hD
  refine lv_iconst (v := 0) hx hb d_R_allLeads_4 (by decide) ?_
  refine lv_istore_n hx hb d_R_allLeads_5 rfl hl (by decide) rfl (fun ls hl => ?_)
  have hl : lv_has ls 5 [(2, .int 0), (0, .ref (q 0)), (1, .int a1)] := hl
  exact L6 _ _ _ _ h _ _ _ hP hS (lv_sub hl [1, 2, 0] rfl)
def y_R_empty : MethodName := ⟨"StagedParsersModel", "empty", "(I)Z"⟩
def w_R_empty : List Cond := .code y_R_empty prog_9_method_19_code 2 (some .boolean) :: AW_
def rm_R_empty : Room := { frames := 2, cells := 0, slots := 0, locals := 45 }
theorem d_R_empty_0 : decode prog_9_method_19_code 0 = .ok (.aload_n 0, 1) := by decide +kernel
theorem d_R_empty_1 : decode prog_9_method_19_code 1 = .ok (.iconst 0, 1) := by decide +kernel
theorem d_R_empty_2 : decode prog_9_method_19_code 2 = .ok (.putfield 65, 3) := by decide +kernel
theorem d_R_empty_5 : decode prog_9_method_19_code 5 = .ok (.aload_n 0, 1) := by decide +kernel
theorem d_R_empty_6 : decode prog_9_method_19_code 6 = .ok (.iload_n 1, 1) := by decide +kernel
theorem d_R_empty_7 : decode prog_9_method_19_code 7 = .ok (.invokevirtual 80, 3) := by decide +kernel
theorem d_R_empty_10 : decode prog_9_method_19_code 10 = .ok (.ifCond .ne 10, 3) := by decide +kernel
theorem d_R_empty_13 : decode prog_9_method_19_code 13 = .ok (.aload_n 0, 1) := by decide +kernel
theorem d_R_empty_14 : decode prog_9_method_19_code 14 = .ok (.iconst 1, 1) := by decide +kernel
theorem d_R_empty_15 : decode prog_9_method_19_code 15 = .ok (.putfield 65, 3) := by decide +kernel
theorem d_R_empty_18 : decode prog_9_method_19_code 18 = .ok (.iconst 0, 1) := by decide +kernel
theorem d_R_empty_19 : decode prog_9_method_19_code 19 = .ok (.ireturn, 1) := by decide +kernel
theorem d_R_empty_20 : decode prog_9_method_19_code 20 = .ok (.aload_n 0, 1) := by decide +kernel
theorem d_R_empty_21 : decode prog_9_method_19_code 21 = .ok (.invokevirtual 109, 3) := by decide +kernel
theorem d_R_empty_24 : decode prog_9_method_19_code 24 = .ok (.aload_n 0, 1) := by decide +kernel
theorem d_R_empty_25 : decode prog_9_method_19_code 25 = .ok (.getfield 31, 3) := by decide +kernel
theorem d_R_empty_28 : decode prog_9_method_19_code 28 = .ok (.iload_n 1, 1) := by decide +kernel
theorem d_R_empty_29 : decode prog_9_method_19_code 29 = .ok (.baload, 1) := by decide +kernel
theorem d_R_empty_30 : decode prog_9_method_19_code 30 = .ok (.ireturn, 1) := by decide +kernel
def f_R_empty (σ : MZ_) (a1 : Int32) : Option (Int32 × MZ_) :=
  st_ (va_up σ 30 (fun _ => 0)) fun σ1 => (f_R_isNode σ1 a1).bind fun r1 => if r1 = 0 then st_ (va_up σ1 30 (fun _ => 1)) fun σ2 => some (0, σ2)
  else (f_R_findEmpty σ1).bind fun u2 => gd_ a1 80 (bo_ (u2 8 a1.toNatClampNeg) (some (u2 8 a1.toNatClampNeg, u2)))
set_option maxHeartbeats 4000000 in
set_option maxRecDepth 100000 in
theorem c_R_empty (l : Launch) (dC : Nat → ClassId) (dI : Nat → Nat → Nat) (q : Nat → Nat) (cA : Nat → ClassId) (σ : MZ_) (a1 : Int32) (u : Int32 × MZ_) (h : f_R_empty σ a1 = some u) : Met l y_R_empty w_R_empty rm_R_empty (va_Pc [.ref (q 0), .int a1] (PRx_ dC dI q cA σ)) (QW_ (some (.int u.1)) (fun H => va_P (dC, dI) cls_ (wR q cA u.2) H) (AR q)) 0 0 (AR q) := by
  refine Met.ofW (cc := prog_9_method_19_code) (maxL := 2) (ret := (some .boolean)) (by decide) rfl ?_
  intro p e s m args below meth c s₁ B hml hv
  obtain ⟨rfl, hP, hK, hD, hN, hZ⟩ := hv
  have hx := B.exec
  have hb := B.bytes
  have hr := B.returns
  have hts : ∀ w ∈ AW_, w.before _ s = true := fun w h => atoms_spec (ws := w_R_empty) B.pre w (List.mem_cons_of_mem _ h)
  have hown : s.vm.findClass "StagedParsersModel" = some m.cls := findClass_of_methodNamed B.named
  have hlocks := B.notSynchronized
  have hS : va_S (AR q) s.heap s.heap [] := va_S.rf
  have hl := lv_entry ([.ref (q 0), .int a1]) (n := 2) (Nat.le_of_ble_eq_true rfl)
  rw [lg_entry_eq]
  generalize (lg_sl ([.ref (q 0), .int a1]) ++ List.replicate (2 - (lg_sl ([.ref (q 0), .int a1])).length) Slot.unset).toArray = ls at hl ⊢
  have hl : lv_has ls 2 [(0, .ref (q 0)), (1, .int a1)] := hl
  rw [f_R_empty] at h
  refine lv_aload_n hx hb d_R_empty_0 rfl (lv_at hl 0 rfl) ?_
  refine lv_iconst (v := 0) hx hb d_R_empty_1 (by decide) ?_
  refine pf_R_65 hx hb hts hown hK hP hD hS d_R_empty_2 (fun H locs hP hS => ?_)
  obtain ⟨σ1, eσ1, h⟩ := st_some h
  rw [← eσ1] at hP
  have hD : va_D (AR q) (wR q cA σ1) := dd_re (wR_f _ _ _ _) hD
  refine lv_aload_n hx hb d_R_empty_5 rfl (lv_at hl 0 rfl) ?_
  refine lv_iload_n hx hb d_R_empty_6 rfl (lv_at hl 1 rfl) ?_
  obtain ⟨r1, hcl, h⟩ := bd_some h
  refine cx_read (va_runV (As := [.int a1]) (rest := []) ⟨hx, hb, hml, hown, hts⟩ (c_R_isNode l dC dI q cA σ1 a1 _ hcl) (cw_R_80 hts ⟨Nat.le_of_ble_eq_true rfl, Nat.le_of_ble_eq_true rfl⟩) ⟨pxR_B, va_recv hK hP (ci := 7) (q0 := 0) rfl rfl, pxR_U hP hK hD hN hZ hS⟩ rfl rfl hl.1 rfl (lv_room (Nat.le_of_ble_eq_true rfl)) d_R_empty_7 ⟨Nat.zero_le _, Nat.zero_le _⟩) ?_
  refine lv_if_ne (tgt := 20) hx hb d_R_empty_10 rfl (fun hc => ?_) (fun hc => ?_)
  · have h := if_f hc h
    refine lv_aload_n hx hb d_R_empty_20 rfl (lv_at hl 0 rfl) ?_
    obtain ⟨u2, hcl, h⟩ := bd_some h
    refine cx_wrv (va_runV (As := []) (rest := []) ⟨hx, hb, hml, hown, hts⟩ (c_R_findEmpty l dC dI q cA σ1 _ hcl) (cw_R_109 hts ⟨Nat.le_of_ble_eq_true rfl, Nat.le_of_ble_eq_true rfl⟩) ⟨pxR_B, va_recv hK hP (ci := 7) (q0 := 0) rfl rfl, pxR_U hP hK hD hN hZ hS⟩ rfl rfl hl.1 rfl (lv_room (Nat.le_of_ble_eq_true rfl)) d_R_empty_21 ⟨Nat.zero_le _, Nat.zero_le _⟩) hS (fun _ h => h) (fun H locs hP hS => ?_)
    have hD : va_D (AR q) (wR q cA u2) := dd_re (wR_f _ _ _ _) hD
    refine lv_aload_n hx hb d_R_empty_24 rfl (lv_at hl 0 rfl) ?_
    refine gf_R_31 hx hb hts hown hK hP d_R_empty_25 ?_
    refine lv_iload_n hx hb d_R_empty_28 rfl (lv_at hl 1 rfl) ?_
    obtain ⟨hgd, h⟩ := gd_some h
    refine al_R_8 hx hb hK hP hgd d_R_empty_29 ?_
    obtain ⟨hbo, h⟩ := bo_some h
    obtain rfl := Option.some.inj h
    exact W.zret hx hb hr (bo_nar hbo) (fun t ht hW => ⟨rfl, by rw [ht]; exact hP, hS.F ht⟩) hS.2.2 d_R_empty_30
  · have h := if_t hc h
    refine lv_aload_n hx hb d_R_empty_13 rfl (lv_at hl 0 rfl) ?_
    refine lv_iconst (v := 1) hx hb d_R_empty_14 (by decide) ?_
    refine pf_R_65 hx hb hts hown hK hP hD hS d_R_empty_15 (fun H locs hP hS => ?_)
    obtain ⟨σ2, eσ2, h⟩ := st_some h
    rw [← eσ2] at hP
    have hD : va_D (AR q) (wR q cA σ2) := dd_re (wR_f _ _ _ _) hD
    refine lv_iconst (v := 0) hx hb d_R_empty_18 (by decide) ?_
    obtain rfl := Option.some.inj h
    exact W.zret hx hb hr rfl (fun t ht hW => ⟨rfl, by rw [ht]; exact hP, hS.F ht⟩) hS.2.2 d_R_empty_19
def y_R_begins : MethodName := ⟨"StagedParsersModel", "begins", "(II)Z"⟩
def w_R_begins : List Cond := .code y_R_begins prog_9_method_20_code 3 (some .boolean) :: AW_
def rm_R_begins : Room := { frames := 3, cells := 0, slots := 0, locals := 69 }
theorem d_R_begins_0 : decode prog_9_method_20_code 0 = .ok (.aload_n 0, 1) := by decide +kernel
theorem d_R_begins_1 : decode prog_9_method_20_code 1 = .ok (.iconst 0, 1) := by decide +kernel
theorem d_R_begins_2 : decode prog_9_method_20_code 2 = .ok (.putfield 65, 3) := by decide +kernel
theorem d_R_begins_5 : decode prog_9_method_20_code 5 = .ok (.aload_n 0, 1) := by decide +kernel
theorem d_R_begins_6 : decode prog_9_method_20_code 6 = .ok (.iload_n 1, 1) := by decide +kernel
theorem d_R_begins_7 : decode prog_9_method_20_code 7 = .ok (.invokevirtual 80, 3) := by decide +kernel
theorem d_R_begins_10 : decode prog_9_method_20_code 10 = .ok (.ifCond .eq 14, 3) := by decide +kernel
theorem d_R_begins_13 : decode prog_9_method_20_code 13 = .ok (.iload_n 2, 1) := by decide +kernel
theorem d_R_begins_14 : decode prog_9_method_20_code 14 = .ok (.iconst 0, 1) := by decide +kernel
theorem d_R_begins_15 : decode prog_9_method_20_code 15 = .ok (.sipush 255, 3) := by decide +kernel
theorem d_R_begins_18 : decode prog_9_method_20_code 18 = .ok (.invokestatic 72, 3) := by decide +kernel
theorem d_R_begins_21 : decode prog_9_method_20_code 21 = .ok (.ifCond .ne 10, 3) := by decide +kernel
theorem d_R_begins_24 : decode prog_9_method_20_code 24 = .ok (.aload_n 0, 1) := by decide +kernel
theorem d_R_begins_25 : decode prog_9_method_20_code 25 = .ok (.iconst 1, 1) := by decide +kernel
theorem d_R_begins_26 : decode prog_9_method_20_code 26 = .ok (.putfield 65, 3) := by decide +kernel
theorem d_R_begins_29 : decode prog_9_method_20_code 29 = .ok (.iconst 0, 1) := by decide +kernel
theorem d_R_begins_30 : decode prog_9_method_20_code 30 = .ok (.ireturn, 1) := by decide +kernel
theorem d_R_begins_31 : decode prog_9_method_20_code 31 = .ok (.aload_n 0, 1) := by decide +kernel
theorem d_R_begins_32 : decode prog_9_method_20_code 32 = .ok (.iload_n 2, 1) := by decide +kernel
theorem d_R_begins_33 : decode prog_9_method_20_code 33 = .ok (.invokevirtual 119, 3) := by decide +kernel
theorem d_R_begins_36 : decode prog_9_method_20_code 36 = .ok (.aload_n 0, 1) := by decide +kernel
theorem d_R_begins_37 : decode prog_9_method_20_code 37 = .ok (.getfield 35, 3) := by decide +kernel
theorem d_R_begins_40 : decode prog_9_method_20_code 40 = .ok (.iload_n 1, 1) := by decide +kernel
theorem d_R_begins_41 : decode prog_9_method_20_code 41 = .ok (.baload, 1) := by decide +kernel
theorem d_R_begins_42 : decode prog_9_method_20_code 42 = .ok (.ireturn, 1) := by decide +kernel
section RW
variable {p : Program} {l : Launch} {e : Env} {R : Room} {s : State} {m : MethodId} {args : Array Value} {below : List Frame} {meth : Method} {c : Code} {H : Heap} {locs : List Loc} {cells slots : Nat} {Q : State → Prop}
variable {cc : ByteArray} {pc : Nat} {ls : Array Slot} {rest : List Value} {dC : Nat → ClassId} {dI : Nat → Nat → Nat} {q : Nat → Nat} {cA : Nat → ClassId} {σ : MZ_} {H0 : Heap} {A : Nat → Prop}

theorem cw_R_119 (hts : ∀ w ∈ AW_, w.before args s = true) (hR : rm_R_findBeginning.frames + 1 ≤ R.frames ∧ 8 + (5 + 11) + rm_R_findBeginning.locals ≤ R.locals) : CallW R s args "StagedParsersModel" "StagedParsersModel" 119 y_R_findBeginning prog_9_method_16_code 5 none w_R_findBeginning rm_R_findBeginning 0 0 1 :=
  ⟨callB_of 1 hts (aw_in kw_974) rfl rfl rfl (hts _ kw_9) (hts _ kw_971) ⟨by decide, by decide, by decide +kernel⟩ hR, hts _ kw_973, hts _ ks_47⟩
end RW
def f_R_begins (σ : MZ_) (a1 : Int32) (a2 : Int32) : Option (Int32 × MZ_) :=
  st_ (va_up σ 30 (fun _ => 0)) fun σ1 => (f_R_isNode σ1 a1).bind fun r1 => if r1 = 0 then st_ (va_up σ1 30 (fun _ => 1)) fun σ2 => some (0, σ2)
  else (f_R_in a2 0 255).bind fun r2 => if r2 = 0 then st_ (va_up σ1 30 (fun _ => 1)) fun σ3 => some (0, σ3)
  else (f_R_findBeginning σ1 a2).bind fun u3 => gd_ a1 80 (bo_ (u3 9 a1.toNatClampNeg) (some (u3 9 a1.toNatClampNeg, u3)))
set_option maxHeartbeats 4000000 in
set_option maxRecDepth 100000 in
theorem c_R_begins (l : Launch) (dC : Nat → ClassId) (dI : Nat → Nat → Nat) (q : Nat → Nat) (cA : Nat → ClassId) (σ : MZ_) (a1 : Int32) (a2 : Int32) (u : Int32 × MZ_) (h : f_R_begins σ a1 a2 = some u) : Met l y_R_begins w_R_begins rm_R_begins (va_Pc [.ref (q 0), .int a1, .int a2] (PRx_ dC dI q cA σ)) (QW_ (some (.int u.1)) (fun H => va_P (dC, dI) cls_ (wR q cA u.2) H) (AR q)) 0 0 (AR q) := by
  refine Met.ofW (cc := prog_9_method_20_code) (maxL := 3) (ret := (some .boolean)) (by decide) rfl ?_
  intro p e s m args below meth c s₁ B hml hv
  obtain ⟨rfl, hP, hK, hD, hN, hZ⟩ := hv
  have hx := B.exec
  have hb := B.bytes
  have hr := B.returns
  have hts : ∀ w ∈ AW_, w.before _ s = true := fun w h => atoms_spec (ws := w_R_begins) B.pre w (List.mem_cons_of_mem _ h)
  have hown : s.vm.findClass "StagedParsersModel" = some m.cls := findClass_of_methodNamed B.named
  have hlocks := B.notSynchronized
  have hS : va_S (AR q) s.heap s.heap [] := va_S.rf
  have hl := lv_entry ([.ref (q 0), .int a1, .int a2]) (n := 3) (Nat.le_of_ble_eq_true rfl)
  rw [lg_entry_eq]
  generalize (lg_sl ([.ref (q 0), .int a1, .int a2]) ++ List.replicate (3 - (lg_sl ([.ref (q 0), .int a1, .int a2])).length) Slot.unset).toArray = ls at hl ⊢
  have hl : lv_has ls 3 [(0, .ref (q 0)), (1, .int a1), (2, .int a2)] := hl
  rw [f_R_begins] at h
  refine lv_aload_n hx hb d_R_begins_0 rfl (lv_at hl 0 rfl) ?_
  refine lv_iconst (v := 0) hx hb d_R_begins_1 (by decide) ?_
  refine pf_R_65 hx hb hts hown hK hP hD hS d_R_begins_2 (fun H locs hP hS => ?_)
  obtain ⟨σ1, eσ1, h⟩ := st_some h
  rw [← eσ1] at hP
  have hD : va_D (AR q) (wR q cA σ1) := dd_re (wR_f _ _ _ _) hD
  refine lv_aload_n hx hb d_R_begins_5 rfl (lv_at hl 0 rfl) ?_
  refine lv_iload_n hx hb d_R_begins_6 rfl (lv_at hl 1 rfl) ?_
  obtain ⟨r1, hcl, h⟩ := bd_some h
  refine cx_read (va_runV (As := [.int a1]) (rest := []) ⟨hx, hb, hml, hown, hts⟩ (c_R_isNode l dC dI q cA σ1 a1 _ hcl) (cw_R_80 hts ⟨Nat.le_of_ble_eq_true rfl, Nat.le_of_ble_eq_true rfl⟩) ⟨pxR_B, va_recv hK hP (ci := 7) (q0 := 0) rfl rfl, pxR_U hP hK hD hN hZ hS⟩ rfl rfl hl.1 rfl (lv_room (Nat.le_of_ble_eq_true rfl)) d_R_begins_7 ⟨Nat.zero_le _, Nat.zero_le _⟩) ?_
  refine lv_if_eq (tgt := 24) hx hb d_R_begins_10 rfl (fun hc => ?_) (fun hc => ?_)
  · have h := if_t hc h
    refine lv_aload_n hx hb d_R_begins_24 rfl (lv_at hl 0 rfl) ?_
    refine lv_iconst (v := 1) hx hb d_R_begins_25 (by decide) ?_
    refine pf_R_65 hx hb hts hown hK hP hD hS d_R_begins_26 (fun H locs hP hS => ?_)
    obtain ⟨σ2, eσ2, h⟩ := st_some h
    rw [← eσ2] at hP
    have hD : va_D (AR q) (wR q cA σ2) := dd_re (wR_f _ _ _ _) hD
    refine lv_iconst (v := 0) hx hb d_R_begins_29 (by decide) ?_
    obtain rfl := Option.some.inj h
    exact W.zret hx hb hr rfl (fun t ht hW => ⟨rfl, by rw [ht]; exact hP, hS.F ht⟩) hS.2.2 d_R_begins_30
  · have h := if_f hc h
    refine lv_iload_n hx hb d_R_begins_13 rfl (lv_at hl 2 rfl) ?_
    refine lv_iconst (v := 0) hx hb d_R_begins_14 (by decide) ?_
    refine lv_sipush (v := 255) hx hb d_R_begins_15 (by decide) ?_
    obtain ⟨r2, hcl, h⟩ := bd_some h
    refine cx_read (va_runS (As := [.int a2, .int 0, .int 255]) (rest := []) ⟨hx, hb, hml, hown, hts⟩ (c_R_in l dC dI q cA σ1 a2 0 255 _ hcl) (cw_R_72 hts ⟨Nat.le_of_ble_eq_true rfl, Nat.le_of_ble_eq_true rfl⟩) ⟨pxR_B, pxR_U hP hK hD hN hZ hS⟩ rfl rfl hl.1 rfl (lv_room (Nat.le_of_ble_eq_true rfl)) d_R_begins_18 ⟨Nat.zero_le _, Nat.zero_le _⟩) ?_
    refine lv_if_ne (tgt := 31) hx hb d_R_begins_21 rfl (fun hc => ?_) (fun hc => ?_)
    · have h := if_f hc h
      refine lv_aload_n hx hb d_R_begins_31 rfl (lv_at hl 0 rfl) ?_
      refine lv_iload_n hx hb d_R_begins_32 rfl (lv_at hl 2 rfl) ?_
      obtain ⟨u3, hcl, h⟩ := bd_some h
      refine cx_wrv (va_runV (As := [.int a2]) (rest := []) ⟨hx, hb, hml, hown, hts⟩ (c_R_findBeginning l dC dI q cA σ1 a2 _ hcl) (cw_R_119 hts ⟨Nat.le_of_ble_eq_true rfl, Nat.le_of_ble_eq_true rfl⟩) ⟨pxR_B, va_recv hK hP (ci := 7) (q0 := 0) rfl rfl, pxR_U hP hK hD hN hZ hS⟩ rfl rfl hl.1 rfl (lv_room (Nat.le_of_ble_eq_true rfl)) d_R_begins_33 ⟨Nat.zero_le _, Nat.zero_le _⟩) hS (fun _ h => h) (fun H locs hP hS => ?_)
      have hD : va_D (AR q) (wR q cA u3) := dd_re (wR_f _ _ _ _) hD
      refine lv_aload_n hx hb d_R_begins_36 rfl (lv_at hl 0 rfl) ?_
      refine gf_R_35 hx hb hts hown hK hP d_R_begins_37 ?_
      refine lv_iload_n hx hb d_R_begins_40 rfl (lv_at hl 1 rfl) ?_
      obtain ⟨hgd, h⟩ := gd_some h
      refine al_R_9 hx hb hK hP hgd d_R_begins_41 ?_
      obtain ⟨hbo, h⟩ := bo_some h
      obtain rfl := Option.some.inj h
      exact W.zret hx hb hr (bo_nar hbo) (fun t ht hW => ⟨rfl, by rw [ht]; exact hP, hS.F ht⟩) hS.2.2 d_R_begins_42
    · have h := if_t hc h
      refine lv_aload_n hx hb d_R_begins_24 rfl (lv_at hl 0 rfl) ?_
      refine lv_iconst (v := 1) hx hb d_R_begins_25 (by decide) ?_
      refine pf_R_65 hx hb hts hown hK hP hD hS d_R_begins_26 (fun H locs hP hS => ?_)
      obtain ⟨σ3, eσ3, h⟩ := st_some h
      rw [← eσ3] at hP
      have hD : va_D (AR q) (wR q cA σ3) := dd_re (wR_f _ _ _ _) hD
      refine lv_iconst (v := 0) hx hb d_R_begins_29 (by decide) ?_
      obtain rfl := Option.some.inj h
      exact W.zret hx hb hr rfl (fun t ht hW => ⟨rfl, by rw [ht]; exact hP, hS.F ht⟩) hS.2.2 d_R_begins_30
def y_R_leads : MethodName := ⟨"StagedParsersModel", "leads", "(I)I"⟩
def w_R_leads : List Cond := .code y_R_leads prog_9_method_21_code 2 (some .int) :: AW_
def rm_R_leads : Room := { frames := 3, cells := 0, slots := 0, locals := 69 }
theorem d_R_leads_0 : decode prog_9_method_21_code 0 = .ok (.aload_n 0, 1) := by decide +kernel
theorem d_R_leads_1 : decode prog_9_method_21_code 1 = .ok (.iconst 0, 1) := by decide +kernel
theorem d_R_leads_2 : decode prog_9_method_21_code 2 = .ok (.putfield 65, 3) := by decide +kernel
theorem d_R_leads_5 : decode prog_9_method_21_code 5 = .ok (.iload_n 1, 1) := by decide +kernel
theorem d_R_leads_6 : decode prog_9_method_21_code 6 = .ok (.iconst 0, 1) := by decide +kernel
theorem d_R_leads_7 : decode prog_9_method_21_code 7 = .ok (.iconst 5, 1) := by decide +kernel
theorem d_R_leads_8 : decode prog_9_method_21_code 8 = .ok (.invokestatic 72, 3) := by decide +kernel
theorem d_R_leads_11 : decode prog_9_method_21_code 11 = .ok (.ifCond .ne 9, 3) := by decide +kernel
theorem d_R_leads_14 : decode prog_9_method_21_code 14 = .ok (.aload_n 0, 1) := by decide +kernel
theorem d_R_leads_15 : decode prog_9_method_21_code 15 = .ok (.iconst 1, 1) := by decide +kernel
theorem d_R_leads_16 : decode prog_9_method_21_code 16 = .ok (.invokevirtual 94, 3) := by decide +kernel
theorem d_R_leads_19 : decode prog_9_method_21_code 19 = .ok (.ireturn, 1) := by decide +kernel
theorem d_R_leads_20 : decode prog_9_method_21_code 20 = .ok (.aload_n 0, 1) := by decide +kernel
theorem d_R_leads_21 : decode prog_9_method_21_code 21 = .ok (.iload_n 1, 1) := by decide +kernel
theorem d_R_leads_22 : decode prog_9_method_21_code 22 = .ok (.invokevirtual 123, 3) := by decide +kernel
theorem d_R_leads_25 : decode prog_9_method_21_code 25 = .ok (.ireturn, 1) := by decide +kernel
section RW
variable {p : Program} {l : Launch} {e : Env} {R : Room} {s : State} {m : MethodId} {args : Array Value} {below : List Frame} {meth : Method} {c : Code} {H : Heap} {locs : List Loc} {cells slots : Nat} {Q : State → Prop}
variable {cc : ByteArray} {pc : Nat} {ls : Array Slot} {rest : List Value} {dC : Nat → ClassId} {dI : Nat → Nat → Nat} {q : Nat → Nat} {cA : Nat → ClassId} {σ : MZ_} {H0 : Heap} {A : Nat → Prop}

theorem cw_R_123 (hts : ∀ w ∈ AW_, w.before args s = true) (hR : rm_R_allLeads.frames + 1 ≤ R.frames ∧ 8 + (5 + 11) + rm_R_allLeads.locals ≤ R.locals) : CallW R s args "StagedParsersModel" "StagedParsersModel" 123 y_R_allLeads prog_9_method_18_code 5 (some .int) w_R_allLeads rm_R_allLeads 0 0 1 :=
  ⟨callB_of 1 hts (aw_in kw_986) rfl rfl rfl (hts _ kw_9) (hts _ kw_983) ⟨by decide, by decide, by decide +kernel⟩ hR, hts _ kw_985, hts _ ks_49⟩
end RW
def f_R_leads (σ : MZ_) (a1 : Int32) : Option (Int32 × MZ_) :=
  st_ (va_up σ 30 (fun _ => 0)) fun σ1 => (f_R_in a1 0 5).bind fun r1 => if r1 = 0 then (f_R_fails σ1 1).bind fun u3 => some (u3.1, u3.2)
  else (f_R_allLeads σ1 a1).bind fun u2 => some (u2.1, u2.2)
set_option maxHeartbeats 4000000 in
set_option maxRecDepth 100000 in
theorem c_R_leads (l : Launch) (dC : Nat → ClassId) (dI : Nat → Nat → Nat) (q : Nat → Nat) (cA : Nat → ClassId) (σ : MZ_) (a1 : Int32) (u : Int32 × MZ_) (h : f_R_leads σ a1 = some u) : Met l y_R_leads w_R_leads rm_R_leads (va_Pc [.ref (q 0), .int a1] (PRx_ dC dI q cA σ)) (QW_ (some (.int u.1)) (fun H => va_P (dC, dI) cls_ (wR q cA u.2) H) (AR q)) 0 0 (AR q) := by
  refine Met.ofW (cc := prog_9_method_21_code) (maxL := 2) (ret := (some .int)) (by decide) rfl ?_
  intro p e s m args below meth c s₁ B hml hv
  obtain ⟨rfl, hP, hK, hD, hN, hZ⟩ := hv
  have hx := B.exec
  have hb := B.bytes
  have hr := B.returns
  have hts : ∀ w ∈ AW_, w.before _ s = true := fun w h => atoms_spec (ws := w_R_leads) B.pre w (List.mem_cons_of_mem _ h)
  have hown : s.vm.findClass "StagedParsersModel" = some m.cls := findClass_of_methodNamed B.named
  have hlocks := B.notSynchronized
  have hS : va_S (AR q) s.heap s.heap [] := va_S.rf
  have hl := lv_entry ([.ref (q 0), .int a1]) (n := 2) (Nat.le_of_ble_eq_true rfl)
  rw [lg_entry_eq]
  generalize (lg_sl ([.ref (q 0), .int a1]) ++ List.replicate (2 - (lg_sl ([.ref (q 0), .int a1])).length) Slot.unset).toArray = ls at hl ⊢
  have hl : lv_has ls 2 [(0, .ref (q 0)), (1, .int a1)] := hl
  rw [f_R_leads] at h
  refine lv_aload_n hx hb d_R_leads_0 rfl (lv_at hl 0 rfl) ?_
  refine lv_iconst (v := 0) hx hb d_R_leads_1 (by decide) ?_
  refine pf_R_65 hx hb hts hown hK hP hD hS d_R_leads_2 (fun H locs hP hS => ?_)
  obtain ⟨σ1, eσ1, h⟩ := st_some h
  rw [← eσ1] at hP
  have hD : va_D (AR q) (wR q cA σ1) := dd_re (wR_f _ _ _ _) hD
  refine lv_iload_n hx hb d_R_leads_5 rfl (lv_at hl 1 rfl) ?_
  refine lv_iconst (v := 0) hx hb d_R_leads_6 (by decide) ?_
  refine lv_iconst (v := 5) hx hb d_R_leads_7 (by decide) ?_
  obtain ⟨r1, hcl, h⟩ := bd_some h
  refine cx_read (va_runS (As := [.int a1, .int 0, .int 5]) (rest := []) ⟨hx, hb, hml, hown, hts⟩ (c_R_in l dC dI q cA σ1 a1 0 5 _ hcl) (cw_R_72 hts ⟨Nat.le_of_ble_eq_true rfl, Nat.le_of_ble_eq_true rfl⟩) ⟨pxR_B, pxR_U hP hK hD hN hZ hS⟩ rfl rfl hl.1 rfl (lv_room (Nat.le_of_ble_eq_true rfl)) d_R_leads_8 ⟨Nat.zero_le _, Nat.zero_le _⟩) ?_
  refine lv_if_ne (tgt := 20) hx hb d_R_leads_11 rfl (fun hc => ?_) (fun hc => ?_)
  · have h := if_f hc h
    refine lv_aload_n hx hb d_R_leads_20 rfl (lv_at hl 0 rfl) ?_
    refine lv_iload_n hx hb d_R_leads_21 rfl (lv_at hl 1 rfl) ?_
    obtain ⟨u2, hcl, h⟩ := bd_some h
    refine cx_wri (va_runV (As := [.int a1]) (rest := []) ⟨hx, hb, hml, hown, hts⟩ (c_R_allLeads l dC dI q cA σ1 a1 _ hcl) (cw_R_123 hts ⟨Nat.le_of_ble_eq_true rfl, Nat.le_of_ble_eq_true rfl⟩) ⟨pxR_B, va_recv hK hP (ci := 7) (q0 := 0) rfl rfl, pxR_U hP hK hD hN hZ hS⟩ rfl rfl hl.1 rfl (lv_room (Nat.le_of_ble_eq_true rfl)) d_R_leads_22 ⟨Nat.zero_le _, Nat.zero_le _⟩) hS (fun _ h => h) (fun H locs hP hS => ?_)
    have hD : va_D (AR q) (wR q cA u2.2) := dd_re (wR_f _ _ _ _) hD
    obtain rfl := Option.some.inj h
    exact W.iret hx hb hr (fun t ht hW => ⟨rfl, by rw [ht]; exact hP, hS.F ht⟩) hS.2.2 d_R_leads_25
  · have h := if_t hc h
    refine lv_aload_n hx hb d_R_leads_14 rfl (lv_at hl 0 rfl) ?_
    refine lv_iconst (v := 1) hx hb d_R_leads_15 (by decide) ?_
    obtain ⟨u3, hcl, h⟩ := bd_some h
    refine cx_wri (va_runV (As := [.int 1]) (rest := []) ⟨hx, hb, hml, hown, hts⟩ (c_R_fails l dC dI q cA σ1 1 _ hcl) (cw_R_94 hts ⟨Nat.le_of_ble_eq_true rfl, Nat.le_of_ble_eq_true rfl⟩) ⟨pxR_B, va_recv hK hP (ci := 7) (q0 := 0) rfl rfl, pxR_U hP hK hD hN hZ hS⟩ rfl rfl hl.1 rfl (lv_room (Nat.le_of_ble_eq_true rfl)) d_R_leads_16 ⟨Nat.zero_le _, Nat.zero_le _⟩) hS (fun _ h => h) (fun H locs hP hS => ?_)
    have hD : va_D (AR q) (wR q cA u3.2) := dd_re (wR_f _ _ _ _) hD
    obtain rfl := Option.some.inj h
    exact W.iret hx hb hr (fun t ht hW => ⟨rfl, by rw [ht]; exact hP, hS.F ht⟩) hS.2.2 d_R_leads_19
def y_R_findWithin : MethodName := ⟨"StagedParsersModel", "findWithin", "()V"⟩
def w_R_findWithin : List Cond := .code y_R_findWithin prog_9_method_22_code 2 none :: AW_
def rm_R_findWithin : Room := { frames := 1, cells := 0, slots := 0, locals := 20 }
theorem d_R_findWithin_0 : decode prog_9_method_22_code 0 = .ok (.iconst 0, 1) := by decide +kernel
theorem d_R_findWithin_1 : decode prog_9_method_22_code 1 = .ok (.istore_n 1, 1) := by decide +kernel
theorem d_R_findWithin_2 : decode prog_9_method_22_code 2 = .ok (.iload_n 1, 1) := by decide +kernel
theorem d_R_findWithin_3 : decode prog_9_method_22_code 3 = .ok (.aload_n 0, 1) := by decide +kernel
theorem d_R_findWithin_4 : decode prog_9_method_22_code 4 = .ok (.getfield 69, 3) := by decide +kernel
theorem d_R_findWithin_7 : decode prog_9_method_22_code 7 = .ok (.if_icmp .ge 16, 3) := by decide +kernel
theorem d_R_findWithin_10 : decode prog_9_method_22_code 10 = .ok (.aload_n 0, 1) := by decide +kernel
theorem d_R_findWithin_11 : decode prog_9_method_22_code 11 = .ok (.getfield 41, 3) := by decide +kernel
theorem d_R_findWithin_14 : decode prog_9_method_22_code 14 = .ok (.iload_n 1, 1) := by decide +kernel
theorem d_R_findWithin_15 : decode prog_9_method_22_code 15 = .ok (.iconst 0, 1) := by decide +kernel
theorem d_R_findWithin_16 : decode prog_9_method_22_code 16 = .ok (.bastore, 1) := by decide +kernel
theorem d_R_findWithin_17 : decode prog_9_method_22_code 17 = .ok (.iinc 1 1, 3) := by decide +kernel
theorem d_R_findWithin_20 : decode prog_9_method_22_code 20 = .ok (.goto (-18), 3) := by decide +kernel
theorem d_R_findWithin_23 : decode prog_9_method_22_code 23 = .ok (.iconst 0, 1) := by decide +kernel
theorem d_R_findWithin_24 : decode prog_9_method_22_code 24 = .ok (.istore_n 1, 1) := by decide +kernel
theorem d_R_findWithin_25 : decode prog_9_method_22_code 25 = .ok (.iload_n 1, 1) := by decide +kernel
theorem d_R_findWithin_26 : decode prog_9_method_22_code 26 = .ok (.bipush 6, 2) := by decide +kernel
theorem d_R_findWithin_28 : decode prog_9_method_22_code 28 = .ok (.if_icmp .ge 32, 3) := by decide +kernel
theorem d_R_findWithin_31 : decode prog_9_method_22_code 31 = .ok (.aload_n 0, 1) := by decide +kernel
theorem d_R_findWithin_32 : decode prog_9_method_22_code 32 = .ok (.getfield 25, 3) := by decide +kernel
theorem d_R_findWithin_35 : decode prog_9_method_22_code 35 = .ok (.iload_n 1, 1) := by decide +kernel
theorem d_R_findWithin_36 : decode prog_9_method_22_code 36 = .ok (.iaload, 1) := by decide +kernel
theorem d_R_findWithin_37 : decode prog_9_method_22_code 37 = .ok (.ifCond .le 17, 3) := by decide +kernel
theorem d_R_findWithin_40 : decode prog_9_method_22_code 40 = .ok (.aload_n 0, 1) := by decide +kernel
theorem d_R_findWithin_41 : decode prog_9_method_22_code 41 = .ok (.getfield 41, 3) := by decide +kernel
theorem d_R_findWithin_44 : decode prog_9_method_22_code 44 = .ok (.aload_n 0, 1) := by decide +kernel
theorem d_R_findWithin_45 : decode prog_9_method_22_code 45 = .ok (.getfield 25, 3) := by decide +kernel
theorem d_R_findWithin_48 : decode prog_9_method_22_code 48 = .ok (.iload_n 1, 1) := by decide +kernel
theorem d_R_findWithin_49 : decode prog_9_method_22_code 49 = .ok (.iaload, 1) := by decide +kernel
theorem d_R_findWithin_50 : decode prog_9_method_22_code 50 = .ok (.iconst 1, 1) := by decide +kernel
theorem d_R_findWithin_51 : decode prog_9_method_22_code 51 = .ok (.isub, 1) := by decide +kernel
theorem d_R_findWithin_52 : decode prog_9_method_22_code 52 = .ok (.iconst 1, 1) := by decide +kernel
theorem d_R_findWithin_53 : decode prog_9_method_22_code 53 = .ok (.bastore, 1) := by decide +kernel
theorem d_R_findWithin_54 : decode prog_9_method_22_code 54 = .ok (.iinc 1 1, 3) := by decide +kernel
theorem d_R_findWithin_57 : decode prog_9_method_22_code 57 = .ok (.goto (-32), 3) := by decide +kernel
theorem d_R_findWithin_60 : decode prog_9_method_22_code 60 = .ok (.aload_n 0, 1) := by decide +kernel
theorem d_R_findWithin_61 : decode prog_9_method_22_code 61 = .ok (.getfield 69, 3) := by decide +kernel
theorem d_R_findWithin_64 : decode prog_9_method_22_code 64 = .ok (.iconst 1, 1) := by decide +kernel
theorem d_R_findWithin_65 : decode prog_9_method_22_code 65 = .ok (.isub, 1) := by decide +kernel
theorem d_R_findWithin_66 : decode prog_9_method_22_code 66 = .ok (.istore_n 1, 1) := by decide +kernel
theorem d_R_findWithin_67 : decode prog_9_method_22_code 67 = .ok (.iload_n 1, 1) := by decide +kernel
theorem d_R_findWithin_68 : decode prog_9_method_22_code 68 = .ok (.ifCond .lt 75, 3) := by decide +kernel
theorem d_R_findWithin_71 : decode prog_9_method_22_code 71 = .ok (.aload_n 0, 1) := by decide +kernel
theorem d_R_findWithin_72 : decode prog_9_method_22_code 72 = .ok (.getfield 41, 3) := by decide +kernel
theorem d_R_findWithin_75 : decode prog_9_method_22_code 75 = .ok (.iload_n 1, 1) := by decide +kernel
theorem d_R_findWithin_76 : decode prog_9_method_22_code 76 = .ok (.baload, 1) := by decide +kernel
theorem d_R_findWithin_77 : decode prog_9_method_22_code 77 = .ok (.ifCond .eq 27, 3) := by decide +kernel
theorem d_R_findWithin_80 : decode prog_9_method_22_code 80 = .ok (.aload_n 0, 1) := by decide +kernel
theorem d_R_findWithin_81 : decode prog_9_method_22_code 81 = .ok (.getfield 7, 3) := by decide +kernel
theorem d_R_findWithin_84 : decode prog_9_method_22_code 84 = .ok (.iload_n 1, 1) := by decide +kernel
theorem d_R_findWithin_85 : decode prog_9_method_22_code 85 = .ok (.iaload, 1) := by decide +kernel
theorem d_R_findWithin_86 : decode prog_9_method_22_code 86 = .ok (.invokestatic 76, 3) := by decide +kernel
theorem d_R_findWithin_89 : decode prog_9_method_22_code 89 = .ok (.ifCond .eq 15, 3) := by decide +kernel
theorem d_R_findWithin_92 : decode prog_9_method_22_code 92 = .ok (.aload_n 0, 1) := by decide +kernel
theorem d_R_findWithin_93 : decode prog_9_method_22_code 93 = .ok (.getfield 41, 3) := by decide +kernel
theorem d_R_findWithin_96 : decode prog_9_method_22_code 96 = .ok (.aload_n 0, 1) := by decide +kernel
theorem d_R_findWithin_97 : decode prog_9_method_22_code 97 = .ok (.getfield 13, 3) := by decide +kernel
theorem d_R_findWithin_100 : decode prog_9_method_22_code 100 = .ok (.iload_n 1, 1) := by decide +kernel
theorem d_R_findWithin_101 : decode prog_9_method_22_code 101 = .ok (.iaload, 1) := by decide +kernel
theorem d_R_findWithin_102 : decode prog_9_method_22_code 102 = .ok (.iconst 1, 1) := by decide +kernel
theorem d_R_findWithin_103 : decode prog_9_method_22_code 103 = .ok (.bastore, 1) := by decide +kernel
theorem d_R_findWithin_104 : decode prog_9_method_22_code 104 = .ok (.aload_n 0, 1) := by decide +kernel
theorem d_R_findWithin_105 : decode prog_9_method_22_code 105 = .ok (.getfield 41, 3) := by decide +kernel
theorem d_R_findWithin_108 : decode prog_9_method_22_code 108 = .ok (.iload_n 1, 1) := by decide +kernel
theorem d_R_findWithin_109 : decode prog_9_method_22_code 109 = .ok (.baload, 1) := by decide +kernel
theorem d_R_findWithin_110 : decode prog_9_method_22_code 110 = .ok (.ifCond .eq 27, 3) := by decide +kernel
theorem d_R_findWithin_113 : decode prog_9_method_22_code 113 = .ok (.aload_n 0, 1) := by decide +kernel
theorem d_R_findWithin_114 : decode prog_9_method_22_code 114 = .ok (.getfield 7, 3) := by decide +kernel
theorem d_R_findWithin_117 : decode prog_9_method_22_code 117 = .ok (.iload_n 1, 1) := by decide +kernel
theorem d_R_findWithin_118 : decode prog_9_method_22_code 118 = .ok (.iaload, 1) := by decide +kernel
theorem d_R_findWithin_119 : decode prog_9_method_22_code 119 = .ok (.invokestatic 83, 3) := by decide +kernel
theorem d_R_findWithin_122 : decode prog_9_method_22_code 122 = .ok (.ifCond .eq 15, 3) := by decide +kernel
theorem d_R_findWithin_125 : decode prog_9_method_22_code 125 = .ok (.aload_n 0, 1) := by decide +kernel
theorem d_R_findWithin_126 : decode prog_9_method_22_code 126 = .ok (.getfield 41, 3) := by decide +kernel
theorem d_R_findWithin_129 : decode prog_9_method_22_code 129 = .ok (.aload_n 0, 1) := by decide +kernel
theorem d_R_findWithin_130 : decode prog_9_method_22_code 130 = .ok (.getfield 16, 3) := by decide +kernel
theorem d_R_findWithin_133 : decode prog_9_method_22_code 133 = .ok (.iload_n 1, 1) := by decide +kernel
theorem d_R_findWithin_134 : decode prog_9_method_22_code 134 = .ok (.iaload, 1) := by decide +kernel
theorem d_R_findWithin_135 : decode prog_9_method_22_code 135 = .ok (.iconst 1, 1) := by decide +kernel
theorem d_R_findWithin_136 : decode prog_9_method_22_code 136 = .ok (.bastore, 1) := by decide +kernel
theorem d_R_findWithin_137 : decode prog_9_method_22_code 137 = .ok (.iinc 1 (-1), 3) := by decide +kernel
theorem d_R_findWithin_140 : decode prog_9_method_22_code 140 = .ok (.goto (-73), 3) := by decide +kernel
theorem d_R_findWithin_143 : decode prog_9_method_22_code 143 = .ok (.return_, 1) := by decide +kernel
section RW
variable {p : Program} {l : Launch} {e : Env} {R : Room} {s : State} {m : MethodId} {args : Array Value} {below : List Frame} {meth : Method} {c : Code} {H : Heap} {locs : List Loc} {cells slots : Nat} {Q : State → Prop}
variable {cc : ByteArray} {pc : Nat} {ls : Array Slot} {rest : List Value} {dC : Nat → ClassId} {dI : Nat → Nat → Nat} {q : Nat → Nat} {cA : Nat → ClassId} {σ : MZ_} {H0 : Heap} {A : Nat → Prop}

theorem gf_R_41 (hx : p.tables.exec = Jvm.exec) (hb : c.code = cc) (hts : ∀ w ∈ AW_, w.before args s = true) (hown : s.vm.findClass "StagedParsersModel" = some m.cls) (hK : va_K (dC, dI) cls_ (tyR cA) s) (hP : va_P (dC, dI) cls_ (wR q cA σ) H) (hdg : decode cc pc = .ok (.getfield 41, 3)) (kk : W p l e R s m args below meth c H locs cells slots Q (F0 m (pc + 3) ls (.ref (q 11) :: rest))) : W p l e R s m args below meth c H locs cells slots Q (F0 m pc ls (.ref (q 0) :: rest)) :=
  va_get (D := (dC, dI)) (cl := cls_) (ci := 7) (v := .ref (q 11)) (ws := wR q cA σ) (tys := tyR cA) (C := Rz_R) (T := Tz_R) (N := 34) hx hb hts uz_R hown hK hP 0 rfl rfl 14 (by decide) (hts _ kw_825) (fun _ h9 => h9) rfl hdg kk
end RW
def f_R_findWithin_L67 : Nat → MZ_ → Int32 → Option (MZ_)
  | 0, _, _ => none
  | N + 1, σ, x1 => if x1 < 0 then some σ
    else gd_ x1 80 (if (σ 11 x1.toNatClampNeg) = 0 then gd_ x1 80 (if (σ 11 x1.toNatClampNeg) = 0 then f_R_findWithin_L67 N σ (x1 + (-1))
      else gd_ x1 80 ((f_R_hasSecond (σ 1 x1.toNatClampNeg)).bind fun r1 => if r1 = 0 then f_R_findWithin_L67 N σ (x1 + (-1))
      else gd_ x1 80 (gd_ (σ 3 x1.toNatClampNeg) 80 (st_ (va_up σ 11 (upd (σ 11) (σ 3 x1.toNatClampNeg).toNatClampNeg (vp_nar .boolean 1))) fun σ3 => f_R_findWithin_L67 N σ3 (x1 + (-1))))))
    else gd_ x1 80 ((f_R_hasFirst (σ 1 x1.toNatClampNeg)).bind fun r2 => if r2 = 0 then gd_ x1 80 (if (σ 11 x1.toNatClampNeg) = 0 then f_R_findWithin_L67 N σ (x1 + (-1))
      else gd_ x1 80 ((f_R_hasSecond (σ 1 x1.toNatClampNeg)).bind fun r3 => if r3 = 0 then f_R_findWithin_L67 N σ (x1 + (-1))
      else gd_ x1 80 (gd_ (σ 3 x1.toNatClampNeg) 80 (st_ (va_up σ 11 (upd (σ 11) (σ 3 x1.toNatClampNeg).toNatClampNeg (vp_nar .boolean 1))) fun σ4 => f_R_findWithin_L67 N σ4 (x1 + (-1))))))
    else gd_ x1 80 (gd_ (σ 2 x1.toNatClampNeg) 80 (st_ (va_up σ 11 (upd (σ 11) (σ 2 x1.toNatClampNeg).toNatClampNeg (vp_nar .boolean 1))) fun σ5 => gd_ x1 80 (if (σ5 11 x1.toNatClampNeg) = 0 then f_R_findWithin_L67 N σ5 (x1 + (-1))
    else gd_ x1 80 ((f_R_hasSecond (σ5 1 x1.toNatClampNeg)).bind fun r4 => if r4 = 0 then f_R_findWithin_L67 N σ5 (x1 + (-1))
    else gd_ x1 80 (gd_ (σ5 3 x1.toNatClampNeg) 80 (st_ (va_up σ5 11 (upd (σ5 11) (σ5 3 x1.toNatClampNeg).toNatClampNeg (vp_nar .boolean 1))) fun σ6 => f_R_findWithin_L67 N σ6 (x1 + (-1))))))))))
def f_R_findWithin_L25 : Nat → MZ_ → Int32 → Option (MZ_)
  | 0, _, _ => none
  | N + 1, σ, x1 => if 6 ≤ x1 then f_R_findWithin_L67 100 σ ((σ 31 0) - 1)
    else gd_ x1 6 (if (σ 6 x1.toNatClampNeg) ≤ 0 then f_R_findWithin_L25 N σ (x1 + 1)
    else gd_ x1 6 (gd_ ((σ 6 x1.toNatClampNeg) - 1) 80 (st_ (va_up σ 11 (upd (σ 11) ((σ 6 x1.toNatClampNeg) - 1).toNatClampNeg (vp_nar .boolean 1))) fun σ2 => f_R_findWithin_L25 N σ2 (x1 + 1))))
def f_R_findWithin_L2 : Nat → MZ_ → Int32 → Option (MZ_)
  | 0, _, _ => none
  | N + 1, σ, x1 => if (σ 31 0) ≤ x1 then f_R_findWithin_L25 100 σ 0
    else gd_ x1 80 (st_ (va_up σ 11 (upd (σ 11) x1.toNatClampNeg (vp_nar .boolean 0))) fun σ1 => f_R_findWithin_L2 N σ1 (x1 + 1))
def f_R_findWithin (σ : MZ_) : Option (MZ_) :=
  f_R_findWithin_L2 100 σ 0
set_option maxHeartbeats 4000000 in
set_option maxRecDepth 100000 in
theorem c_R_findWithin (l : Launch) (dC : Nat → ClassId) (dI : Nat → Nat → Nat) (q : Nat → Nat) (cA : Nat → ClassId) (σ : MZ_) (u : MZ_) (h : f_R_findWithin σ = some u) : Met l y_R_findWithin w_R_findWithin rm_R_findWithin (va_Pc [.ref (q 0)] (PRx_ dC dI q cA σ)) (QW_ none (fun H => va_P (dC, dI) cls_ (wR q cA u) H) (AR q)) 0 0 (AR q) := by
  refine Met.ofW (cc := prog_9_method_22_code) (maxL := 2) (ret := none) (by decide) rfl ?_
  intro p e s m args below meth c s₁ B hml hv
  obtain ⟨rfl, hP, hK, hD, hN, hZ⟩ := hv
  have hx := B.exec
  have hb := B.bytes
  have hr := B.returns
  have hts : ∀ w ∈ AW_, w.before _ s = true := fun w h => atoms_spec (ws := w_R_findWithin) B.pre w (List.mem_cons_of_mem _ h)
  have hown : s.vm.findClass "StagedParsersModel" = some m.cls := findClass_of_methodNamed B.named
  have hlocks := B.notSynchronized
  have hS : va_S (AR q) s.heap s.heap [] := va_S.rf
  have hl := lv_entry ([.ref (q 0)]) (n := 2) (Nat.le_of_ble_eq_true rfl)
  rw [lg_entry_eq]
  generalize (lg_sl ([.ref (q 0)]) ++ List.replicate (2 - (lg_sl ([.ref (q 0)])).length) Slot.unset).toArray = ls at hl ⊢
  have hl : lv_has ls 2 [(0, .ref (q 0))] := hl
  have L67 : ∀ (N67 : Nat) (σ : MZ_) (x1 : Int32), f_R_findWithin_L67 N67 σ x1 = some u → ∀ (H : Heap) (locs : List Loc) (ls : Array Slot), va_P (dC, dI) cls_ (wR q cA σ) H → va_S (AR q) s.heap H locs → lv_has ls 2 [(0, .ref (q 0)), (1, .int x1)] → W p l e (headSpec w_R_findWithin rm_R_findWithin).room s m ([.ref (q 0)] : List Value).toArray below meth c H locs 0 0 (MQ below (QW_ none (fun H => va_P (dC, dI) cls_ (wR q cA u) H) (AR q)) ([.ref (q 0)] : List Value).toArray s 0 0 (AR q)) (F0 m 67 ls []) := by
    intro N67
    induction N67 with
    | zero => intro σ x1 h; cases h
    | succ N67 ih67 =>
      intro σ x1 h H locs ls hP hS hl
      have hD : va_D (AR q) (wR q cA σ) := dd_re (wR_f _ _ _ _) hD
      rw [f_R_findWithin_L67] at h
      refine lv_iload_n hx hb d_R_findWithin_67 rfl (lv_at hl 1 rfl) ?_
      refine lv_if_lt (tgt := 143) hx hb d_R_findWithin_68 rfl (fun hc => ?_) (fun hc => ?_)
      · have h := if_t hc h
        obtain rfl := Option.some.inj h
        exact W.vret hx hb hr (fun t ht hW => ⟨rfl, by rw [ht]; exact hP, hS.F ht⟩) hS.2.2 d_R_findWithin_143
      · have h := if_f hc h
        refine lv_aload_n hx hb d_R_findWithin_71 rfl (lv_at hl 0 rfl) ?_
        refine gf_R_41 hx hb hts hown hK hP d_R_findWithin_72 ?_
        refine lv_iload_n hx hb d_R_findWithin_75 rfl (lv_at hl 1 rfl) ?_
        obtain ⟨hgd, h⟩ := gd_some h
        refine al_R_11 hx hb hK hP hgd d_R_findWithin_76 ?_
        refine lv_if_eq (tgt := 104) hx hb d_R_findWithin_77 rfl (fun hc => ?_) (fun hc => ?_)
        · have h := if_t hc h
          refine lv_aload_n hx hb d_R_findWithin_104 rfl (lv_at hl 0 rfl) ?_
          refine gf_R_41 hx hb hts hown hK hP d_R_findWithin_105 ?_
          refine lv_iload_n hx hb d_R_findWithin_108 rfl (lv_at hl 1 rfl) ?_
          obtain ⟨hgd, h⟩ := gd_some h
          refine al_R_11 hx hb hK hP hgd d_R_findWithin_109 ?_
          refine lv_if_eq (tgt := 137) hx hb d_R_findWithin_110 rfl (fun hc => ?_) (fun hc => ?_)
          · have h := if_t hc h
            refine lv_iinc (v := x1 + (-1)) hx hb d_R_findWithin_137 hl (k := 1) rfl rfl (by decide) rfl (fun ls hl => ?_)
            have hl : lv_has ls 2 [(1, .int (x1 + (-1))), (0, .ref (q 0))] := hl
            refine lv_goto (tgt := 67) hx hb d_R_findWithin_140 rfl ?_
            exact ih67 _ _ h _ _ _ hP hS (lv_sub hl [1, 0] rfl)
          · have h := if_f hc h
            refine lv_aload_n hx hb d_R_findWithin_113 rfl (lv_at hl 0 rfl) ?_
            refine gf_R_7 hx hb hts hown hK hP d_R_findWithin_114 ?_
            refine lv_iload_n hx hb d_R_findWithin_117 rfl (lv_at hl 1 rfl) ?_
            obtain ⟨hgd, h⟩ := gd_some h
            refine al_R_1 hx hb hK hP hgd d_R_findWithin_118 ?_
            obtain ⟨r1, hcl, h⟩ := bd_some h
            refine cx_read (va_runS (As := [.int (σ 1 x1.toNatClampNeg)]) (rest := []) ⟨hx, hb, hml, hown, hts⟩ (c_R_hasSecond l dC dI q cA σ (σ 1 x1.toNatClampNeg) _ hcl) (cw_R_83 hts ⟨Nat.le_of_ble_eq_true rfl, Nat.le_of_ble_eq_true rfl⟩) ⟨pxR_B, pxR_U hP hK hD hN hZ hS⟩ rfl rfl hl.1 rfl (lv_room (Nat.le_of_ble_eq_true rfl)) d_R_findWithin_119 ⟨Nat.zero_le _, Nat.zero_le _⟩) ?_
            refine lv_if_eq (tgt := 137) hx hb d_R_findWithin_122 rfl (fun hc => ?_) (fun hc => ?_)
            · have h := if_t hc h
              refine lv_iinc (v := x1 + (-1)) hx hb d_R_findWithin_137 hl (k := 1) rfl rfl (by decide) rfl (fun ls hl => ?_)
              have hl : lv_has ls 2 [(1, .int (x1 + (-1))), (0, .ref (q 0))] := hl
              refine lv_goto (tgt := 67) hx hb d_R_findWithin_140 rfl ?_
              exact ih67 _ _ h _ _ _ hP hS (lv_sub hl [1, 0] rfl)
            · have h := if_f hc h
              refine lv_aload_n hx hb d_R_findWithin_125 rfl (lv_at hl 0 rfl) ?_
              refine gf_R_41 hx hb hts hown hK hP d_R_findWithin_126 ?_
              refine lv_aload_n hx hb d_R_findWithin_129 rfl (lv_at hl 0 rfl) ?_
              refine gf_R_16 hx hb hts hown hK hP d_R_findWithin_130 ?_
              refine lv_iload_n hx hb d_R_findWithin_133 rfl (lv_at hl 1 rfl) ?_
              obtain ⟨hgd, h⟩ := gd_some h
              refine al_R_3 hx hb hK hP hgd d_R_findWithin_134 ?_
              refine lv_iconst (v := 1) hx hb d_R_findWithin_135 (by decide) ?_
              obtain ⟨hgd, h⟩ := gd_some h
              refine as_R_11 hx hb hK hP hD hS hgd d_R_findWithin_136 (fun H locs hP hS => ?_)
              obtain ⟨σ3, eσ3, h⟩ := st_some h
              rw [← eσ3] at hP
              have hD : va_D (AR q) (wR q cA σ3) := dd_re (wR_f _ _ _ _) hD
              refine lv_iinc (v := x1 + (-1)) hx hb d_R_findWithin_137 hl (k := 1) rfl rfl (by decide) rfl (fun ls hl => ?_)
              have hl : lv_has ls 2 [(1, .int (x1 + (-1))), (0, .ref (q 0))] := hl
              refine lv_goto (tgt := 67) hx hb d_R_findWithin_140 rfl ?_
              exact ih67 _ _ h _ _ _ hP hS (lv_sub hl [1, 0] rfl)
        · have h := if_f hc h
          refine lv_aload_n hx hb d_R_findWithin_80 rfl (lv_at hl 0 rfl) ?_
          refine gf_R_7 hx hb hts hown hK hP d_R_findWithin_81 ?_
          refine lv_iload_n hx hb d_R_findWithin_84 rfl (lv_at hl 1 rfl) ?_
          obtain ⟨hgd, h⟩ := gd_some h
          refine al_R_1 hx hb hK hP hgd d_R_findWithin_85 ?_
          obtain ⟨r2, hcl, h⟩ := bd_some h
          refine cx_read (va_runS (As := [.int (σ 1 x1.toNatClampNeg)]) (rest := []) ⟨hx, hb, hml, hown, hts⟩ (c_R_hasFirst l dC dI q cA σ (σ 1 x1.toNatClampNeg) _ hcl) (cw_R_76 hts ⟨Nat.le_of_ble_eq_true rfl, Nat.le_of_ble_eq_true rfl⟩) ⟨pxR_B, pxR_U hP hK hD hN hZ hS⟩ rfl rfl hl.1 rfl (lv_room (Nat.le_of_ble_eq_true rfl)) d_R_findWithin_86 ⟨Nat.zero_le _, Nat.zero_le _⟩) ?_
          refine lv_if_eq (tgt := 104) hx hb d_R_findWithin_89 rfl (fun hc => ?_) (fun hc => ?_)
          · have h := if_t hc h
            refine lv_aload_n hx hb d_R_findWithin_104 rfl (lv_at hl 0 rfl) ?_
            refine gf_R_41 hx hb hts hown hK hP d_R_findWithin_105 ?_
            refine lv_iload_n hx hb d_R_findWithin_108 rfl (lv_at hl 1 rfl) ?_
            obtain ⟨hgd, h⟩ := gd_some h
            refine al_R_11 hx hb hK hP hgd d_R_findWithin_109 ?_
            refine lv_if_eq (tgt := 137) hx hb d_R_findWithin_110 rfl (fun hc => ?_) (fun hc => ?_)
            · have h := if_t hc h
              refine lv_iinc (v := x1 + (-1)) hx hb d_R_findWithin_137 hl (k := 1) rfl rfl (by decide) rfl (fun ls hl => ?_)
              have hl : lv_has ls 2 [(1, .int (x1 + (-1))), (0, .ref (q 0))] := hl
              refine lv_goto (tgt := 67) hx hb d_R_findWithin_140 rfl ?_
              exact ih67 _ _ h _ _ _ hP hS (lv_sub hl [1, 0] rfl)
            · have h := if_f hc h
              refine lv_aload_n hx hb d_R_findWithin_113 rfl (lv_at hl 0 rfl) ?_
              refine gf_R_7 hx hb hts hown hK hP d_R_findWithin_114 ?_
              refine lv_iload_n hx hb d_R_findWithin_117 rfl (lv_at hl 1 rfl) ?_
              obtain ⟨hgd, h⟩ := gd_some h
              refine al_R_1 hx hb hK hP hgd d_R_findWithin_118 ?_
              obtain ⟨r3, hcl, h⟩ := bd_some h
              refine cx_read (va_runS (As := [.int (σ 1 x1.toNatClampNeg)]) (rest := []) ⟨hx, hb, hml, hown, hts⟩ (c_R_hasSecond l dC dI q cA σ (σ 1 x1.toNatClampNeg) _ hcl) (cw_R_83 hts ⟨Nat.le_of_ble_eq_true rfl, Nat.le_of_ble_eq_true rfl⟩) ⟨pxR_B, pxR_U hP hK hD hN hZ hS⟩ rfl rfl hl.1 rfl (lv_room (Nat.le_of_ble_eq_true rfl)) d_R_findWithin_119 ⟨Nat.zero_le _, Nat.zero_le _⟩) ?_
              refine lv_if_eq (tgt := 137) hx hb d_R_findWithin_122 rfl (fun hc => ?_) (fun hc => ?_)
              · have h := if_t hc h
                refine lv_iinc (v := x1 + (-1)) hx hb d_R_findWithin_137 hl (k := 1) rfl rfl (by decide) rfl (fun ls hl => ?_)
                have hl : lv_has ls 2 [(1, .int (x1 + (-1))), (0, .ref (q 0))] := hl
                refine lv_goto (tgt := 67) hx hb d_R_findWithin_140 rfl ?_
                exact ih67 _ _ h _ _ _ hP hS (lv_sub hl [1, 0] rfl)
              · have h := if_f hc h
                refine lv_aload_n hx hb d_R_findWithin_125 rfl (lv_at hl 0 rfl) ?_
                refine gf_R_41 hx hb hts hown hK hP d_R_findWithin_126 ?_
                refine lv_aload_n hx hb d_R_findWithin_129 rfl (lv_at hl 0 rfl) ?_
                refine gf_R_16 hx hb hts hown hK hP d_R_findWithin_130 ?_
                refine lv_iload_n hx hb d_R_findWithin_133 rfl (lv_at hl 1 rfl) ?_
                obtain ⟨hgd, h⟩ := gd_some h
                refine al_R_3 hx hb hK hP hgd d_R_findWithin_134 ?_
                refine lv_iconst (v := 1) hx hb d_R_findWithin_135 (by decide) ?_
                obtain ⟨hgd, h⟩ := gd_some h
                refine as_R_11 hx hb hK hP hD hS hgd d_R_findWithin_136 (fun H locs hP hS => ?_)
                obtain ⟨σ4, eσ4, h⟩ := st_some h
                rw [← eσ4] at hP
                have hD : va_D (AR q) (wR q cA σ4) := dd_re (wR_f _ _ _ _) hD
                refine lv_iinc (v := x1 + (-1)) hx hb d_R_findWithin_137 hl (k := 1) rfl rfl (by decide) rfl (fun ls hl => ?_)
                have hl : lv_has ls 2 [(1, .int (x1 + (-1))), (0, .ref (q 0))] := hl
                refine lv_goto (tgt := 67) hx hb d_R_findWithin_140 rfl ?_
                exact ih67 _ _ h _ _ _ hP hS (lv_sub hl [1, 0] rfl)
          · have h := if_f hc h
            refine lv_aload_n hx hb d_R_findWithin_92 rfl (lv_at hl 0 rfl) ?_
            refine gf_R_41 hx hb hts hown hK hP d_R_findWithin_93 ?_
            refine lv_aload_n hx hb d_R_findWithin_96 rfl (lv_at hl 0 rfl) ?_
            refine gf_R_13 hx hb hts hown hK hP d_R_findWithin_97 ?_
            refine lv_iload_n hx hb d_R_findWithin_100 rfl (lv_at hl 1 rfl) ?_
            obtain ⟨hgd, h⟩ := gd_some h
            refine al_R_2 hx hb hK hP hgd d_R_findWithin_101 ?_
            refine lv_iconst (v := 1) hx hb d_R_findWithin_102 (by decide) ?_
            obtain ⟨hgd, h⟩ := gd_some h
            refine as_R_11 hx hb hK hP hD hS hgd d_R_findWithin_103 (fun H locs hP hS => ?_)
            obtain ⟨σ5, eσ5, h⟩ := st_some h
            rw [← eσ5] at hP
            have hD : va_D (AR q) (wR q cA σ5) := dd_re (wR_f _ _ _ _) hD
            refine lv_aload_n hx hb d_R_findWithin_104 rfl (lv_at hl 0 rfl) ?_
            refine gf_R_41 hx hb hts hown hK hP d_R_findWithin_105 ?_
            refine lv_iload_n hx hb d_R_findWithin_108 rfl (lv_at hl 1 rfl) ?_
            obtain ⟨hgd, h⟩ := gd_some h
            refine al_R_11 hx hb hK hP hgd d_R_findWithin_109 ?_
            refine lv_if_eq (tgt := 137) hx hb d_R_findWithin_110 rfl (fun hc => ?_) (fun hc => ?_)
            · have h := if_t hc h
              refine lv_iinc (v := x1 + (-1)) hx hb d_R_findWithin_137 hl (k := 1) rfl rfl (by decide) rfl (fun ls hl => ?_)
              have hl : lv_has ls 2 [(1, .int (x1 + (-1))), (0, .ref (q 0))] := hl
              refine lv_goto (tgt := 67) hx hb d_R_findWithin_140 rfl ?_
              exact ih67 _ _ h _ _ _ hP hS (lv_sub hl [1, 0] rfl)
            · have h := if_f hc h
              refine lv_aload_n hx hb d_R_findWithin_113 rfl (lv_at hl 0 rfl) ?_
              refine gf_R_7 hx hb hts hown hK hP d_R_findWithin_114 ?_
              refine lv_iload_n hx hb d_R_findWithin_117 rfl (lv_at hl 1 rfl) ?_
              obtain ⟨hgd, h⟩ := gd_some h
              refine al_R_1 hx hb hK hP hgd d_R_findWithin_118 ?_
              obtain ⟨r4, hcl, h⟩ := bd_some h
              refine cx_read (va_runS (As := [.int (σ5 1 x1.toNatClampNeg)]) (rest := []) ⟨hx, hb, hml, hown, hts⟩ (c_R_hasSecond l dC dI q cA σ5 (σ5 1 x1.toNatClampNeg) _ hcl) (cw_R_83 hts ⟨Nat.le_of_ble_eq_true rfl, Nat.le_of_ble_eq_true rfl⟩) ⟨pxR_B, pxR_U hP hK hD hN hZ hS⟩ rfl rfl hl.1 rfl (lv_room (Nat.le_of_ble_eq_true rfl)) d_R_findWithin_119 ⟨Nat.zero_le _, Nat.zero_le _⟩) ?_
              refine lv_if_eq (tgt := 137) hx hb d_R_findWithin_122 rfl (fun hc => ?_) (fun hc => ?_)
              · have h := if_t hc h
                refine lv_iinc (v := x1 + (-1)) hx hb d_R_findWithin_137 hl (k := 1) rfl rfl (by decide) rfl (fun ls hl => ?_)
                have hl : lv_has ls 2 [(1, .int (x1 + (-1))), (0, .ref (q 0))] := hl
                refine lv_goto (tgt := 67) hx hb d_R_findWithin_140 rfl ?_
                exact ih67 _ _ h _ _ _ hP hS (lv_sub hl [1, 0] rfl)
              · have h := if_f hc h
                refine lv_aload_n hx hb d_R_findWithin_125 rfl (lv_at hl 0 rfl) ?_
                refine gf_R_41 hx hb hts hown hK hP d_R_findWithin_126 ?_
                refine lv_aload_n hx hb d_R_findWithin_129 rfl (lv_at hl 0 rfl) ?_
                refine gf_R_16 hx hb hts hown hK hP d_R_findWithin_130 ?_
                refine lv_iload_n hx hb d_R_findWithin_133 rfl (lv_at hl 1 rfl) ?_
                obtain ⟨hgd, h⟩ := gd_some h
                refine al_R_3 hx hb hK hP hgd d_R_findWithin_134 ?_
                refine lv_iconst (v := 1) hx hb d_R_findWithin_135 (by decide) ?_
                obtain ⟨hgd, h⟩ := gd_some h
                refine as_R_11 hx hb hK hP hD hS hgd d_R_findWithin_136 (fun H locs hP hS => ?_)
                obtain ⟨σ6, eσ6, h⟩ := st_some h
                rw [← eσ6] at hP
                have hD : va_D (AR q) (wR q cA σ6) := dd_re (wR_f _ _ _ _) hD
                refine lv_iinc (v := x1 + (-1)) hx hb d_R_findWithin_137 hl (k := 1) rfl rfl (by decide) rfl (fun ls hl => ?_)
                have hl : lv_has ls 2 [(1, .int (x1 + (-1))), (0, .ref (q 0))] := hl
                refine lv_goto (tgt := 67) hx hb d_R_findWithin_140 rfl ?_
                exact ih67 _ _ h _ _ _ hP hS (lv_sub hl [1, 0] rfl)
  have L25 : ∀ (N25 : Nat) (σ : MZ_) (x1 : Int32), f_R_findWithin_L25 N25 σ x1 = some u → ∀ (H : Heap) (locs : List Loc) (ls : Array Slot), va_P (dC, dI) cls_ (wR q cA σ) H → va_S (AR q) s.heap H locs → lv_has ls 2 [(0, .ref (q 0)), (1, .int x1)] → W p l e (headSpec w_R_findWithin rm_R_findWithin).room s m ([.ref (q 0)] : List Value).toArray below meth c H locs 0 0 (MQ below (QW_ none (fun H => va_P (dC, dI) cls_ (wR q cA u) H) (AR q)) ([.ref (q 0)] : List Value).toArray s 0 0 (AR q)) (F0 m 25 ls []) := by
    intro N25
    induction N25 with
    | zero => intro σ x1 h; cases h
    | succ N25 ih25 =>
      intro σ x1 h H locs ls hP hS hl
      have hD : va_D (AR q) (wR q cA σ) := dd_re (wR_f _ _ _ _) hD
      rw [f_R_findWithin_L25] at h
      refine lv_iload_n hx hb d_R_findWithin_25 rfl (lv_at hl 1 rfl) ?_
      refine lv_bipush (v := 6) hx hb d_R_findWithin_26 (by decide) ?_
      refine lv_icmp_ge (tgt := 60) hx hb d_R_findWithin_28 rfl (fun hc => ?_) (fun hc => ?_)
      · have h := if_t hc h
        refine lv_aload_n hx hb d_R_findWithin_60 rfl (lv_at hl 0 rfl) ?_
        refine gf_R_69 hx hb hts hown hK hP d_R_findWithin_61 ?_
        refine lv_iconst (v := 1) hx hb d_R_findWithin_64 (by decide) ?_
        refine lv_isub hx hb d_R_findWithin_65 ?_
        refine lv_istore_n hx hb d_R_findWithin_66 rfl hl (by decide) rfl (fun ls hl => ?_)
        have hl : lv_has ls 2 [(1, .int ((σ 31 0) - 1)), (0, .ref (q 0))] := hl
        exact L67 _ _ _ h _ _ _ hP hS (lv_sub hl [1, 0] rfl)
      · have h := if_f hc h
        refine lv_aload_n hx hb d_R_findWithin_31 rfl (lv_at hl 0 rfl) ?_
        refine gf_R_25 hx hb hts hown hK hP d_R_findWithin_32 ?_
        refine lv_iload_n hx hb d_R_findWithin_35 rfl (lv_at hl 1 rfl) ?_
        obtain ⟨hgd, h⟩ := gd_some h
        refine al_R_6 hx hb hK hP hgd d_R_findWithin_36 ?_
        refine lv_if_le (tgt := 54) hx hb d_R_findWithin_37 rfl (fun hc => ?_) (fun hc => ?_)
        · have h := if_t hc h
          refine lv_iinc (v := x1 + 1) hx hb d_R_findWithin_54 hl (k := 1) rfl rfl (by decide) rfl (fun ls hl => ?_)
          have hl : lv_has ls 2 [(1, .int (x1 + 1)), (0, .ref (q 0))] := hl
          refine lv_goto (tgt := 25) hx hb d_R_findWithin_57 rfl ?_
          exact ih25 _ _ h _ _ _ hP hS (lv_sub hl [1, 0] rfl)
        · have h := if_f hc h
          refine lv_aload_n hx hb d_R_findWithin_40 rfl (lv_at hl 0 rfl) ?_
          refine gf_R_41 hx hb hts hown hK hP d_R_findWithin_41 ?_
          refine lv_aload_n hx hb d_R_findWithin_44 rfl (lv_at hl 0 rfl) ?_
          refine gf_R_25 hx hb hts hown hK hP d_R_findWithin_45 ?_
          refine lv_iload_n hx hb d_R_findWithin_48 rfl (lv_at hl 1 rfl) ?_
          obtain ⟨hgd, h⟩ := gd_some h
          refine al_R_6 hx hb hK hP hgd d_R_findWithin_49 ?_
          refine lv_iconst (v := 1) hx hb d_R_findWithin_50 (by decide) ?_
          refine lv_isub hx hb d_R_findWithin_51 ?_
          refine lv_iconst (v := 1) hx hb d_R_findWithin_52 (by decide) ?_
          obtain ⟨hgd, h⟩ := gd_some h
          refine as_R_11 hx hb hK hP hD hS hgd d_R_findWithin_53 (fun H locs hP hS => ?_)
          obtain ⟨σ2, eσ2, h⟩ := st_some h
          rw [← eσ2] at hP
          have hD : va_D (AR q) (wR q cA σ2) := dd_re (wR_f _ _ _ _) hD
          refine lv_iinc (v := x1 + 1) hx hb d_R_findWithin_54 hl (k := 1) rfl rfl (by decide) rfl (fun ls hl => ?_)
          have hl : lv_has ls 2 [(1, .int (x1 + 1)), (0, .ref (q 0))] := hl
          refine lv_goto (tgt := 25) hx hb d_R_findWithin_57 rfl ?_
          exact ih25 _ _ h _ _ _ hP hS (lv_sub hl [1, 0] rfl)
  have L2 : ∀ (N2 : Nat) (σ : MZ_) (x1 : Int32), f_R_findWithin_L2 N2 σ x1 = some u → ∀ (H : Heap) (locs : List Loc) (ls : Array Slot), va_P (dC, dI) cls_ (wR q cA σ) H → va_S (AR q) s.heap H locs → lv_has ls 2 [(0, .ref (q 0)), (1, .int x1)] → W p l e (headSpec w_R_findWithin rm_R_findWithin).room s m ([.ref (q 0)] : List Value).toArray below meth c H locs 0 0 (MQ below (QW_ none (fun H => va_P (dC, dI) cls_ (wR q cA u) H) (AR q)) ([.ref (q 0)] : List Value).toArray s 0 0 (AR q)) (F0 m 2 ls []) := by
    intro N2
    induction N2 with
    | zero => intro σ x1 h; cases h
    | succ N2 ih2 =>
      intro σ x1 h H locs ls hP hS hl
      have hD : va_D (AR q) (wR q cA σ) := dd_re (wR_f _ _ _ _) hD
      rw [f_R_findWithin_L2] at h
      refine lv_iload_n hx hb d_R_findWithin_2 rfl (lv_at hl 1 rfl) ?_
      refine lv_aload_n hx hb d_R_findWithin_3 rfl (lv_at hl 0 rfl) ?_
      refine gf_R_69 hx hb hts hown hK hP d_R_findWithin_4 ?_
      refine lv_icmp_ge (tgt := 23) hx hb d_R_findWithin_7 rfl (fun hc => ?_) (fun hc => ?_)
      · have h := if_t hc h
        refine lv_iconst (v := 0) hx hb d_R_findWithin_23 (by decide) ?_
        refine lv_istore_n hx hb d_R_findWithin_24 rfl hl (by decide) rfl (fun ls hl => ?_)
        have hl : lv_has ls 2 [(1, .int 0), (0, .ref (q 0))] := hl
        exact L25 _ _ _ h _ _ _ hP hS (lv_sub hl [1, 0] rfl)
      · have h := if_f hc h
        refine lv_aload_n hx hb d_R_findWithin_10 rfl (lv_at hl 0 rfl) ?_
        refine gf_R_41 hx hb hts hown hK hP d_R_findWithin_11 ?_
        refine lv_iload_n hx hb d_R_findWithin_14 rfl (lv_at hl 1 rfl) ?_
        refine lv_iconst (v := 0) hx hb d_R_findWithin_15 (by decide) ?_
        obtain ⟨hgd, h⟩ := gd_some h
        refine as_R_11 hx hb hK hP hD hS hgd d_R_findWithin_16 (fun H locs hP hS => ?_)
        obtain ⟨σ1, eσ1, h⟩ := st_some h
        rw [← eσ1] at hP
        have hD : va_D (AR q) (wR q cA σ1) := dd_re (wR_f _ _ _ _) hD
        refine lv_iinc (v := x1 + 1) hx hb d_R_findWithin_17 hl (k := 1) rfl rfl (by decide) rfl (fun ls hl => ?_)
        have hl : lv_has ls 2 [(1, .int (x1 + 1)), (0, .ref (q 0))] := hl
        refine lv_goto (tgt := 2) hx hb d_R_findWithin_20 rfl ?_
        exact ih2 _ _ h _ _ _ hP hS (lv_sub hl [1, 0] rfl)
  rw [f_R_findWithin] at h
  refine lv_iconst (v := 0) hx hb d_R_findWithin_0 (by decide) ?_
  refine lv_istore_n hx hb d_R_findWithin_1 rfl hl (by decide) rfl (fun ls hl => ?_)
  have hl : lv_has ls 2 [(1, .int 0), (0, .ref (q 0))] := hl
  exact L2 _ _ _ h _ _ _ hP hS (lv_sub hl [1, 0] rfl)
def y_R_isRound : MethodName := ⟨"StagedParsersModel", "isRound", "(I)Z"⟩
def w_R_isRound : List Cond := .code y_R_isRound prog_9_method_23_code 2 (some .boolean) :: AW_
def rm_R_isRound : Room := { frames := 0, cells := 0, slots := 0, locals := 0 }
theorem d_R_isRound_0 : decode prog_9_method_23_code 0 = .ok (.aload_n 0, 1) := by decide +kernel
theorem d_R_isRound_1 : decode prog_9_method_23_code 1 = .ok (.getfield 7, 3) := by decide +kernel
theorem d_R_isRound_4 : decode prog_9_method_23_code 4 = .ok (.iload_n 1, 1) := by decide +kernel
theorem d_R_isRound_5 : decode prog_9_method_23_code 5 = .ok (.iaload, 1) := by decide +kernel
theorem d_R_isRound_6 : decode prog_9_method_23_code 6 = .ok (.bipush 9, 2) := by decide +kernel
theorem d_R_isRound_8 : decode prog_9_method_23_code 8 = .ok (.if_icmp .ne 17, 3) := by decide +kernel
theorem d_R_isRound_11 : decode prog_9_method_23_code 11 = .ok (.aload_n 0, 1) := by decide +kernel
theorem d_R_isRound_12 : decode prog_9_method_23_code 12 = .ok (.getfield 31, 3) := by decide +kernel
theorem d_R_isRound_15 : decode prog_9_method_23_code 15 = .ok (.aload_n 0, 1) := by decide +kernel
theorem d_R_isRound_16 : decode prog_9_method_23_code 16 = .ok (.getfield 13, 3) := by decide +kernel
theorem d_R_isRound_19 : decode prog_9_method_23_code 19 = .ok (.iload_n 1, 1) := by decide +kernel
theorem d_R_isRound_20 : decode prog_9_method_23_code 20 = .ok (.iaload, 1) := by decide +kernel
theorem d_R_isRound_21 : decode prog_9_method_23_code 21 = .ok (.baload, 1) := by decide +kernel
theorem d_R_isRound_22 : decode prog_9_method_23_code 22 = .ok (.ifCond .ne 42, 3) := by decide +kernel
theorem d_R_isRound_25 : decode prog_9_method_23_code 25 = .ok (.aload_n 0, 1) := by decide +kernel
theorem d_R_isRound_26 : decode prog_9_method_23_code 26 = .ok (.getfield 7, 3) := by decide +kernel
theorem d_R_isRound_29 : decode prog_9_method_23_code 29 = .ok (.iload_n 1, 1) := by decide +kernel
theorem d_R_isRound_30 : decode prog_9_method_23_code 30 = .ok (.iaload, 1) := by decide +kernel
theorem d_R_isRound_31 : decode prog_9_method_23_code 31 = .ok (.bipush 10, 2) := by decide +kernel
theorem d_R_isRound_33 : decode prog_9_method_23_code 33 = .ok (.if_icmp .ne 35, 3) := by decide +kernel
theorem d_R_isRound_36 : decode prog_9_method_23_code 36 = .ok (.aload_n 0, 1) := by decide +kernel
theorem d_R_isRound_37 : decode prog_9_method_23_code 37 = .ok (.getfield 31, 3) := by decide +kernel
theorem d_R_isRound_40 : decode prog_9_method_23_code 40 = .ok (.aload_n 0, 1) := by decide +kernel
theorem d_R_isRound_41 : decode prog_9_method_23_code 41 = .ok (.getfield 13, 3) := by decide +kernel
theorem d_R_isRound_44 : decode prog_9_method_23_code 44 = .ok (.iload_n 1, 1) := by decide +kernel
theorem d_R_isRound_45 : decode prog_9_method_23_code 45 = .ok (.iaload, 1) := by decide +kernel
theorem d_R_isRound_46 : decode prog_9_method_23_code 46 = .ok (.baload, 1) := by decide +kernel
theorem d_R_isRound_47 : decode prog_9_method_23_code 47 = .ok (.ifCond .eq 21, 3) := by decide +kernel
theorem d_R_isRound_50 : decode prog_9_method_23_code 50 = .ok (.aload_n 0, 1) := by decide +kernel
theorem d_R_isRound_51 : decode prog_9_method_23_code 51 = .ok (.getfield 31, 3) := by decide +kernel
theorem d_R_isRound_54 : decode prog_9_method_23_code 54 = .ok (.aload_n 0, 1) := by decide +kernel
theorem d_R_isRound_55 : decode prog_9_method_23_code 55 = .ok (.getfield 16, 3) := by decide +kernel
theorem d_R_isRound_58 : decode prog_9_method_23_code 58 = .ok (.iload_n 1, 1) := by decide +kernel
theorem d_R_isRound_59 : decode prog_9_method_23_code 59 = .ok (.iaload, 1) := by decide +kernel
theorem d_R_isRound_60 : decode prog_9_method_23_code 60 = .ok (.baload, 1) := by decide +kernel
theorem d_R_isRound_61 : decode prog_9_method_23_code 61 = .ok (.ifCond .eq 7, 3) := by decide +kernel
theorem d_R_isRound_64 : decode prog_9_method_23_code 64 = .ok (.iconst 1, 1) := by decide +kernel
theorem d_R_isRound_65 : decode prog_9_method_23_code 65 = .ok (.goto 4, 3) := by decide +kernel
theorem d_R_isRound_68 : decode prog_9_method_23_code 68 = .ok (.iconst 0, 1) := by decide +kernel
theorem d_R_isRound_69 : decode prog_9_method_23_code 69 = .ok (.ireturn, 1) := by decide +kernel
def f_R_isRound (σ : MZ_) (a1 : Int32) : Option (Int32) :=
  gd_ a1 80 (if (σ 1 a1.toNatClampNeg) = 9 then gd_ a1 80 (gd_ (σ 2 a1.toNatClampNeg) 80 (if (σ 8 (σ 2 a1.toNatClampNeg).toNatClampNeg) = 0 then gd_ a1 80 (if (σ 1 a1.toNatClampNeg) = 10 then gd_ a1 80 (gd_ (σ 2 a1.toNatClampNeg) 80 (if (σ 8 (σ 2 a1.toNatClampNeg).toNatClampNeg) = 0 then some 0
        else gd_ a1 80 (gd_ (σ 3 a1.toNatClampNeg) 80 (if (σ 8 (σ 3 a1.toNatClampNeg).toNatClampNeg) = 0 then some 0
        else some 1))))
      else some 0)
    else some 1))
  else gd_ a1 80 (if (σ 1 a1.toNatClampNeg) = 10 then gd_ a1 80 (gd_ (σ 2 a1.toNatClampNeg) 80 (if (σ 8 (σ 2 a1.toNatClampNeg).toNatClampNeg) = 0 then some 0
    else gd_ a1 80 (gd_ (σ 3 a1.toNatClampNeg) 80 (if (σ 8 (σ 3 a1.toNatClampNeg).toNatClampNeg) = 0 then some 0
    else some 1))))
  else some 0))
set_option maxHeartbeats 4000000 in
set_option maxRecDepth 100000 in
theorem c_R_isRound (l : Launch) (dC : Nat → ClassId) (dI : Nat → Nat → Nat) (q : Nat → Nat) (cA : Nat → ClassId) (σ : MZ_) (a1 : Int32) (u : Int32) (h : f_R_isRound σ a1 = some u) : Met l y_R_isRound w_R_isRound rm_R_isRound (va_Pc [.ref (q 0), .int a1] (PRx_ dC dI q cA σ)) (QcRead u) 0 0 (fun _ => False) := by
  refine Met.ofW (cc := prog_9_method_23_code) (maxL := 2) (ret := (some .boolean)) (by decide) rfl ?_
  intro p e s m args below meth c s₁ B hml hv
  obtain ⟨rfl, hP, hK, hD, hN, hZ⟩ := hv
  have hx := B.exec
  have hb := B.bytes
  have hr := B.returns
  have hts : ∀ w ∈ AW_, w.before _ s = true := fun w h => atoms_spec (ws := w_R_isRound) B.pre w (List.mem_cons_of_mem _ h)
  have hown : s.vm.findClass "StagedParsersModel" = some m.cls := findClass_of_methodNamed B.named
  have hlocks := B.notSynchronized
  have hS : va_S (AR q) s.heap s.heap [] := va_S.rf
  have hl := lv_entry ([.ref (q 0), .int a1]) (n := 2) (Nat.le_of_ble_eq_true rfl)
  rw [lg_entry_eq]
  generalize (lg_sl ([.ref (q 0), .int a1]) ++ List.replicate (2 - (lg_sl ([.ref (q 0), .int a1])).length) Slot.unset).toArray = ls at hl ⊢
  have hl : lv_has ls 2 [(0, .ref (q 0)), (1, .int a1)] := hl
  rw [f_R_isRound] at h
  refine lv_aload_n hx hb d_R_isRound_0 rfl (lv_at hl 0 rfl) ?_
  refine gf_R_7 hx hb hts hown hK hP d_R_isRound_1 ?_
  refine lv_iload_n hx hb d_R_isRound_4 rfl (lv_at hl 1 rfl) ?_
  obtain ⟨hgd, h⟩ := gd_some h
  refine al_R_1 hx hb hK hP hgd d_R_isRound_5 ?_
  refine lv_bipush (v := 9) hx hb d_R_isRound_6 (by decide) ?_
  refine lv_icmp_ne (tgt := 25) hx hb d_R_isRound_8 rfl (fun hc => ?_) (fun hc => ?_)
  · have h := if_f hc h
    refine lv_aload_n hx hb d_R_isRound_25 rfl (lv_at hl 0 rfl) ?_
    refine gf_R_7 hx hb hts hown hK hP d_R_isRound_26 ?_
    refine lv_iload_n hx hb d_R_isRound_29 rfl (lv_at hl 1 rfl) ?_
    obtain ⟨hgd, h⟩ := gd_some h
    refine al_R_1 hx hb hK hP hgd d_R_isRound_30 ?_
    refine lv_bipush (v := 10) hx hb d_R_isRound_31 (by decide) ?_
    refine lv_icmp_ne (tgt := 68) hx hb d_R_isRound_33 rfl (fun hc => ?_) (fun hc => ?_)
    · have h := if_f hc h
      refine lv_iconst (v := 0) hx hb d_R_isRound_68 (by decide) ?_
      obtain rfl := Option.some.inj h
      exact W.zret hx hb hr rfl (fun t ht hW => ⟨rfl, ht⟩) (fun _ h9 => nomatch h9) d_R_isRound_69
    · have h := if_t hc h
      refine lv_aload_n hx hb d_R_isRound_36 rfl (lv_at hl 0 rfl) ?_
      refine gf_R_31 hx hb hts hown hK hP d_R_isRound_37 ?_
      refine lv_aload_n hx hb d_R_isRound_40 rfl (lv_at hl 0 rfl) ?_
      refine gf_R_13 hx hb hts hown hK hP d_R_isRound_41 ?_
      refine lv_iload_n hx hb d_R_isRound_44 rfl (lv_at hl 1 rfl) ?_
      obtain ⟨hgd, h⟩ := gd_some h
      refine al_R_2 hx hb hK hP hgd d_R_isRound_45 ?_
      obtain ⟨hgd, h⟩ := gd_some h
      refine al_R_8 hx hb hK hP hgd d_R_isRound_46 ?_
      refine lv_if_eq (tgt := 68) hx hb d_R_isRound_47 rfl (fun hc => ?_) (fun hc => ?_)
      · have h := if_t hc h
        refine lv_iconst (v := 0) hx hb d_R_isRound_68 (by decide) ?_
        obtain rfl := Option.some.inj h
        exact W.zret hx hb hr rfl (fun t ht hW => ⟨rfl, ht⟩) (fun _ h9 => nomatch h9) d_R_isRound_69
      · have h := if_f hc h
        refine lv_aload_n hx hb d_R_isRound_50 rfl (lv_at hl 0 rfl) ?_
        refine gf_R_31 hx hb hts hown hK hP d_R_isRound_51 ?_
        refine lv_aload_n hx hb d_R_isRound_54 rfl (lv_at hl 0 rfl) ?_
        refine gf_R_16 hx hb hts hown hK hP d_R_isRound_55 ?_
        refine lv_iload_n hx hb d_R_isRound_58 rfl (lv_at hl 1 rfl) ?_
        obtain ⟨hgd, h⟩ := gd_some h
        refine al_R_3 hx hb hK hP hgd d_R_isRound_59 ?_
        obtain ⟨hgd, h⟩ := gd_some h
        refine al_R_8 hx hb hK hP hgd d_R_isRound_60 ?_
        refine lv_if_eq (tgt := 68) hx hb d_R_isRound_61 rfl (fun hc => ?_) (fun hc => ?_)
        · have h := if_t hc h
          refine lv_iconst (v := 0) hx hb d_R_isRound_68 (by decide) ?_
          obtain rfl := Option.some.inj h
          exact W.zret hx hb hr rfl (fun t ht hW => ⟨rfl, ht⟩) (fun _ h9 => nomatch h9) d_R_isRound_69
        · have h := if_f hc h
          refine lv_iconst (v := 1) hx hb d_R_isRound_64 (by decide) ?_
          refine lv_goto (tgt := 69) hx hb d_R_isRound_65 rfl ?_
          obtain rfl := Option.some.inj h
          exact W.zret hx hb hr rfl (fun t ht hW => ⟨rfl, ht⟩) (fun _ h9 => nomatch h9) d_R_isRound_69
  · have h := if_t hc h
    refine lv_aload_n hx hb d_R_isRound_11 rfl (lv_at hl 0 rfl) ?_
    refine gf_R_31 hx hb hts hown hK hP d_R_isRound_12 ?_
    refine lv_aload_n hx hb d_R_isRound_15 rfl (lv_at hl 0 rfl) ?_
    refine gf_R_13 hx hb hts hown hK hP d_R_isRound_16 ?_
    refine lv_iload_n hx hb d_R_isRound_19 rfl (lv_at hl 1 rfl) ?_
    obtain ⟨hgd, h⟩ := gd_some h
    refine al_R_2 hx hb hK hP hgd d_R_isRound_20 ?_
    obtain ⟨hgd, h⟩ := gd_some h
    refine al_R_8 hx hb hK hP hgd d_R_isRound_21 ?_
    refine lv_if_ne (tgt := 64) hx hb d_R_isRound_22 rfl (fun hc => ?_) (fun hc => ?_)
    · have h := if_f hc h
      refine lv_iconst (v := 1) hx hb d_R_isRound_64 (by decide) ?_
      refine lv_goto (tgt := 69) hx hb d_R_isRound_65 rfl ?_
      obtain rfl := Option.some.inj h
      exact W.zret hx hb hr rfl (fun t ht hW => ⟨rfl, ht⟩) (fun _ h9 => nomatch h9) d_R_isRound_69
    · have h := if_t hc h
      refine lv_aload_n hx hb d_R_isRound_25 rfl (lv_at hl 0 rfl) ?_
      refine gf_R_7 hx hb hts hown hK hP d_R_isRound_26 ?_
      refine lv_iload_n hx hb d_R_isRound_29 rfl (lv_at hl 1 rfl) ?_
      obtain ⟨hgd, h⟩ := gd_some h
      refine al_R_1 hx hb hK hP hgd d_R_isRound_30 ?_
      refine lv_bipush (v := 10) hx hb d_R_isRound_31 (by decide) ?_
      refine lv_icmp_ne (tgt := 68) hx hb d_R_isRound_33 rfl (fun hc => ?_) (fun hc => ?_)
      · have h := if_f hc h
        refine lv_iconst (v := 0) hx hb d_R_isRound_68 (by decide) ?_
        obtain rfl := Option.some.inj h
        exact W.zret hx hb hr rfl (fun t ht hW => ⟨rfl, ht⟩) (fun _ h9 => nomatch h9) d_R_isRound_69
      · have h := if_t hc h
        refine lv_aload_n hx hb d_R_isRound_36 rfl (lv_at hl 0 rfl) ?_
        refine gf_R_31 hx hb hts hown hK hP d_R_isRound_37 ?_
        refine lv_aload_n hx hb d_R_isRound_40 rfl (lv_at hl 0 rfl) ?_
        refine gf_R_13 hx hb hts hown hK hP d_R_isRound_41 ?_
        refine lv_iload_n hx hb d_R_isRound_44 rfl (lv_at hl 1 rfl) ?_
        obtain ⟨hgd, h⟩ := gd_some h
        refine al_R_2 hx hb hK hP hgd d_R_isRound_45 ?_
        obtain ⟨hgd, h⟩ := gd_some h
        refine al_R_8 hx hb hK hP hgd d_R_isRound_46 ?_
        refine lv_if_eq (tgt := 68) hx hb d_R_isRound_47 rfl (fun hc => ?_) (fun hc => ?_)
        · have h := if_t hc h
          refine lv_iconst (v := 0) hx hb d_R_isRound_68 (by decide) ?_
          obtain rfl := Option.some.inj h
          exact W.zret hx hb hr rfl (fun t ht hW => ⟨rfl, ht⟩) (fun _ h9 => nomatch h9) d_R_isRound_69
        · have h := if_f hc h
          refine lv_aload_n hx hb d_R_isRound_50 rfl (lv_at hl 0 rfl) ?_
          refine gf_R_31 hx hb hts hown hK hP d_R_isRound_51 ?_
          refine lv_aload_n hx hb d_R_isRound_54 rfl (lv_at hl 0 rfl) ?_
          refine gf_R_16 hx hb hts hown hK hP d_R_isRound_55 ?_
          refine lv_iload_n hx hb d_R_isRound_58 rfl (lv_at hl 1 rfl) ?_
          obtain ⟨hgd, h⟩ := gd_some h
          refine al_R_3 hx hb hK hP hgd d_R_isRound_59 ?_
          obtain ⟨hgd, h⟩ := gd_some h
          refine al_R_8 hx hb hK hP hgd d_R_isRound_60 ?_
          refine lv_if_eq (tgt := 68) hx hb d_R_isRound_61 rfl (fun hc => ?_) (fun hc => ?_)
          · have h := if_t hc h
            refine lv_iconst (v := 0) hx hb d_R_isRound_68 (by decide) ?_
            obtain rfl := Option.some.inj h
            exact W.zret hx hb hr rfl (fun t ht hW => ⟨rfl, ht⟩) (fun _ h9 => nomatch h9) d_R_isRound_69
          · have h := if_f hc h
            refine lv_iconst (v := 1) hx hb d_R_isRound_64 (by decide) ?_
            refine lv_goto (tgt := 69) hx hb d_R_isRound_65 rfl ?_
            obtain rfl := Option.some.inj h
            exact W.zret hx hb hr rfl (fun t ht hW => ⟨rfl, ht⟩) (fun _ h9 => nomatch h9) d_R_isRound_69
def y_R_fault : MethodName := ⟨"StagedParsersModel", "fault", "()I"⟩
def w_R_fault : List Cond := .code y_R_fault prog_9_method_24_code 2 (some .int) :: AW_
def rm_R_fault : Room := { frames := 3, cells := 0, slots := 0, locals := 69 }
theorem d_R_fault_0 : decode prog_9_method_24_code 0 = .ok (.aload_n 0, 1) := by decide +kernel
theorem d_R_fault_1 : decode prog_9_method_24_code 1 = .ok (.invokevirtual 126, 3) := by decide +kernel
theorem d_R_fault_4 : decode prog_9_method_24_code 4 = .ok (.aload_n 0, 1) := by decide +kernel
theorem d_R_fault_5 : decode prog_9_method_24_code 5 = .ok (.invokevirtual 109, 3) := by decide +kernel
theorem d_R_fault_8 : decode prog_9_method_24_code 8 = .ok (.iconst 0, 1) := by decide +kernel
theorem d_R_fault_9 : decode prog_9_method_24_code 9 = .ok (.istore_n 1, 1) := by decide +kernel
theorem d_R_fault_10 : decode prog_9_method_24_code 10 = .ok (.iload_n 1, 1) := by decide +kernel
theorem d_R_fault_11 : decode prog_9_method_24_code 11 = .ok (.aload_n 0, 1) := by decide +kernel
theorem d_R_fault_12 : decode prog_9_method_24_code 12 = .ok (.getfield 69, 3) := by decide +kernel
theorem d_R_fault_15 : decode prog_9_method_24_code 15 = .ok (.if_icmp .ge 45, 3) := by decide +kernel
theorem d_R_fault_18 : decode prog_9_method_24_code 18 = .ok (.aload_n 0, 1) := by decide +kernel
theorem d_R_fault_19 : decode prog_9_method_24_code 19 = .ok (.getfield 41, 3) := by decide +kernel
theorem d_R_fault_22 : decode prog_9_method_24_code 22 = .ok (.iload_n 1, 1) := by decide +kernel
theorem d_R_fault_23 : decode prog_9_method_24_code 23 = .ok (.baload, 1) := by decide +kernel
theorem d_R_fault_24 : decode prog_9_method_24_code 24 = .ok (.ifCond .eq 30, 3) := by decide +kernel
theorem d_R_fault_27 : decode prog_9_method_24_code 27 = .ok (.aload_n 0, 1) := by decide +kernel
theorem d_R_fault_28 : decode prog_9_method_24_code 28 = .ok (.getfield 7, 3) := by decide +kernel
theorem d_R_fault_31 : decode prog_9_method_24_code 31 = .ok (.iload_n 1, 1) := by decide +kernel
theorem d_R_fault_32 : decode prog_9_method_24_code 32 = .ok (.iaload, 1) := by decide +kernel
theorem d_R_fault_33 : decode prog_9_method_24_code 33 = .ok (.bipush 11, 2) := by decide +kernel
theorem d_R_fault_35 : decode prog_9_method_24_code 35 = .ok (.if_icmp .ne 19, 3) := by decide +kernel
theorem d_R_fault_38 : decode prog_9_method_24_code 38 = .ok (.aload_n 0, 1) := by decide +kernel
theorem d_R_fault_39 : decode prog_9_method_24_code 39 = .ok (.getfield 25, 3) := by decide +kernel
theorem d_R_fault_42 : decode prog_9_method_24_code 42 = .ok (.aload_n 0, 1) := by decide +kernel
theorem d_R_fault_43 : decode prog_9_method_24_code 43 = .ok (.getfield 13, 3) := by decide +kernel
theorem d_R_fault_46 : decode prog_9_method_24_code 46 = .ok (.iload_n 1, 1) := by decide +kernel
theorem d_R_fault_47 : decode prog_9_method_24_code 47 = .ok (.iaload, 1) := by decide +kernel
theorem d_R_fault_48 : decode prog_9_method_24_code 48 = .ok (.iaload, 1) := by decide +kernel
theorem d_R_fault_49 : decode prog_9_method_24_code 49 = .ok (.ifCond .ne 5, 3) := by decide +kernel
theorem d_R_fault_52 : decode prog_9_method_24_code 52 = .ok (.iconst 1, 1) := by decide +kernel
theorem d_R_fault_53 : decode prog_9_method_24_code 53 = .ok (.ireturn, 1) := by decide +kernel
theorem d_R_fault_54 : decode prog_9_method_24_code 54 = .ok (.iinc 1 1, 3) := by decide +kernel
theorem d_R_fault_57 : decode prog_9_method_24_code 57 = .ok (.goto (-47), 3) := by decide +kernel
theorem d_R_fault_60 : decode prog_9_method_24_code 60 = .ok (.iconst 0, 1) := by decide +kernel
theorem d_R_fault_61 : decode prog_9_method_24_code 61 = .ok (.istore_n 1, 1) := by decide +kernel
theorem d_R_fault_62 : decode prog_9_method_24_code 62 = .ok (.iload_n 1, 1) := by decide +kernel
theorem d_R_fault_63 : decode prog_9_method_24_code 63 = .ok (.aload_n 0, 1) := by decide +kernel
theorem d_R_fault_64 : decode prog_9_method_24_code 64 = .ok (.getfield 69, 3) := by decide +kernel
theorem d_R_fault_67 : decode prog_9_method_24_code 67 = .ok (.if_icmp .ge 28, 3) := by decide +kernel
theorem d_R_fault_70 : decode prog_9_method_24_code 70 = .ok (.aload_n 0, 1) := by decide +kernel
theorem d_R_fault_71 : decode prog_9_method_24_code 71 = .ok (.getfield 41, 3) := by decide +kernel
theorem d_R_fault_74 : decode prog_9_method_24_code 74 = .ok (.iload_n 1, 1) := by decide +kernel
theorem d_R_fault_75 : decode prog_9_method_24_code 75 = .ok (.baload, 1) := by decide +kernel
theorem d_R_fault_76 : decode prog_9_method_24_code 76 = .ok (.ifCond .eq 13, 3) := by decide +kernel
theorem d_R_fault_79 : decode prog_9_method_24_code 79 = .ok (.aload_n 0, 1) := by decide +kernel
theorem d_R_fault_80 : decode prog_9_method_24_code 80 = .ok (.iload_n 1, 1) := by decide +kernel
theorem d_R_fault_81 : decode prog_9_method_24_code 81 = .ok (.invokevirtual 129, 3) := by decide +kernel
theorem d_R_fault_84 : decode prog_9_method_24_code 84 = .ok (.ifCond .eq 5, 3) := by decide +kernel
theorem d_R_fault_87 : decode prog_9_method_24_code 87 = .ok (.iconst 2, 1) := by decide +kernel
theorem d_R_fault_88 : decode prog_9_method_24_code 88 = .ok (.ireturn, 1) := by decide +kernel
theorem d_R_fault_89 : decode prog_9_method_24_code 89 = .ok (.iinc 1 1, 3) := by decide +kernel
theorem d_R_fault_92 : decode prog_9_method_24_code 92 = .ok (.goto (-30), 3) := by decide +kernel
theorem d_R_fault_95 : decode prog_9_method_24_code 95 = .ok (.iconst 0, 1) := by decide +kernel
theorem d_R_fault_96 : decode prog_9_method_24_code 96 = .ok (.istore_n 1, 1) := by decide +kernel
theorem d_R_fault_97 : decode prog_9_method_24_code 97 = .ok (.iload_n 1, 1) := by decide +kernel
theorem d_R_fault_98 : decode prog_9_method_24_code 98 = .ok (.bipush 6, 2) := by decide +kernel
theorem d_R_fault_100 : decode prog_9_method_24_code 100 = .ok (.if_icmp .ge 24, 3) := by decide +kernel
theorem d_R_fault_103 : decode prog_9_method_24_code 103 = .ok (.aload_n 0, 1) := by decide +kernel
theorem d_R_fault_104 : decode prog_9_method_24_code 104 = .ok (.iload_n 1, 1) := by decide +kernel
theorem d_R_fault_105 : decode prog_9_method_24_code 105 = .ok (.invokevirtual 123, 3) := by decide +kernel
theorem d_R_fault_108 : decode prog_9_method_24_code 108 = .ok (.iload_n 1, 1) := by decide +kernel
theorem d_R_fault_109 : decode prog_9_method_24_code 109 = .ok (.ishr, 1) := by decide +kernel
theorem d_R_fault_110 : decode prog_9_method_24_code 110 = .ok (.iconst 1, 1) := by decide +kernel
theorem d_R_fault_111 : decode prog_9_method_24_code 111 = .ok (.iand, 1) := by decide +kernel
theorem d_R_fault_112 : decode prog_9_method_24_code 112 = .ok (.iconst 1, 1) := by decide +kernel
theorem d_R_fault_113 : decode prog_9_method_24_code 113 = .ok (.if_icmp .ne 5, 3) := by decide +kernel
theorem d_R_fault_116 : decode prog_9_method_24_code 116 = .ok (.iconst 3, 1) := by decide +kernel
theorem d_R_fault_117 : decode prog_9_method_24_code 117 = .ok (.ireturn, 1) := by decide +kernel
theorem d_R_fault_118 : decode prog_9_method_24_code 118 = .ok (.iinc 1 1, 3) := by decide +kernel
theorem d_R_fault_121 : decode prog_9_method_24_code 121 = .ok (.goto (-24), 3) := by decide +kernel
theorem d_R_fault_124 : decode prog_9_method_24_code 124 = .ok (.iconst 0, 1) := by decide +kernel
theorem d_R_fault_125 : decode prog_9_method_24_code 125 = .ok (.ireturn, 1) := by decide +kernel
section RW
variable {p : Program} {l : Launch} {e : Env} {R : Room} {s : State} {m : MethodId} {args : Array Value} {below : List Frame} {meth : Method} {c : Code} {H : Heap} {locs : List Loc} {cells slots : Nat} {Q : State → Prop}
variable {cc : ByteArray} {pc : Nat} {ls : Array Slot} {rest : List Value} {dC : Nat → ClassId} {dI : Nat → Nat → Nat} {q : Nat → Nat} {cA : Nat → ClassId} {σ : MZ_} {H0 : Heap} {A : Nat → Prop}

theorem cw_R_126 (hts : ∀ w ∈ AW_, w.before args s = true) (hR : rm_R_findWithin.frames + 1 ≤ R.frames ∧ 8 + (2 + 11) + rm_R_findWithin.locals ≤ R.locals) : CallW R s args "StagedParsersModel" "StagedParsersModel" 126 y_R_findWithin prog_9_method_22_code 2 none w_R_findWithin rm_R_findWithin 0 0 0 :=
  ⟨callB_of 0 hts (aw_in kw_1002) rfl rfl rfl (hts _ kw_9) (hts _ kw_999) ⟨by decide, by decide, by decide +kernel⟩ hR, hts _ kw_1001, hts _ ks_52⟩
theorem cw_R_129 (hts : ∀ w ∈ AW_, w.before args s = true) (hR : rm_R_isRound.frames + 1 ≤ R.frames ∧ 8 + (2 + 11) + rm_R_isRound.locals ≤ R.locals) : CallW R s args "StagedParsersModel" "StagedParsersModel" 129 y_R_isRound prog_9_method_23_code 2 (some .boolean) w_R_isRound rm_R_isRound 0 0 1 :=
  ⟨callB_of 1 hts (aw_in kw_1006) rfl rfl rfl (hts _ kw_9) (hts _ kw_1003) ⟨by decide, by decide, by decide +kernel⟩ hR, hts _ kw_1005, hts _ ks_53⟩
end RW
def f_R_fault_L97 : Nat → MZ_ → Int32 → Option (Int32 × MZ_)
  | 0, _, _ => none
  | N + 1, σ, x1 => if 6 ≤ x1 then some (0, σ)
    else (f_R_allLeads σ x1).bind fun u4 => if ((u4.1 >>> (x1 &&& 31)) &&& 1) = 1 then some (3, u4.2)
    else f_R_fault_L97 N u4.2 (x1 + 1)
def f_R_fault_L62 : Nat → MZ_ → Int32 → Option (Int32 × MZ_)
  | 0, _, _ => none
  | N + 1, σ, x1 => if (σ 31 0) ≤ x1 then f_R_fault_L97 100 σ 0
    else gd_ x1 80 (if (σ 11 x1.toNatClampNeg) = 0 then f_R_fault_L62 N σ (x1 + 1)
    else (f_R_isRound σ x1).bind fun r3 => if r3 = 0 then f_R_fault_L62 N σ (x1 + 1)
    else some (2, σ))
def f_R_fault_L10 : Nat → MZ_ → Int32 → Option (Int32 × MZ_)
  | 0, _, _ => none
  | N + 1, σ, x1 => if (σ 31 0) ≤ x1 then f_R_fault_L62 100 σ 0
    else gd_ x1 80 (if (σ 11 x1.toNatClampNeg) = 0 then f_R_fault_L10 N σ (x1 + 1)
    else gd_ x1 80 (if (σ 1 x1.toNatClampNeg) = 11 then gd_ x1 80 (gd_ (σ 2 x1.toNatClampNeg) 6 (if (σ 6 (σ 2 x1.toNatClampNeg).toNatClampNeg) = 0 then some (1, σ)
      else f_R_fault_L10 N σ (x1 + 1)))
    else f_R_fault_L10 N σ (x1 + 1)))
def f_R_fault (σ : MZ_) : Option (Int32 × MZ_) :=
  (f_R_findWithin σ).bind fun u1 => (f_R_findEmpty u1).bind fun u2 => f_R_fault_L10 100 u2 0
set_option maxHeartbeats 4000000 in
set_option maxRecDepth 100000 in
theorem c_R_fault (l : Launch) (dC : Nat → ClassId) (dI : Nat → Nat → Nat) (q : Nat → Nat) (cA : Nat → ClassId) (σ : MZ_) (u : Int32 × MZ_) (h : f_R_fault σ = some u) : Met l y_R_fault w_R_fault rm_R_fault (va_Pc [.ref (q 0)] (PRx_ dC dI q cA σ)) (QW_ (some (.int u.1)) (fun H => va_P (dC, dI) cls_ (wR q cA u.2) H) (AR q)) 0 0 (AR q) := by
  refine Met.ofW (cc := prog_9_method_24_code) (maxL := 2) (ret := (some .int)) (by decide) rfl ?_
  intro p e s m args below meth c s₁ B hml hv
  obtain ⟨rfl, hP, hK, hD, hN, hZ⟩ := hv
  have hx := B.exec
  have hb := B.bytes
  have hr := B.returns
  have hts : ∀ w ∈ AW_, w.before _ s = true := fun w h => atoms_spec (ws := w_R_fault) B.pre w (List.mem_cons_of_mem _ h)
  have hown : s.vm.findClass "StagedParsersModel" = some m.cls := findClass_of_methodNamed B.named
  have hlocks := B.notSynchronized
  have hS : va_S (AR q) s.heap s.heap [] := va_S.rf
  have hl := lv_entry ([.ref (q 0)]) (n := 2) (Nat.le_of_ble_eq_true rfl)
  rw [lg_entry_eq]
  generalize (lg_sl ([.ref (q 0)]) ++ List.replicate (2 - (lg_sl ([.ref (q 0)])).length) Slot.unset).toArray = ls at hl ⊢
  have hl : lv_has ls 2 [(0, .ref (q 0))] := hl
  have L97 : ∀ (N97 : Nat) (σ : MZ_) (x1 : Int32), f_R_fault_L97 N97 σ x1 = some u → ∀ (H : Heap) (locs : List Loc) (ls : Array Slot), va_P (dC, dI) cls_ (wR q cA σ) H → va_S (AR q) s.heap H locs → lv_has ls 2 [(0, .ref (q 0)), (1, .int x1)] → W p l e (headSpec w_R_fault rm_R_fault).room s m ([.ref (q 0)] : List Value).toArray below meth c H locs 0 0 (MQ below (QW_ (some (.int u.1)) (fun H => va_P (dC, dI) cls_ (wR q cA u.2) H) (AR q)) ([.ref (q 0)] : List Value).toArray s 0 0 (AR q)) (F0 m 97 ls []) := by
    intro N97
    induction N97 with
    | zero => intro σ x1 h; cases h
    | succ N97 ih97 =>
      intro σ x1 h H locs ls hP hS hl
      have hD : va_D (AR q) (wR q cA σ) := dd_re (wR_f _ _ _ _) hD
      rw [f_R_fault_L97] at h
      refine lv_iload_n hx hb d_R_fault_97 rfl (lv_at hl 1 rfl) ?_
      refine lv_bipush (v := 6) hx hb d_R_fault_98 (by decide) ?_
      refine lv_icmp_ge (tgt := 124) hx hb d_R_fault_100 rfl (fun hc => ?_) (fun hc => ?_)
      · have h := if_t hc h
        refine lv_iconst (v := 0) hx hb d_R_fault_124 (by decide) ?_
        obtain rfl := Option.some.inj h
        exact W.iret hx hb hr (fun t ht hW => ⟨rfl, by rw [ht]; exact hP, hS.F ht⟩) hS.2.2 d_R_fault_125
      · have h := if_f hc h
        refine lv_aload_n hx hb d_R_fault_103 rfl (lv_at hl 0 rfl) ?_
        refine lv_iload_n hx hb d_R_fault_104 rfl (lv_at hl 1 rfl) ?_
        obtain ⟨u4, hcl, h⟩ := bd_some h
        refine cx_wri (va_runV (As := [.int x1]) (rest := []) ⟨hx, hb, hml, hown, hts⟩ (c_R_allLeads l dC dI q cA σ x1 _ hcl) (cw_R_123 hts ⟨Nat.le_of_ble_eq_true rfl, Nat.le_of_ble_eq_true rfl⟩) ⟨pxR_B, va_recv hK hP (ci := 7) (q0 := 0) rfl rfl, pxR_U hP hK hD hN hZ hS⟩ rfl rfl hl.1 rfl (lv_room (Nat.le_of_ble_eq_true rfl)) d_R_fault_105 ⟨Nat.zero_le _, Nat.zero_le _⟩) hS (fun _ h => h) (fun H locs hP hS => ?_)
        have hD : va_D (AR q) (wR q cA u4.2) := dd_re (wR_f _ _ _ _) hD
        refine lv_iload_n hx hb d_R_fault_108 rfl (lv_at hl 1 rfl) ?_
        refine lv_ishr hx hb d_R_fault_109 ?_
        refine lv_iconst (v := 1) hx hb d_R_fault_110 (by decide) ?_
        refine lv_iand hx hb d_R_fault_111 ?_
        refine lv_iconst (v := 1) hx hb d_R_fault_112 (by decide) ?_
        refine lv_icmp_ne (tgt := 118) hx hb d_R_fault_113 rfl (fun hc => ?_) (fun hc => ?_)
        · have h := if_f hc h
          refine lv_iinc (v := x1 + 1) hx hb d_R_fault_118 hl (k := 1) rfl rfl (by decide) rfl (fun ls hl => ?_)
          have hl : lv_has ls 2 [(1, .int (x1 + 1)), (0, .ref (q 0))] := hl
          refine lv_goto (tgt := 97) hx hb d_R_fault_121 rfl ?_
          exact ih97 _ _ h _ _ _ hP hS (lv_sub hl [1, 0] rfl)
        · have h := if_t hc h
          refine lv_iconst (v := 3) hx hb d_R_fault_116 (by decide) ?_
          obtain rfl := Option.some.inj h
          exact W.iret hx hb hr (fun t ht hW => ⟨rfl, by rw [ht]; exact hP, hS.F ht⟩) hS.2.2 d_R_fault_117
  have L62 : ∀ (N62 : Nat) (σ : MZ_) (x1 : Int32), f_R_fault_L62 N62 σ x1 = some u → ∀ (H : Heap) (locs : List Loc) (ls : Array Slot), va_P (dC, dI) cls_ (wR q cA σ) H → va_S (AR q) s.heap H locs → lv_has ls 2 [(0, .ref (q 0)), (1, .int x1)] → W p l e (headSpec w_R_fault rm_R_fault).room s m ([.ref (q 0)] : List Value).toArray below meth c H locs 0 0 (MQ below (QW_ (some (.int u.1)) (fun H => va_P (dC, dI) cls_ (wR q cA u.2) H) (AR q)) ([.ref (q 0)] : List Value).toArray s 0 0 (AR q)) (F0 m 62 ls []) := by
    intro N62
    induction N62 with
    | zero => intro σ x1 h; cases h
    | succ N62 ih62 =>
      intro σ x1 h H locs ls hP hS hl
      have hD : va_D (AR q) (wR q cA σ) := dd_re (wR_f _ _ _ _) hD
      rw [f_R_fault_L62] at h
      refine lv_iload_n hx hb d_R_fault_62 rfl (lv_at hl 1 rfl) ?_
      refine lv_aload_n hx hb d_R_fault_63 rfl (lv_at hl 0 rfl) ?_
      refine gf_R_69 hx hb hts hown hK hP d_R_fault_64 ?_
      refine lv_icmp_ge (tgt := 95) hx hb d_R_fault_67 rfl (fun hc => ?_) (fun hc => ?_)
      · have h := if_t hc h
        refine lv_iconst (v := 0) hx hb d_R_fault_95 (by decide) ?_
        refine lv_istore_n hx hb d_R_fault_96 rfl hl (by decide) rfl (fun ls hl => ?_)
        have hl : lv_has ls 2 [(1, .int 0), (0, .ref (q 0))] := hl
        exact L97 _ _ _ h _ _ _ hP hS (lv_sub hl [1, 0] rfl)
      · have h := if_f hc h
        refine lv_aload_n hx hb d_R_fault_70 rfl (lv_at hl 0 rfl) ?_
        refine gf_R_41 hx hb hts hown hK hP d_R_fault_71 ?_
        refine lv_iload_n hx hb d_R_fault_74 rfl (lv_at hl 1 rfl) ?_
        obtain ⟨hgd, h⟩ := gd_some h
        refine al_R_11 hx hb hK hP hgd d_R_fault_75 ?_
        refine lv_if_eq (tgt := 89) hx hb d_R_fault_76 rfl (fun hc => ?_) (fun hc => ?_)
        · have h := if_t hc h
          refine lv_iinc (v := x1 + 1) hx hb d_R_fault_89 hl (k := 1) rfl rfl (by decide) rfl (fun ls hl => ?_)
          have hl : lv_has ls 2 [(1, .int (x1 + 1)), (0, .ref (q 0))] := hl
          refine lv_goto (tgt := 62) hx hb d_R_fault_92 rfl ?_
          exact ih62 _ _ h _ _ _ hP hS (lv_sub hl [1, 0] rfl)
        · have h := if_f hc h
          refine lv_aload_n hx hb d_R_fault_79 rfl (lv_at hl 0 rfl) ?_
          refine lv_iload_n hx hb d_R_fault_80 rfl (lv_at hl 1 rfl) ?_
          obtain ⟨r3, hcl, h⟩ := bd_some h
          refine cx_read (va_runV (As := [.int x1]) (rest := []) ⟨hx, hb, hml, hown, hts⟩ (c_R_isRound l dC dI q cA σ x1 _ hcl) (cw_R_129 hts ⟨Nat.le_of_ble_eq_true rfl, Nat.le_of_ble_eq_true rfl⟩) ⟨pxR_B, va_recv hK hP (ci := 7) (q0 := 0) rfl rfl, pxR_U hP hK hD hN hZ hS⟩ rfl rfl hl.1 rfl (lv_room (Nat.le_of_ble_eq_true rfl)) d_R_fault_81 ⟨Nat.zero_le _, Nat.zero_le _⟩) ?_
          refine lv_if_eq (tgt := 89) hx hb d_R_fault_84 rfl (fun hc => ?_) (fun hc => ?_)
          · have h := if_t hc h
            refine lv_iinc (v := x1 + 1) hx hb d_R_fault_89 hl (k := 1) rfl rfl (by decide) rfl (fun ls hl => ?_)
            have hl : lv_has ls 2 [(1, .int (x1 + 1)), (0, .ref (q 0))] := hl
            refine lv_goto (tgt := 62) hx hb d_R_fault_92 rfl ?_
            exact ih62 _ _ h _ _ _ hP hS (lv_sub hl [1, 0] rfl)
          · have h := if_f hc h
            refine lv_iconst (v := 2) hx hb d_R_fault_87 (by decide) ?_
            obtain rfl := Option.some.inj h
            exact W.iret hx hb hr (fun t ht hW => ⟨rfl, by rw [ht]; exact hP, hS.F ht⟩) hS.2.2 d_R_fault_88
  have L10 : ∀ (N10 : Nat) (σ : MZ_) (x1 : Int32), f_R_fault_L10 N10 σ x1 = some u → ∀ (H : Heap) (locs : List Loc) (ls : Array Slot), va_P (dC, dI) cls_ (wR q cA σ) H → va_S (AR q) s.heap H locs → lv_has ls 2 [(0, .ref (q 0)), (1, .int x1)] → W p l e (headSpec w_R_fault rm_R_fault).room s m ([.ref (q 0)] : List Value).toArray below meth c H locs 0 0 (MQ below (QW_ (some (.int u.1)) (fun H => va_P (dC, dI) cls_ (wR q cA u.2) H) (AR q)) ([.ref (q 0)] : List Value).toArray s 0 0 (AR q)) (F0 m 10 ls []) := by
    intro N10
    induction N10 with
    | zero => intro σ x1 h; cases h
    | succ N10 ih10 =>
      intro σ x1 h H locs ls hP hS hl
      have hD : va_D (AR q) (wR q cA σ) := dd_re (wR_f _ _ _ _) hD
      rw [f_R_fault_L10] at h
      refine lv_iload_n hx hb d_R_fault_10 rfl (lv_at hl 1 rfl) ?_
      refine lv_aload_n hx hb d_R_fault_11 rfl (lv_at hl 0 rfl) ?_
      refine gf_R_69 hx hb hts hown hK hP d_R_fault_12 ?_
      refine lv_icmp_ge (tgt := 60) hx hb d_R_fault_15 rfl (fun hc => ?_) (fun hc => ?_)
      · have h := if_t hc h
        refine lv_iconst (v := 0) hx hb d_R_fault_60 (by decide) ?_
        refine lv_istore_n hx hb d_R_fault_61 rfl hl (by decide) rfl (fun ls hl => ?_)
        have hl : lv_has ls 2 [(1, .int 0), (0, .ref (q 0))] := hl
        exact L62 _ _ _ h _ _ _ hP hS (lv_sub hl [1, 0] rfl)
      · have h := if_f hc h
        refine lv_aload_n hx hb d_R_fault_18 rfl (lv_at hl 0 rfl) ?_
        refine gf_R_41 hx hb hts hown hK hP d_R_fault_19 ?_
        refine lv_iload_n hx hb d_R_fault_22 rfl (lv_at hl 1 rfl) ?_
        obtain ⟨hgd, h⟩ := gd_some h
        refine al_R_11 hx hb hK hP hgd d_R_fault_23 ?_
        refine lv_if_eq (tgt := 54) hx hb d_R_fault_24 rfl (fun hc => ?_) (fun hc => ?_)
        · have h := if_t hc h
          refine lv_iinc (v := x1 + 1) hx hb d_R_fault_54 hl (k := 1) rfl rfl (by decide) rfl (fun ls hl => ?_)
          have hl : lv_has ls 2 [(1, .int (x1 + 1)), (0, .ref (q 0))] := hl
          refine lv_goto (tgt := 10) hx hb d_R_fault_57 rfl ?_
          exact ih10 _ _ h _ _ _ hP hS (lv_sub hl [1, 0] rfl)
        · have h := if_f hc h
          refine lv_aload_n hx hb d_R_fault_27 rfl (lv_at hl 0 rfl) ?_
          refine gf_R_7 hx hb hts hown hK hP d_R_fault_28 ?_
          refine lv_iload_n hx hb d_R_fault_31 rfl (lv_at hl 1 rfl) ?_
          obtain ⟨hgd, h⟩ := gd_some h
          refine al_R_1 hx hb hK hP hgd d_R_fault_32 ?_
          refine lv_bipush (v := 11) hx hb d_R_fault_33 (by decide) ?_
          refine lv_icmp_ne (tgt := 54) hx hb d_R_fault_35 rfl (fun hc => ?_) (fun hc => ?_)
          · have h := if_f hc h
            refine lv_iinc (v := x1 + 1) hx hb d_R_fault_54 hl (k := 1) rfl rfl (by decide) rfl (fun ls hl => ?_)
            have hl : lv_has ls 2 [(1, .int (x1 + 1)), (0, .ref (q 0))] := hl
            refine lv_goto (tgt := 10) hx hb d_R_fault_57 rfl ?_
            exact ih10 _ _ h _ _ _ hP hS (lv_sub hl [1, 0] rfl)
          · have h := if_t hc h
            refine lv_aload_n hx hb d_R_fault_38 rfl (lv_at hl 0 rfl) ?_
            refine gf_R_25 hx hb hts hown hK hP d_R_fault_39 ?_
            refine lv_aload_n hx hb d_R_fault_42 rfl (lv_at hl 0 rfl) ?_
            refine gf_R_13 hx hb hts hown hK hP d_R_fault_43 ?_
            refine lv_iload_n hx hb d_R_fault_46 rfl (lv_at hl 1 rfl) ?_
            obtain ⟨hgd, h⟩ := gd_some h
            refine al_R_2 hx hb hK hP hgd d_R_fault_47 ?_
            obtain ⟨hgd, h⟩ := gd_some h
            refine al_R_6 hx hb hK hP hgd d_R_fault_48 ?_
            refine lv_if_ne (tgt := 54) hx hb d_R_fault_49 rfl (fun hc => ?_) (fun hc => ?_)
            · have h := if_f hc h
              refine lv_iinc (v := x1 + 1) hx hb d_R_fault_54 hl (k := 1) rfl rfl (by decide) rfl (fun ls hl => ?_)
              have hl : lv_has ls 2 [(1, .int (x1 + 1)), (0, .ref (q 0))] := hl
              refine lv_goto (tgt := 10) hx hb d_R_fault_57 rfl ?_
              exact ih10 _ _ h _ _ _ hP hS (lv_sub hl [1, 0] rfl)
            · have h := if_t hc h
              refine lv_iconst (v := 1) hx hb d_R_fault_52 (by decide) ?_
              obtain rfl := Option.some.inj h
              exact W.iret hx hb hr (fun t ht hW => ⟨rfl, by rw [ht]; exact hP, hS.F ht⟩) hS.2.2 d_R_fault_53
  rw [f_R_fault] at h
  refine lv_aload_n hx hb d_R_fault_0 rfl (lv_at hl 0 rfl) ?_
  obtain ⟨u1, hcl, h⟩ := bd_some h
  refine cx_wrv (va_runV (As := []) (rest := []) ⟨hx, hb, hml, hown, hts⟩ (c_R_findWithin l dC dI q cA σ _ hcl) (cw_R_126 hts ⟨Nat.le_of_ble_eq_true rfl, Nat.le_of_ble_eq_true rfl⟩) ⟨pxR_B, va_recv hK hP (ci := 7) (q0 := 0) rfl rfl, pxR_U hP hK hD hN hZ hS⟩ rfl rfl hl.1 rfl (lv_room (Nat.le_of_ble_eq_true rfl)) d_R_fault_1 ⟨Nat.zero_le _, Nat.zero_le _⟩) hS (fun _ h => h) (fun H locs hP hS => ?_)
  have hD : va_D (AR q) (wR q cA u1) := dd_re (wR_f _ _ _ _) hD
  refine lv_aload_n hx hb d_R_fault_4 rfl (lv_at hl 0 rfl) ?_
  obtain ⟨u2, hcl, h⟩ := bd_some h
  refine cx_wrv (va_runV (As := []) (rest := []) ⟨hx, hb, hml, hown, hts⟩ (c_R_findEmpty l dC dI q cA u1 _ hcl) (cw_R_109 hts ⟨Nat.le_of_ble_eq_true rfl, Nat.le_of_ble_eq_true rfl⟩) ⟨pxR_B, va_recv hK hP (ci := 7) (q0 := 0) rfl rfl, pxR_U hP hK hD hN hZ hS⟩ rfl rfl hl.1 rfl (lv_room (Nat.le_of_ble_eq_true rfl)) d_R_fault_5 ⟨Nat.zero_le _, Nat.zero_le _⟩) hS (fun _ h => h) (fun H locs hP hS => ?_)
  have hD : va_D (AR q) (wR q cA u2) := dd_re (wR_f _ _ _ _) hD
  refine lv_iconst (v := 0) hx hb d_R_fault_8 (by decide) ?_
  refine lv_istore_n hx hb d_R_fault_9 rfl hl (by decide) rfl (fun ls hl => ?_)
  have hl : lv_has ls 2 [(1, .int 0), (0, .ref (q 0))] := hl
  exact L10 _ _ _ h _ _ _ hP hS (lv_sub hl [1, 0] rfl)
def y_R_stage : MethodName := ⟨"StagedParsersModel", "stage", "()I"⟩
def w_R_stage : List Cond := .code y_R_stage prog_9_method_25_code 2 (some .int) :: AW_
def rm_R_stage : Room := { frames := 4, cells := 0, slots := 0, locals := 90 }
theorem d_R_stage_0 : decode prog_9_method_25_code 0 = .ok (.aload_n 0, 1) := by decide +kernel
theorem d_R_stage_1 : decode prog_9_method_25_code 1 = .ok (.iconst 0, 1) := by decide +kernel
theorem d_R_stage_2 : decode prog_9_method_25_code 2 = .ok (.putfield 65, 3) := by decide +kernel
theorem d_R_stage_5 : decode prog_9_method_25_code 5 = .ok (.aload_n 0, 1) := by decide +kernel
theorem d_R_stage_6 : decode prog_9_method_25_code 6 = .ok (.invokevirtual 132, 3) := by decide +kernel
theorem d_R_stage_9 : decode prog_9_method_25_code 9 = .ok (.istore_n 1, 1) := by decide +kernel
theorem d_R_stage_10 : decode prog_9_method_25_code 10 = .ok (.aload_n 0, 1) := by decide +kernel
theorem d_R_stage_11 : decode prog_9_method_25_code 11 = .ok (.iload_n 1, 1) := by decide +kernel
theorem d_R_stage_12 : decode prog_9_method_25_code 12 = .ok (.ifCond .ne 7, 3) := by decide +kernel
theorem d_R_stage_15 : decode prog_9_method_25_code 15 = .ok (.iconst 1, 1) := by decide +kernel
theorem d_R_stage_16 : decode prog_9_method_25_code 16 = .ok (.goto 4, 3) := by decide +kernel
theorem d_R_stage_19 : decode prog_9_method_25_code 19 = .ok (.iconst 0, 1) := by decide +kernel
theorem d_R_stage_20 : decode prog_9_method_25_code 20 = .ok (.putfield 98, 3) := by decide +kernel
theorem d_R_stage_23 : decode prog_9_method_25_code 23 = .ok (.iload_n 1, 1) := by decide +kernel
theorem d_R_stage_24 : decode prog_9_method_25_code 24 = .ok (.ireturn, 1) := by decide +kernel
section RW
variable {p : Program} {l : Launch} {e : Env} {R : Room} {s : State} {m : MethodId} {args : Array Value} {below : List Frame} {meth : Method} {c : Code} {H : Heap} {locs : List Loc} {cells slots : Nat} {Q : State → Prop}
variable {cc : ByteArray} {pc : Nat} {ls : Array Slot} {rest : List Value} {dC : Nat → ClassId} {dI : Nat → Nat → Nat} {q : Nat → Nat} {cA : Nat → ClassId} {σ : MZ_} {H0 : Heap} {A : Nat → Prop}

theorem cw_R_132 (hts : ∀ w ∈ AW_, w.before args s = true) (hR : rm_R_fault.frames + 1 ≤ R.frames ∧ 8 + (2 + 11) + rm_R_fault.locals ≤ R.locals) : CallW R s args "StagedParsersModel" "StagedParsersModel" 132 y_R_fault prog_9_method_24_code 2 (some .int) w_R_fault rm_R_fault 0 0 0 :=
  ⟨callB_of 0 hts (aw_in kw_998) rfl rfl rfl (hts _ kw_9) (hts _ kw_995) ⟨by decide, by decide, by decide +kernel⟩ hR, hts _ kw_997, hts _ ks_51⟩
end RW
def f_R_stage (σ : MZ_) : Option (Int32 × MZ_) :=
  st_ (va_up σ 30 (fun _ => 0)) fun σ1 => (f_R_fault σ1).bind fun u1 => if u1.1 = 0 then st_ (va_up u1.2 32 (fun _ => 1)) fun σ3 => some (u1.1, σ3)
  else st_ (va_up u1.2 32 (fun _ => 0)) fun σ2 => some (u1.1, σ2)
set_option maxHeartbeats 4000000 in
set_option maxRecDepth 100000 in
theorem c_R_stage (l : Launch) (dC : Nat → ClassId) (dI : Nat → Nat → Nat) (q : Nat → Nat) (cA : Nat → ClassId) (σ : MZ_) (u : Int32 × MZ_) (h : f_R_stage σ = some u) : Met l y_R_stage w_R_stage rm_R_stage (va_Pc [.ref (q 0)] (PRx_ dC dI q cA σ)) (QW_ (some (.int u.1)) (fun H => va_P (dC, dI) cls_ (wR q cA u.2) H) (AR q)) 0 0 (AR q) := by
  refine Met.ofW (cc := prog_9_method_25_code) (maxL := 2) (ret := (some .int)) (by decide) rfl ?_
  intro p e s m args below meth c s₁ B hml hv
  obtain ⟨rfl, hP, hK, hD, hN, hZ⟩ := hv
  have hx := B.exec
  have hb := B.bytes
  have hr := B.returns
  have hts : ∀ w ∈ AW_, w.before _ s = true := fun w h => atoms_spec (ws := w_R_stage) B.pre w (List.mem_cons_of_mem _ h)
  have hown : s.vm.findClass "StagedParsersModel" = some m.cls := findClass_of_methodNamed B.named
  have hlocks := B.notSynchronized
  have hS : va_S (AR q) s.heap s.heap [] := va_S.rf
  have hl := lv_entry ([.ref (q 0)]) (n := 2) (Nat.le_of_ble_eq_true rfl)
  rw [lg_entry_eq]
  generalize (lg_sl ([.ref (q 0)]) ++ List.replicate (2 - (lg_sl ([.ref (q 0)])).length) Slot.unset).toArray = ls at hl ⊢
  have hl : lv_has ls 2 [(0, .ref (q 0))] := hl
  rw [f_R_stage] at h
  refine lv_aload_n hx hb d_R_stage_0 rfl (lv_at hl 0 rfl) ?_
  refine lv_iconst (v := 0) hx hb d_R_stage_1 (by decide) ?_
  refine pf_R_65 hx hb hts hown hK hP hD hS d_R_stage_2 (fun H locs hP hS => ?_)
  obtain ⟨σ1, eσ1, h⟩ := st_some h
  rw [← eσ1] at hP
  have hD : va_D (AR q) (wR q cA σ1) := dd_re (wR_f _ _ _ _) hD
  refine lv_aload_n hx hb d_R_stage_5 rfl (lv_at hl 0 rfl) ?_
  obtain ⟨u1, hcl, h⟩ := bd_some h
  refine cx_wri (va_runV (As := []) (rest := []) ⟨hx, hb, hml, hown, hts⟩ (c_R_fault l dC dI q cA σ1 _ hcl) (cw_R_132 hts ⟨Nat.le_of_ble_eq_true rfl, Nat.le_of_ble_eq_true rfl⟩) ⟨pxR_B, va_recv hK hP (ci := 7) (q0 := 0) rfl rfl, pxR_U hP hK hD hN hZ hS⟩ rfl rfl hl.1 rfl (lv_room (Nat.le_of_ble_eq_true rfl)) d_R_stage_6 ⟨Nat.zero_le _, Nat.zero_le _⟩) hS (fun _ h => h) (fun H locs hP hS => ?_)
  have hD : va_D (AR q) (wR q cA u1.2) := dd_re (wR_f _ _ _ _) hD
  refine lv_istore_n hx hb d_R_stage_9 rfl hl (by decide) rfl (fun ls hl => ?_)
  have hl : lv_has ls 2 [(1, .int u1.1), (0, .ref (q 0))] := hl
  refine lv_aload_n hx hb d_R_stage_10 rfl (lv_at hl 1 rfl) ?_
  refine lv_iload_n hx hb d_R_stage_11 rfl (lv_at hl 0 rfl) ?_
  refine lv_if_ne (tgt := 19) hx hb d_R_stage_12 rfl (fun hc => ?_) (fun hc => ?_)
  · have h := if_f hc h
    refine lv_iconst (v := 0) hx hb d_R_stage_19 (by decide) ?_
    refine pf_R_98 hx hb hts hown hK hP hD hS (Or.inl rfl) d_R_stage_20 (fun H locs hP hS => ?_)
    obtain ⟨σ2, eσ2, h⟩ := st_some h
    rw [← eσ2] at hP
    have hD : va_D (AR q) (wR q cA σ2) := dd_re (wR_f _ _ _ _) hD
    refine lv_iload_n hx hb d_R_stage_23 rfl (lv_at hl 0 rfl) ?_
    obtain rfl := Option.some.inj h
    exact W.iret hx hb hr (fun t ht hW => ⟨rfl, by rw [ht]; exact hP, hS.F ht⟩) hS.2.2 d_R_stage_24
  · have h := if_t hc h
    refine lv_iconst (v := 1) hx hb d_R_stage_15 (by decide) ?_
    refine lv_goto (tgt := 20) hx hb d_R_stage_16 rfl ?_
    refine pf_R_98 hx hb hts hown hK hP hD hS (Or.inr rfl) d_R_stage_20 (fun H locs hP hS => ?_)
    obtain ⟨σ3, eσ3, h⟩ := st_some h
    rw [← eσ3] at hP
    have hD : va_D (AR q) (wR q cA σ3) := dd_re (wR_f _ _ _ _) hD
    refine lv_iload_n hx hb d_R_stage_23 rfl (lv_at hl 0 rfl) ?_
    obtain rfl := Option.some.inj h
    exact W.iret hx hb hr (fun t ht hW => ⟨rfl, by rw [ht]; exact hP, hS.F ht⟩) hS.2.2 d_R_stage_24
def y_R_type : MethodName := ⟨"StagedParsersModel", "type", "(C)I"⟩
def w_R_type : List Cond := .code y_R_type prog_9_method_26_code 2 (some .int) :: AW_
def rm_R_type : Room := { frames := 1, cells := 0, slots := 0, locals := 21 }
theorem d_R_type_0 : decode prog_9_method_26_code 0 = .ok (.aload_n 0, 1) := by decide +kernel
theorem d_R_type_1 : decode prog_9_method_26_code 1 = .ok (.iconst 0, 1) := by decide +kernel
theorem d_R_type_2 : decode prog_9_method_26_code 2 = .ok (.putfield 65, 3) := by decide +kernel
theorem d_R_type_5 : decode prog_9_method_26_code 5 = .ok (.iload_n 1, 1) := by decide +kernel
theorem d_R_type_6 : decode prog_9_method_26_code 6 = .ok (.sipush 255, 3) := by decide +kernel
theorem d_R_type_9 : decode prog_9_method_26_code 9 = .ok (.if_icmp .le 9, 3) := by decide +kernel
theorem d_R_type_12 : decode prog_9_method_26_code 12 = .ok (.aload_n 0, 1) := by decide +kernel
theorem d_R_type_13 : decode prog_9_method_26_code 13 = .ok (.iconst 1, 1) := by decide +kernel
theorem d_R_type_14 : decode prog_9_method_26_code 14 = .ok (.invokevirtual 94, 3) := by decide +kernel
theorem d_R_type_17 : decode prog_9_method_26_code 17 = .ok (.ireturn, 1) := by decide +kernel
theorem d_R_type_18 : decode prog_9_method_26_code 18 = .ok (.aload_n 0, 1) := by decide +kernel
theorem d_R_type_19 : decode prog_9_method_26_code 19 = .ok (.getfield 135, 3) := by decide +kernel
theorem d_R_type_22 : decode prog_9_method_26_code 22 = .ok (.bipush 40, 2) := by decide +kernel
theorem d_R_type_24 : decode prog_9_method_26_code 24 = .ok (.if_icmp .ne 9, 3) := by decide +kernel
theorem d_R_type_27 : decode prog_9_method_26_code 27 = .ok (.aload_n 0, 1) := by decide +kernel
theorem d_R_type_28 : decode prog_9_method_26_code 28 = .ok (.iconst 2, 1) := by decide +kernel
theorem d_R_type_29 : decode prog_9_method_26_code 29 = .ok (.invokevirtual 94, 3) := by decide +kernel
theorem d_R_type_32 : decode prog_9_method_26_code 32 = .ok (.ireturn, 1) := by decide +kernel
theorem d_R_type_33 : decode prog_9_method_26_code 33 = .ok (.aload_n 0, 1) := by decide +kernel
theorem d_R_type_34 : decode prog_9_method_26_code 34 = .ok (.getfield 28, 3) := by decide +kernel
theorem d_R_type_37 : decode prog_9_method_26_code 37 = .ok (.aload_n 0, 1) := by decide +kernel
theorem d_R_type_38 : decode prog_9_method_26_code 38 = .ok (.getfield 135, 3) := by decide +kernel
theorem d_R_type_41 : decode prog_9_method_26_code 41 = .ok (.iload_n 1, 1) := by decide +kernel
theorem d_R_type_42 : decode prog_9_method_26_code 42 = .ok (.iastore, 1) := by decide +kernel
theorem d_R_type_43 : decode prog_9_method_26_code 43 = .ok (.aload_n 0, 1) := by decide +kernel
theorem d_R_type_44 : decode prog_9_method_26_code 44 = .ok (.dup, 1) := by decide +kernel
theorem d_R_type_45 : decode prog_9_method_26_code 45 = .ok (.getfield 135, 3) := by decide +kernel
theorem d_R_type_48 : decode prog_9_method_26_code 48 = .ok (.iconst 1, 1) := by decide +kernel
theorem d_R_type_49 : decode prog_9_method_26_code 49 = .ok (.iadd, 1) := by decide +kernel
theorem d_R_type_50 : decode prog_9_method_26_code 50 = .ok (.putfield 135, 3) := by decide +kernel
theorem d_R_type_53 : decode prog_9_method_26_code 53 = .ok (.aload_n 0, 1) := by decide +kernel
theorem d_R_type_54 : decode prog_9_method_26_code 54 = .ok (.getfield 135, 3) := by decide +kernel
theorem d_R_type_57 : decode prog_9_method_26_code 57 = .ok (.ireturn, 1) := by decide +kernel
section RW
variable {p : Program} {l : Launch} {e : Env} {R : Room} {s : State} {m : MethodId} {args : Array Value} {below : List Frame} {meth : Method} {c : Code} {H : Heap} {locs : List Loc} {cells slots : Nat} {Q : State → Prop}
variable {cc : ByteArray} {pc : Nat} {ls : Array Slot} {rest : List Value} {dC : Nat → ClassId} {dI : Nat → Nat → Nat} {q : Nat → Nat} {cA : Nat → ClassId} {σ : MZ_} {H0 : Heap} {A : Nat → Prop}

theorem gf_R_135 (hx : p.tables.exec = Jvm.exec) (hb : c.code = cc) (hts : ∀ w ∈ AW_, w.before args s = true) (hown : s.vm.findClass "StagedParsersModel" = some m.cls) (hK : va_K (dC, dI) cls_ (tyR cA) s) (hP : va_P (dC, dI) cls_ (wR q cA σ) H) (hdg : decode cc pc = .ok (.getfield 135, 3)) (kk : W p l e R s m args below meth c H locs cells slots Q (F0 m (pc + 3) ls (.int (σ 33 0) :: rest))) : W p l e R s m args below meth c H locs cells slots Q (F0 m pc ls (.ref (q 0) :: rest)) :=
  va_get (D := (dC, dI)) (cl := cls_) (ci := 7) (v := .int (σ 33 0)) (ws := wR q cA σ) (tys := tyR cA) (C := Rz_R) (T := Tz_R) (N := 34) hx hb hts uz_R hown hK hP 0 rfl rfl 10 (by decide) (hts _ kw_821) (fun _ h9 => h9) rfl hdg kk
theorem gf_R_28 (hx : p.tables.exec = Jvm.exec) (hb : c.code = cc) (hts : ∀ w ∈ AW_, w.before args s = true) (hown : s.vm.findClass "StagedParsersModel" = some m.cls) (hK : va_K (dC, dI) cls_ (tyR cA) s) (hP : va_P (dC, dI) cls_ (wR q cA σ) H) (hdg : decode cc pc = .ok (.getfield 28, 3)) (kk : W p l e R s m args below meth c H locs cells slots Q (F0 m (pc + 3) ls (.ref (q 7) :: rest))) : W p l e R s m args below meth c H locs cells slots Q (F0 m pc ls (.ref (q 0) :: rest)) :=
  va_get (D := (dC, dI)) (cl := cls_) (ci := 7) (v := .ref (q 7)) (ws := wR q cA σ) (tys := tyR cA) (C := Rz_R) (T := Tz_R) (N := 34) hx hb hts uz_R hown hK hP 0 rfl rfl 9 (by decide) (hts _ kw_820) (fun _ h9 => h9) rfl hdg kk
theorem pf_R_135 (hx : p.tables.exec = Jvm.exec) (hb : c.code = cc) (hts : ∀ w ∈ AW_, w.before args s = true) (hown : s.vm.findClass "StagedParsersModel" = some m.cls) (hK : va_K (dC, dI) cls_ (tyR cA) s) (hP : va_P (dC, dI) cls_ (wR q cA σ) H) (hD : va_D A (wR q cA σ)) (hS : va_S A H0 H locs) {v : Int32} (hdg : decode cc pc = .ok (.putfield 135, 3)) (kk : ∀ (H1 : Heap) (locs1 : List Loc), va_P (dC, dI) cls_ (wR q cA (va_up σ 33 (fun _ => v))) H1 → va_S A H0 H1 locs1 → W p l e R s m args below meth c H1 locs1 cells slots Q (F0 m (pc + 3) ls rest)) : W p l e R s m args below meth c H locs cells slots Q (F0 m pc ls (.int v :: .ref (q 0) :: rest)) :=
  va_put (D := (dC, dI)) (cl := cls_) (ci := 7) (v := .int v) (ty := .int) (ws := wR q cA σ) (tys := tyR cA) (C := Rz_R) (T := Tz_R) (N := 34) hx hb hts uz_R tz_R tz_R_ok nz_R hown hK hP hD hS 0 rfl rfl 10 (by decide) (hts _ kw_821) (fun _ h9 => h9) rfl (by decide +kernel) rfl rfl (Nat.le_of_ble_eq_true rfl) hdg (fun H1 locs1 hP _ hS => kk H1 locs1 hP hS)
end RW
def f_R_type (σ : MZ_) (a1 : Int32) : Option (Int32 × MZ_) :=
  st_ (va_up σ 30 (fun _ => 0)) fun σ1 => if a1 ≤ 255 then if (σ1 33 0) = 40 then (f_R_fails σ1 2).bind fun u1 => some (u1.1, u1.2)
    else gd_ (σ1 33 0) 40 (st_ (va_up σ1 7 (upd (σ1 7) (σ1 33 0).toNatClampNeg a1)) fun σ2 => st_ (va_up σ2 33 (fun _ => (σ2 33 0) + 1)) fun σ3 => some (σ3 33 0, σ3))
  else (f_R_fails σ1 1).bind fun u2 => some (u2.1, u2.2)
set_option maxHeartbeats 4000000 in
set_option maxRecDepth 100000 in
theorem c_R_type (l : Launch) (dC : Nat → ClassId) (dI : Nat → Nat → Nat) (q : Nat → Nat) (cA : Nat → ClassId) (σ : MZ_) (a1 : Int32) (u : Int32 × MZ_) (h : f_R_type σ a1 = some u) : Met l y_R_type w_R_type rm_R_type (va_Pc [.ref (q 0), .int a1] (PRx_ dC dI q cA σ)) (QW_ (some (.int u.1)) (fun H => va_P (dC, dI) cls_ (wR q cA u.2) H) (AR q)) 0 0 (AR q) := by
  refine Met.ofW (cc := prog_9_method_26_code) (maxL := 2) (ret := (some .int)) (by decide) rfl ?_
  intro p e s m args below meth c s₁ B hml hv
  obtain ⟨rfl, hP, hK, hD, hN, hZ⟩ := hv
  have hx := B.exec
  have hb := B.bytes
  have hr := B.returns
  have hts : ∀ w ∈ AW_, w.before _ s = true := fun w h => atoms_spec (ws := w_R_type) B.pre w (List.mem_cons_of_mem _ h)
  have hown : s.vm.findClass "StagedParsersModel" = some m.cls := findClass_of_methodNamed B.named
  have hlocks := B.notSynchronized
  have hS : va_S (AR q) s.heap s.heap [] := va_S.rf
  have hl := lv_entry ([.ref (q 0), .int a1]) (n := 2) (Nat.le_of_ble_eq_true rfl)
  rw [lg_entry_eq]
  generalize (lg_sl ([.ref (q 0), .int a1]) ++ List.replicate (2 - (lg_sl ([.ref (q 0), .int a1])).length) Slot.unset).toArray = ls at hl ⊢
  have hl : lv_has ls 2 [(0, .ref (q 0)), (1, .int a1)] := hl
  rw [f_R_type] at h
  refine lv_aload_n hx hb d_R_type_0 rfl (lv_at hl 0 rfl) ?_
  refine lv_iconst (v := 0) hx hb d_R_type_1 (by decide) ?_
  refine pf_R_65 hx hb hts hown hK hP hD hS d_R_type_2 (fun H locs hP hS => ?_)
  obtain ⟨σ1, eσ1, h⟩ := st_some h
  rw [← eσ1] at hP
  have hD : va_D (AR q) (wR q cA σ1) := dd_re (wR_f _ _ _ _) hD
  refine lv_iload_n hx hb d_R_type_5 rfl (lv_at hl 1 rfl) ?_
  refine lv_sipush (v := 255) hx hb d_R_type_6 (by decide) ?_
  refine lv_icmp_le (tgt := 18) hx hb d_R_type_9 rfl (fun hc => ?_) (fun hc => ?_)
  · have h := if_t hc h
    refine lv_aload_n hx hb d_R_type_18 rfl (lv_at hl 0 rfl) ?_
    refine gf_R_135 hx hb hts hown hK hP d_R_type_19 ?_
    refine lv_bipush (v := 40) hx hb d_R_type_22 (by decide) ?_
    refine lv_icmp_ne (tgt := 33) hx hb d_R_type_24 rfl (fun hc => ?_) (fun hc => ?_)
    · have h := if_f hc h
      refine lv_aload_n hx hb d_R_type_33 rfl (lv_at hl 0 rfl) ?_
      refine gf_R_28 hx hb hts hown hK hP d_R_type_34 ?_
      refine lv_aload_n hx hb d_R_type_37 rfl (lv_at hl 0 rfl) ?_
      refine gf_R_135 hx hb hts hown hK hP d_R_type_38 ?_
      refine lv_iload_n hx hb d_R_type_41 rfl (lv_at hl 1 rfl) ?_
      obtain ⟨hgd, h⟩ := gd_some h
      refine as_R_7 hx hb hK hP hD hS hgd d_R_type_42 (fun H locs hP hS => ?_)
      obtain ⟨σ2, eσ2, h⟩ := st_some h
      rw [← eσ2] at hP
      have hD : va_D (AR q) (wR q cA σ2) := dd_re (wR_f _ _ _ _) hD
      refine lv_aload_n hx hb d_R_type_43 rfl (lv_at hl 0 rfl) ?_
      refine lv_dup hx hb d_R_type_44 rfl ?_
      refine gf_R_135 hx hb hts hown hK hP d_R_type_45 ?_
      refine lv_iconst (v := 1) hx hb d_R_type_48 (by decide) ?_
      refine lv_iadd hx hb d_R_type_49 ?_
      refine pf_R_135 hx hb hts hown hK hP hD hS d_R_type_50 (fun H locs hP hS => ?_)
      obtain ⟨σ3, eσ3, h⟩ := st_some h
      rw [← eσ3] at hP
      have hD : va_D (AR q) (wR q cA σ3) := dd_re (wR_f _ _ _ _) hD
      refine lv_aload_n hx hb d_R_type_53 rfl (lv_at hl 0 rfl) ?_
      refine gf_R_135 hx hb hts hown hK hP d_R_type_54 ?_
      obtain rfl := Option.some.inj h
      exact W.iret hx hb hr (fun t ht hW => ⟨rfl, by rw [ht]; exact hP, hS.F ht⟩) hS.2.2 d_R_type_57
    · have h := if_t hc h
      refine lv_aload_n hx hb d_R_type_27 rfl (lv_at hl 0 rfl) ?_
      refine lv_iconst (v := 2) hx hb d_R_type_28 (by decide) ?_
      obtain ⟨u1, hcl, h⟩ := bd_some h
      refine cx_wri (va_runV (As := [.int 2]) (rest := []) ⟨hx, hb, hml, hown, hts⟩ (c_R_fails l dC dI q cA σ1 2 _ hcl) (cw_R_94 hts ⟨Nat.le_of_ble_eq_true rfl, Nat.le_of_ble_eq_true rfl⟩) ⟨pxR_B, va_recv hK hP (ci := 7) (q0 := 0) rfl rfl, pxR_U hP hK hD hN hZ hS⟩ rfl rfl hl.1 rfl (lv_room (Nat.le_of_ble_eq_true rfl)) d_R_type_29 ⟨Nat.zero_le _, Nat.zero_le _⟩) hS (fun _ h => h) (fun H locs hP hS => ?_)
      have hD : va_D (AR q) (wR q cA u1.2) := dd_re (wR_f _ _ _ _) hD
      obtain rfl := Option.some.inj h
      exact W.iret hx hb hr (fun t ht hW => ⟨rfl, by rw [ht]; exact hP, hS.F ht⟩) hS.2.2 d_R_type_32
  · have h := if_f hc h
    refine lv_aload_n hx hb d_R_type_12 rfl (lv_at hl 0 rfl) ?_
    refine lv_iconst (v := 1) hx hb d_R_type_13 (by decide) ?_
    obtain ⟨u2, hcl, h⟩ := bd_some h
    refine cx_wri (va_runV (As := [.int 1]) (rest := []) ⟨hx, hb, hml, hown, hts⟩ (c_R_fails l dC dI q cA σ1 1 _ hcl) (cw_R_94 hts ⟨Nat.le_of_ble_eq_true rfl, Nat.le_of_ble_eq_true rfl⟩) ⟨pxR_B, va_recv hK hP (ci := 7) (q0 := 0) rfl rfl, pxR_U hP hK hD hN hZ hS⟩ rfl rfl hl.1 rfl (lv_room (Nat.le_of_ble_eq_true rfl)) d_R_type_14 ⟨Nat.zero_le _, Nat.zero_le _⟩) hS (fun _ h => h) (fun H locs hP hS => ?_)
    have hD : va_D (AR q) (wR q cA u2.2) := dd_re (wR_f _ _ _ _) hD
    obtain rfl := Option.some.inj h
    exact W.iret hx hb hr (fun t ht hW => ⟨rfl, by rw [ht]; exact hP, hS.F ht⟩) hS.2.2 d_R_type_17
def y_R_clear : MethodName := ⟨"StagedParsersModel", "clear", "()I"⟩
def w_R_clear : List Cond := .code y_R_clear prog_9_method_27_code 2 (some .int) :: AW_
def rm_R_clear : Room := { frames := 0, cells := 0, slots := 0, locals := 0 }
theorem d_R_clear_0 : decode prog_9_method_27_code 0 = .ok (.aload_n 0, 1) := by decide +kernel
theorem d_R_clear_1 : decode prog_9_method_27_code 1 = .ok (.iconst 0, 1) := by decide +kernel
theorem d_R_clear_2 : decode prog_9_method_27_code 2 = .ok (.putfield 65, 3) := by decide +kernel
theorem d_R_clear_5 : decode prog_9_method_27_code 5 = .ok (.aload_n 0, 1) := by decide +kernel
theorem d_R_clear_6 : decode prog_9_method_27_code 6 = .ok (.getfield 135, 3) := by decide +kernel
theorem d_R_clear_9 : decode prog_9_method_27_code 9 = .ok (.istore_n 1, 1) := by decide +kernel
theorem d_R_clear_10 : decode prog_9_method_27_code 10 = .ok (.aload_n 0, 1) := by decide +kernel
theorem d_R_clear_11 : decode prog_9_method_27_code 11 = .ok (.iconst 0, 1) := by decide +kernel
theorem d_R_clear_12 : decode prog_9_method_27_code 12 = .ok (.putfield 135, 3) := by decide +kernel
theorem d_R_clear_15 : decode prog_9_method_27_code 15 = .ok (.iload_n 1, 1) := by decide +kernel
theorem d_R_clear_16 : decode prog_9_method_27_code 16 = .ok (.ireturn, 1) := by decide +kernel
def f_R_clear (σ : MZ_) : Option (Int32 × MZ_) :=
  st_ (va_up σ 30 (fun _ => 0)) fun σ1 => st_ (va_up σ1 33 (fun _ => 0)) fun σ2 => some (σ1 33 0, σ2)
set_option maxHeartbeats 4000000 in
set_option maxRecDepth 100000 in
theorem c_R_clear (l : Launch) (dC : Nat → ClassId) (dI : Nat → Nat → Nat) (q : Nat → Nat) (cA : Nat → ClassId) (σ : MZ_) (u : Int32 × MZ_) (h : f_R_clear σ = some u) : Met l y_R_clear w_R_clear rm_R_clear (va_Pc [.ref (q 0)] (PRx_ dC dI q cA σ)) (QW_ (some (.int u.1)) (fun H => va_P (dC, dI) cls_ (wR q cA u.2) H) (AR q)) 0 0 (AR q) := by
  refine Met.ofW (cc := prog_9_method_27_code) (maxL := 2) (ret := (some .int)) (by decide) rfl ?_
  intro p e s m args below meth c s₁ B hml hv
  obtain ⟨rfl, hP, hK, hD, hN, hZ⟩ := hv
  have hx := B.exec
  have hb := B.bytes
  have hr := B.returns
  have hts : ∀ w ∈ AW_, w.before _ s = true := fun w h => atoms_spec (ws := w_R_clear) B.pre w (List.mem_cons_of_mem _ h)
  have hown : s.vm.findClass "StagedParsersModel" = some m.cls := findClass_of_methodNamed B.named
  have hlocks := B.notSynchronized
  have hS : va_S (AR q) s.heap s.heap [] := va_S.rf
  have hl := lv_entry ([.ref (q 0)]) (n := 2) (Nat.le_of_ble_eq_true rfl)
  rw [lg_entry_eq]
  generalize (lg_sl ([.ref (q 0)]) ++ List.replicate (2 - (lg_sl ([.ref (q 0)])).length) Slot.unset).toArray = ls at hl ⊢
  have hl : lv_has ls 2 [(0, .ref (q 0))] := hl
  rw [f_R_clear] at h
  refine lv_aload_n hx hb d_R_clear_0 rfl (lv_at hl 0 rfl) ?_
  refine lv_iconst (v := 0) hx hb d_R_clear_1 (by decide) ?_
  refine pf_R_65 hx hb hts hown hK hP hD hS d_R_clear_2 (fun H locs hP hS => ?_)
  obtain ⟨σ1, eσ1, h⟩ := st_some h
  rw [← eσ1] at hP
  have hD : va_D (AR q) (wR q cA σ1) := dd_re (wR_f _ _ _ _) hD
  refine lv_aload_n hx hb d_R_clear_5 rfl (lv_at hl 0 rfl) ?_
  refine gf_R_135 hx hb hts hown hK hP d_R_clear_6 ?_
  refine lv_istore_n hx hb d_R_clear_9 rfl hl (by decide) rfl (fun ls hl => ?_)
  have hl : lv_has ls 2 [(1, .int (σ1 33 0)), (0, .ref (q 0))] := hl
  refine lv_aload_n hx hb d_R_clear_10 rfl (lv_at hl 1 rfl) ?_
  refine lv_iconst (v := 0) hx hb d_R_clear_11 (by decide) ?_
  refine pf_R_135 hx hb hts hown hK hP hD hS d_R_clear_12 (fun H locs hP hS => ?_)
  obtain ⟨σ2, eσ2, h⟩ := st_some h
  rw [← eσ2] at hP
  have hD : va_D (AR q) (wR q cA σ2) := dd_re (wR_f _ _ _ _) hD
  refine lv_iload_n hx hb d_R_clear_15 rfl (lv_at hl 0 rfl) ?_
  obtain rfl := Option.some.inj h
  exact W.iret hx hb hr (fun t ht hW => ⟨rfl, by rw [ht]; exact hP, hS.F ht⟩) hS.2.2 d_R_clear_16
