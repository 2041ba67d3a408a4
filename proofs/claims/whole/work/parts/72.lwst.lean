/-! the law from its entry -/
theorem ix_at {w : va_W} {N : Nat} {q : Nat → Nat} (h : w.map Prod.fst = (List.range N).map q) {i : Nat} (hi : i < N) : ∃ z, w[i]? = some z ∧ z.1 = q i := by
  have e1 : (w.map Prod.fst)[i]? = some (q i) := by rw [h, List.getElem?_map, List.getElem?_range hi]; rfl
  rw [List.getElem?_map] at e1
  cases hw : w[i]? with
  | none => rw [hw] at e1; cases e1
  | some z => rw [hw] at e1; exact ⟨z, rfl, Option.some.inj e1⟩
theorem pa_l {D : va_G} {cl : List vw_C} {w1 w2 : va_W} {H : Heap} (h : va_P D cl (w1 ++ w2) H) : va_P D cl w1 H := fun k z hz => h k z (by rw [List.getElem?_append_left (List.getElem?_eq_some_iff.mp hz).1]; exact hz)
theorem pa_r {D : va_G} {cl : List vw_C} {w1 w2 : va_W} {H : Heap} (h : va_P D cl (w1 ++ w2) H) : va_P D cl w2 H := fun k z hz => h (w1.length + k) z (by rw [List.getElem?_append_right (Nat.le_add_right _ _), Nat.add_sub_cancel_left]; exact hz)
theorem ad_ne {A : Nat → Prop} {w1 w2 : va_W} (h : va_D A (w1 ++ w2)) {i j : Nat} {x y : Nat × va_E} (hx : w1[i]? = some x) (hy : w2[j]? = some y) : x.1 ≠ y.1 := by
  intro e
  have hi : i < w1.length := (List.getElem?_eq_some_iff.mp hx).1
  have h9 := h.1 i (w1.length + j) x y (by rw [List.getElem?_append_left hi]; exact hx) (by rw [List.getElem?_append_right (Nat.le_add_right _ _), Nat.add_sub_cancel_left]; exact hy) e
  omega
theorem ad_l {A : Nat → Prop} {w1 w2 : va_W} (h : va_D A (w1 ++ w2)) : va_D A w1 := ⟨fun i j x y hi hj e => h.1 i j x y (by rw [List.getElem?_append_left (List.getElem?_eq_some_iff.mp hi).1]; exact hi) (by rw [List.getElem?_append_left (List.getElem?_eq_some_iff.mp hj).1]; exact hj) e, fun k z hz => h.2 k z (by rw [List.getElem?_append_left (List.getElem?_eq_some_iff.mp hz).1]; exact hz)⟩
theorem ad_r {A : Nat → Prop} {w1 w2 : va_W} (h : va_D A (w1 ++ w2)) : va_D A w2 := by
  have key : ∀ (k : Nat) (z : Nat × va_E), w2[k]? = some z → (w1 ++ w2)[w1.length + k]? = some z := fun k z hz => by rw [List.getElem?_append_right (Nat.le_add_right _ _), Nat.add_sub_cancel_left]; exact hz
  refine ⟨fun i j x y hi hj e => ?_, fun k z hz => h.2 _ z (key k z hz)⟩
  have h9 := h.1 _ _ x y (key i x hi) (key j y hj) e
  omega
def R_law : String := "StagedParsersLaw"
def lw_P (b : Addr) (xs : List Int32) (args : Array Value) (s : State) : Prop := args = #[.ref b] ∧ s.IntsAt b xs ∧ xs.length ≤ 2560 ∧ (Jvm.Cond.and given_1 narrow_1).before args s = true
def lw_Q (_ : Array Value) (s : State) (o : Outcome) (t : State) : Prop := o = .returned (some (.int 1)) ∧ Framed s o t [] 1086 17262
def lw_Z (below : List Frame) (a : Array Value) (s : State) : State → Prop := fun t => ∃ o, t.status = .running ∧ Ended t below o ∧ lw_Q a s o t
/-- the law's own end, with 1 on the stack, nothing written that was there before, its room as the claim has it -/
theorem lw_ret {p : Program} {l : Launch} {e : Env} {s : State} {m : MethodId} {below : List Frame} {meth : Method} {c : Code} {b : Nat} (hx : p.tables.exec = Jvm.exec) (hb : c.code = code) (hr : meth.sig.returnType = ret) (hlocks : meth.locks = false) {pc : Nat} {H : Heap} {ls : Array Slot} (hdg : decode code pc = .ok (.ireturn, 1)) : W p l e room_1 s m #[Value.ref b] below meth c H [] 1086 17262 (lw_Z below #[Value.ref b] s) (F0 m pc ls [.int 1]) := by
  intro T hT X
  obtain ⟨fs, hret, hrun, hended, hW, hframe⟩ := X.leave (v := some (.int 1)) (hlocks := hlocks) (fun h => by rw [hr] at h; cases h)
  have hmeth' : T.vm.method? m = some meth := X.method'
  refine ⟨T.setFrames fs, ?_, .returned (some (.int 1)), hrun, hended, rfl, ⟨_, rfl⟩, hW, hframe⟩
  jvm_step X.here [X.here.top, hx, hb, hdg, hmeth', hr, ret, narrow_b1]
  (try refine ⟨rfl, ?_⟩); (try refine ⟨rfl, ?_⟩)
  first | (intro acts; rw [hret _ acts rfl rfl rfl]) | rw [hret _ _ rfl rfl rfl]
  exact Steps.refl _
/-- what holds at the law's entry: the machine, the code, the tables' words (any of lw_tbl by 'hts w (by decide +kernel)'), the script of L ints xs at the cell b, what the Statement gives of the start (any of its parts by flat_of_before) -/
def lw_At (p : Program) (s : State) (m : MethodId) (meth : Method) (c : Code) (b L : Nat) (xs : Nat → Int32) : Prop :=
  p.tables.exec = Jvm.exec ∧ c.code = code ∧ meth.sig.returnType = ret ∧ c.maxLocals = 7 ∧ s.vm.findClass R_law = some m.cls ∧ (∀ w ∈ lw_tbl, w.before #[Value.ref b] s = true) ∧ va_X b L xs s s.heap ∧ b < s.heap.size ∧ meth.locks = false ∧ (Jvm.Cond.and given_1 narrow_1).before #[Value.ref b] s = true
theorem lc_mk {p : Program} {s : State} {m : MethodId} {c : Code} {b L : Nat} {xs : Nat → Int32} {dC : Nat → ClassId} {dI : Nat → Nat → Nat} {q : Nat → Nat} {cA : Nat → ClassId} {pt : Nat} {qr : Nat → Nat} {cR : Nat → ClassId} {ou : Nat} {cL : ClassId} {σ μ : MZ_} {f : Nat → Int64} (hx : p.tables.exec = Jvm.exec) (hb : c.code = code) (hml : c.maxLocals = 7) (hown : s.vm.findClass "StagedParsersLaw" = some m.cls) (hts : ∀ w ∈ lw_tbl, w.before #[Value.ref b] s = true) (hgv : (Jvm.Cond.and given_1 narrow_1).before #[Value.ref b] s = true)
    (hKX : va_K (dC, dI) cls_ (tyX cA) s) (hKR : va_K (dC, dI) cls_ (tyR cR) s) (hKO : va_K (dC, dI) cls_ [(cL, .long)] s) (hz1 : va_Z "StagedParsers" "PARTS" "[I" (.ref pt) (AN_ s) s s.heap) (hz2 : va_T .int pt 14 (fun j => .int (PT_ j)) (AN_ s) s s.heap)
    (hXs : va_X b L xs s s.heap) (hbl : b < s.heap.size) (hD : va_D (AN_ s) ((wX q cA σ ++ wR qr cR μ) ++ ow_ ou cL f)) : LC_ p s m c b L xs dC dI q cA pt qr cR ou cL := by
  have hDl := ad_l hD
  have hX0 := ad_l hDl
  have hR0 := ad_r hDl
  have hO0 := ad_r hD
  have iX : ∀ a, AX q a → AN_ s a := fun a h => by
    obtain ⟨i, hi, rfl⟩ := h
    obtain ⟨z, h1, h2⟩ := ix_at (wX_a q cA σ) hi
    rw [← h2]; exact hX0.2 i z h1
  have iR : ∀ a, AR qr a → AN_ s a := fun a h => by
    obtain ⟨i, hi, rfl⟩ := h
    obtain ⟨z, h1, h2⟩ := ix_at (wR_a qr cR μ) hi
    rw [← h2]; exact hR0.2 i z h1
  have iO : AN_ s ou := hO0.2 0 _ rfl
  refine ⟨hx, hb, hml, hown, fun w h => hts w (List.mem_filter.mp h).1, hKX, hKR, hKO, st_N hts, ⟨hz1.narrow iX, hz2.narrow iX⟩, EX_narrow (st_E hts hgv) iX, st_C hgv, hXs, hbl, fun σ2 => dd_re (wX_f q cA σ σ2) (dd_in (wX_a q cA σ) hX0), fun μ2 => dd_re (wR_f qr cR μ μ2) (dd_in (wR_a qr cR μ) hR0), fun a h => ⟨fun h2 => ?_, fun h2 => ?_⟩, fun h => ?_, fun a h => ?_⟩
  · obtain ⟨i, hi, e1⟩ := h
    obtain ⟨j, hj, e2⟩ := h2
    obtain ⟨z, g1, g2⟩ := ix_at (wX_a q cA σ) hi
    obtain ⟨y, g3, g4⟩ := ix_at (wR_a qr cR μ) hj
    exact ad_ne hDl g1 g3 (by rw [g2, g4, ← e1, ← e2])
  · obtain ⟨i, hi, e1⟩ := h
    obtain ⟨z, g1, g2⟩ := ix_at (wX_a q cA σ) hi
    exact ad_ne hD (i := i) (x := z) (by rw [List.getElem?_append_left (List.getElem?_eq_some_iff.mp g1).1]; exact g1) (j := 0) (y := (ou, .inl (cL, 1, .inr (.inl f)))) rfl (by rw [g2, ← e1]; exact h2)
  · obtain ⟨i, hi, e1⟩ := h
    obtain ⟨z, g1, g2⟩ := ix_at (wR_a qr cR μ) hi
    exact ad_ne hD (i := (wX q cA σ).length + i) (x := z) (by rw [List.getElem?_append_right (Nat.le_add_right _ _), Nat.add_sub_cancel_left]; exact g1) (j := 0) (y := (ou, .inl (cL, 1, .inr (.inl f)))) rfl (by rw [g2, ← e1])
  · rcases h with h | h | h
    · exact iX a h
    · exact iR a h
    · rw [h]; exact iO
set_option maxHeartbeats 8000000 in
set_option maxRecDepth 100000 in
theorem whole_start {p : Program} {e : Env} {s : State} {m : MethodId} {below : List Frame} {meth : Method} {c : Code} (l : Launch) (hfl : l.flags = pinnedFlags ++ [noTraceFlag]) {b L : Nat} {xs : Nat → Int32} (hL : L ≤ 2560) (C0 : lw_At p s m meth c b L xs) : W p l e room_1 s m #[Value.ref b] below meth c s.heap [] 0 0 (lw_Z below #[Value.ref b] s) (entryFrame m ([Value.ref b] : List Value).toArray 7) := by
  obtain ⟨hx, hb, hret, hml, hown, hts, hXs, hbl, hlocks, hgv⟩ := C0
  have hown : s.vm.findClass "StagedParsersLaw" = some m.cls := hown
  have htsA : ∀ w ∈ AW_, w.before #[Value.ref b] s = true := fun w h => hts w (List.mem_filter.mp h).1
  obtain ⟨dC, dI, hK⟩ := st_K htsA
  have hN := st_N hts
  obtain ⟨pt, hz1, hz2⟩ := st_X hts hgv
  have hS : va_S (AN_ s) s.heap s.heap [] := va_S.rf
  have hA : ∀ q : Nat, s.heap.size ≤ q → AN_ s q := fun _ h => h
  have hP : va_P (dC, dI) cls_ [] s.heap := fun k x hx => by cases hx
  have hD : va_D (AN_ s) [] := ⟨fun i j x y hi => (by cases hi), fun k x hx => (by cases hx)⟩
  have hl := lv_entry ([.ref b]) (n := 7) (Nat.le_of_ble_eq_true rfl)
  rw [lg_entry_eq]
  generalize (lg_sl ([.ref b]) ++ List.replicate (7 - (lg_sl ([.ref b])).length) Slot.unset).toArray = ls at hl ⊢
  have hl : lv_has ls 7 [(0, .ref b)] := hl
  refine va_new (D := (dC, dI)) (cl := cls_) (ci := 0) (fs := [.null, .null, .null, .null, .null, .int 0]) (C := Rz_S) (T := Tz_S) (N := 6) hx hb htsA uz_S tz_S tz_S_ok hown (htsA _ kw_18) (htsA _ kw_19) (htsA _ kw_1) hK hP hD hS hA rfl (fun j hj => by rcases (show j = 0 ∨ j = 1 ∨ j = 2 ∨ j = 3 ∨ j = 4 ∨ j = 5 by omega) with rfl | rfl | rfl | rfl | rfl | rfl <;> rfl) (Nat.le_of_ble_eq_true rfl) (Nat.le_of_ble_eq_true rfl) d_law_0 (fun q0 H hP hD hS => ?_)
  have hP : va_P (dC, dI) cls_ [(q0, .inr (0, [.null, .null, .null, .null, .null, .int 0]))] H := hP
  have hD : va_D (AN_ s) [(q0, .inr (0, [.null, .null, .null, .null, .null, .int 0]))] := hD
  refine lv_dup hx hb d_law_3 rfl ?_
  have hFc := va_free (wc := [(q0, .inr (0, [.null, .null, .null, .null, .null, .int 0]))]) hD hS hA [0] rfl
  refine va_callv (va_runI (As := []) (rest := [.ref q0]) ⟨hx, hb, hml, hown, htsA⟩ (c_S_init l dC dI q0 H.size) ⟨callB_of 0 htsA (aw_in kw_22) rfl rfl rfl (htsA _ kw_1) (htsA _ kw_20) ⟨by decide, by decide, by decide +kernel⟩ ⟨Nat.le_of_ble_eq_true rfl, Nat.le_of_ble_eq_true rfl⟩, rfl, htsA _ kw_21⟩ ⟨pi_B, fun U hU hW => ⟨rfl, by rw [hU], by rw [hU]; exact hP, va_K.moved hW.alike hK, hD.weaken (fun _ _ _ _ => trivial), nw_warm hW hN⟩⟩ rfl rfl hl.1 rfl (lv_room (Nat.le_of_ble_eq_true rfl)) d_law_4 ⟨Nat.le_of_ble_eq_true rfl, Nat.le_of_ble_eq_true rfl⟩) hS (fun q _ h => hFc q h) hFc (fun u t H1 locs ht hvm hp hB hz3 hk1 hS => ?_)
  obtain ⟨hP1, hK1, hD1⟩ := hB
  rw [ht] at hP1
  have hKX : va_K (dC, dI) cls_ (tyX u.2.1) s := va_K.moved hvm.symm hK1
  have hDS : va_D (AN_ s) (fw_S u) := hD1.weaken (fun _ _ _ h => hFc _ h)
  obtain ⟨hq0, hgg⟩ := hp
  subst hq0
  have hP : va_P (dC, dI) cls_ (fw_S u) H1 := hP1
  have hD := hDS
  refine lv_astore_n hx hb d_law_7 rfl hl (by decide) rfl (fun ls hl => ?_)
  have hl : lv_has ls 7 [(1, .ref (u.1 0)), (0, .ref b)] := hl
  refine va_new (D := (dC, dI)) (cl := cls_) (ci := 7) (fs := [.int 0, .int 0, .null, .null, .null, .null, .null, .null, .int 0, .null, .int 0, .null, .null, .null, .null, .int 0, .null, .null, .null, .null, .null, .null, .int 0, .int 0, .int 0, .int 0, .int 0, .int 0, .int 0, .int 0, .null, .int 0, .int 0, .int 0]) (C := Rz_R) (T := Tz_R) (N := 34) hx hb htsA uz_R tz_R tz_R_ok hown (htsA _ kw_805) (htsA _ kw_806) (htsA _ kw_9) hK hP hD hS hA rfl (fun j hj => by rcases (show j = 0 ∨ j = 1 ∨ j = 2 ∨ j = 3 ∨ j = 4 ∨ j = 5 ∨ j = 6 ∨ j = 7 ∨ j = 8 ∨ j = 9 ∨ j = 10 ∨ j = 11 ∨ j = 12 ∨ j = 13 ∨ j = 14 ∨ j = 15 ∨ j = 16 ∨ j = 17 ∨ j = 18 ∨ j = 19 ∨ j = 20 ∨ j = 21 ∨ j = 22 ∨ j = 23 ∨ j = 24 ∨ j = 25 ∨ j = 26 ∨ j = 27 ∨ j = 28 ∨ j = 29 ∨ j = 30 ∨ j = 31 ∨ j = 32 ∨ j = 33 by omega) with rfl | rfl | rfl | rfl | rfl | rfl | rfl | rfl | rfl | rfl | rfl | rfl | rfl | rfl | rfl | rfl | rfl | rfl | rfl | rfl | rfl | rfl | rfl | rfl | rfl | rfl | rfl | rfl | rfl | rfl | rfl | rfl | rfl | rfl <;> rfl) (Nat.le_of_ble_eq_true rfl) (Nat.le_of_ble_eq_true rfl) d_law_8 (fun q8 H hP hD hS => ?_)
  refine lv_dup hx hb d_law_11 rfl ?_
  have hPc := pa_r hP
  have hFc := va_free (wc := [(q8, .inr (7, [.int 0, .int 0, .null, .null, .null, .null, .null, .null, .int 0, .null, .int 0, .null, .null, .null, .null, .int 0, .null, .null, .null, .null, .null, .null, .int 0, .int 0, .int 0, .int 0, .int 0, .int 0, .int 0, .int 0, .null, .int 0, .int 0, .int 0]))]) hD hS hA [30] rfl
  refine va_callv (va_runI (As := []) (rest := [.ref q8]) ⟨hx, hb, hml, hown, htsA⟩ (c_R_init l dC dI q8 H.size) ⟨callB_of 0 htsA (aw_in kw_809) rfl rfl rfl (htsA _ kw_9) (htsA _ kw_807) ⟨by decide, by decide, by decide +kernel⟩ ⟨Nat.le_of_ble_eq_true rfl, Nat.le_of_ble_eq_true rfl⟩, rfl, htsA _ kw_808⟩ ⟨pi_B, fun U hU hW => ⟨rfl, by rw [hU], by rw [hU]; exact hPc, va_K.moved hW.alike hK, (ad_r hD).weaken (fun _ _ _ _ => trivial), nw_warm hW hN⟩⟩ rfl rfl hl.1 rfl (lv_room (Nat.le_of_ble_eq_true rfl)) d_law_12 ⟨Nat.le_of_ble_eq_true rfl, Nat.le_of_ble_eq_true rfl⟩) hS (fun q _ h => hFc q h) hFc (fun v t H2 locs ht hvm hp hB hz3 hk1 hS => ?_)
  obtain ⟨hP1, hK1, hD1⟩ := hB
  rw [ht] at hP1
  have hKR : va_K (dC, dI) cls_ (tyR v.2.1) s := va_K.moved hvm.symm hK1
  obtain ⟨hPT, hDT⟩ := va_join (wr := fw_S u) (w1 := fw_R v) hP hD [30] [0, 1, 2, 3, 4, 5, 6, 7, 8, 9, 10, 11, 12, 13, 14, 15, 16, 17, 18, 19, 20, 21, 22, 23, 24, 25, 26, 27, 28, 29] rfl rfl (by decide) (by decide) hk1 hFc hP1 hD1
  obtain ⟨hq8, -⟩ := hp
  subst hq8
  have hP := hPT
  have hD := hDT
  refine lv_astore_n hx hb d_law_15 rfl hl (by decide) rfl (fun ls hl => ?_)
  have hl : lv_has ls 7 [(2, .ref (v.1 0)), (1, .ref (u.1 0)), (0, .ref b)] := hl
  refine lv_iconst (v := 1) hx hb d_law_16 (by decide) ?_
  refine va_newa (atype := .long) (ty := .long) (n := 1) (a0 := (1, .inr (.inl (fun _ => 0)))) (N' := 1) hx hb (htsA _ kw_1078) rfl hK hP hD hS hA (fun cA => na_l cA 1) (by decide) (by decide) (by decide) (Nat.le_of_ble_eq_true rfl) (Nat.le_of_ble_eq_true rfl) d_law_17 (fun ou cL H hKO hP hD hS => ?_)
  refine lv_astore_n hx hb d_law_19 rfl hl (by decide) rfl (fun ls hl => ?_)
  refine lv_iconst (v := 0) hx hb d_law_20 (by decide) ?_
  refine lv_istore hx hb d_law_21 hl (by decide) rfl (fun ls hl => ?_)
  have hl : lv_has ls 7 [(4, .int (nI (5 * 0))), (3, .ref ou), (2, .ref (v.1 0)), (1, .ref (u.1 0)), (0, .ref b)] := hl
  have hP : va_P (dC, dI) cls_ ((wX u.1 u.2.1 (va_up (fun _ _ => 0) 7 u.2.2) ++ wR v.1 v.2.1 (fun _ _ => 0)) ++ ow_ ou cL (fun _ => 0)) H := hP
  have hD : va_D (AN_ s) ((wX u.1 u.2.1 (va_up (fun _ _ => 0) 7 u.2.2) ++ wR v.1 v.2.1 (fun _ _ => 0)) ++ ow_ ou cL (fun _ => 0)) := hD
  have C := lc_mk (m := m) (L := L) (xs := xs) hx hb hml hown hts hgv hKX hKR hKO hz1 hz2 hXs hbl hD
  refine W.widen (k := 50 + 0) (n := 8998 + 6 * 0) (Nat.le_of_ble_eq_true rfl) (Nat.le_of_ble_eq_true rfl) ?_
  refine law_loop hfl C hL (fun k H locs ls hk hS => ?_) (L + 1) 0 (by omega) (by omega) H locs ls _ _ _ ⟨pa_l (pa_l hP), pa_r (pa_l hP), pa_r hP, hS⟩ (vn_start hgg) (lv_sub hl [4, 3, 2, 1, 0] rfl)
  refine lv_iconst (v := 1) hx hb d_law_675 (by decide) ?_
  refine va_forget (fun z hz => hS.2.2 z hz) ?_
  refine W.widen (k := 1086) (n := 17262) (by omega) (by omega) ?_
  exact lw_ret hx hb hret hlocks d_law_676
