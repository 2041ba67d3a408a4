/-! throw new X(".."): the row -/
section TZS
/-- the two statics of Throwable that a new exception's fields are taken from -/
def TZ_ (A : Nat → Prop) (U : State) (H : Heap) : Prop := ∃ u0 sen : RefV, va_Z Bundle.tN "UNASSIGNED_STACK" Bundle.steD u0.v A U H ∧ va_Z Bundle.tN "SUPPRESSED_SENTINEL" Bundle.listD sen.v A U H
theorem TZ_moved {A : Nat → Prop} {u U : State} {H : Heap} (hvm : u.vm.Alike U.vm) (h : TZ_ A u H) : TZ_ A U H := by
  obtain ⟨u0, sen, h1, h2⟩ := h
  exact ⟨u0, sen, va_Z.moved hvm h1, va_Z.moved hvm h2⟩
theorem TZ_kept {A : Nat → Prop} {U : State} {H H1 : Heap} (h : TZ_ A U H) (hq : ∀ a : Nat, a < H.size → ¬ A a → H1[a]? = H[a]?) : TZ_ A U H1 := by
  obtain ⟨u0, sen, h1, h2⟩ := h
  exact ⟨u0, sen, h1.kept hq, h2.kept hq⟩
theorem TZ_narrow {A B : Nat → Prop} {U : State} {H : Heap} (h : TZ_ A U H) (hAB : ∀ q, B q → A q) : TZ_ B U H := by
  obtain ⟨u0, sen, h1, h2⟩ := h
  exact ⟨u0, sen, h1.narrow hAB, h2.narrow hAB⟩
abbrev RE_ : String := "java/lang/RuntimeException"
/-- the words under which X's constructor with a message runs: X stands right below RuntimeException; its own link is ix, its code bx -/
def TN_ (own : String) (ic : Nat) (X : String) (ix : Nat) (bx : ByteArray) : List Cond :=
  Bundle.throwableAtoms ++ Bundle.throwableSAtoms ++ Bundle.passSAtoms X RE_ ix bx ++ Bundle.chainSAtoms RE_ ["java/lang/Exception"] ++
  [.methodLink own ic (Bundle.initS X), .instantiable X 6, .selects X Bundle.tFill0 Bundle.tFill0, .selects X Bundle.tFill Bundle.tFill,
   .lays X Bundle.tN "cause" "Ljava/lang/Throwable;", .lays X Bundle.tN "stackTrace" Bundle.steD, .lays X Bundle.tN "suppressedExceptions" Bundle.listD, .lays X Bundle.tN "detailMessage" "Ljava/lang/String;",
   .fieldLink Bundle.tN 198 Bundle.tN "backtrace" "Ljava/lang/Object;", .lays Bundle.tN Bundle.tN "backtrace" "Ljava/lang/Object;", .lays X Bundle.tN "backtrace" "Ljava/lang/Object;"]
end TZS
section TTW
variable {p : Program} {l : Launch} {e : Env} {R : Room} {s : State} {m : MethodId} {args : Array Value} {below : List Frame} {meth : Method} {c : Code} {H : Heap} {locs : List Loc} {cells slots : Nat} {Q : State → Prop}
set_option maxHeartbeats 2000000 in
theorem tw_out {cc : ByteArray} {Qc : Array Value → State → Outcome → State → Prop} {free : Addr → Prop} {A : Nat → Prop} (hfl : l.flags = pinnedFlags ++ [noTraceFlag]) (hexec : p.tables.exec = Jvm.exec) (hb : c.code = cc) (hem : c.exceptionTable.isEmpty = true)
    {own X : String} {ic ix : Nat} {bx : ByteArray} (hown : s.vm.findClass own = some m.cls) (hX : Bundle.fit X = true)
    (b0 : decode bx 0 = .ok (.aload_n 0, 1)) (b1 : decode bx 1 = .ok (.aload_n 1, 1)) (b2 : decode bx 2 = .ok (.invokespecial ix, 3)) (b5 : decode bx 5 = .ok (.return_, 1))
    (h : ∀ w ∈ TN_ own ic X ix bx, w.before args s = true) (hZ : TZ_ A s s.heap) {H0 : Heap} (hS : va_S A s.heap H0 locs)
    {cX : ClassId} {kX : Class} (hfX : s.vm.findClass X = some cX) (hkX : s.vm.classes[cX]? = some kX) (hH : H = H0.push (freshCell cX kX))
    {msg : Value} (hmsg : msg.isRef = true) {pc : Nat} {ls : Array Slot} (hsize : ls.size = c.maxLocals)
    (hd6 : decode cc pc = .ok (.invokespecial ic, 3)) (hd9 : decode cc (pc + 3) = .ok (.athrow, 1)) (hRf : 5 < R.frames) (hRl : 82 ≤ R.locals)
    (hq : ∀ (t : State) (ce : Cell), t.heap = H0.push ce → ce.cls = cX → ce.vm = .none → s.WarmedH t.vm → Qc args s (.threw H0.size) t) (hf : ∀ q ∈ locs, free q.base)
    (hlocks : meth.locks = false) :
    W p l e R s m args below meth c H locs cells slots (MQT_ below Qc args s cells slots free) (F0 m pc ls [msg, .ref H0.size, .ref H0.size]) := by
  intro T hT K
  have htr : e.platform.stackTraces = false := Launch.traces_off hfl K.admits
  have howns : e.platform.frameOwnsMonitors = true := by rw [K.admits.platform]
  have hfin : e.platform.finalization = false := by rw [K.admits.platform]
  have hpl : e.platform.magicAccessors = ({} : Platform).magicAccessors := by rw [K.admits.platform]
  have at_ : ∀ w, w ∈ TN_ own ic X ix bx → w.holds args s none s [] = true := fun w hw => h w hw
  obtain ⟨TT, Z0, L, -, Y⟩ := ThrowableC.of_atoms (args := args) howns hfin hpl (fun x hx => h x (by simp [TN_, hx]))
  obtain ⟨Z, M, LZ, LM, hnZ⟩ := Init0T.ofS_atoms (args := args) hpl L Y (fun x hx => h x (by simp [TN_, hx]))
  obtain ⟨P2, Ps, hlen, L2, hL, hP2m, hlink2, hlink⟩ := Bundle.chainS (args := args) hpl hnZ ["java/lang/Exception"] RE_ (by decide) (by decide) (fun x hx => h x (by simp [TN_, hx]))
  obtain ⟨P1, L1, hP1m, hP1s⟩ := PassC.ofS_atoms (args := args) (s := s) hpl (X := X) (Y := RE_) (Bundle.fit_spec hX).1 (by decide) b0 b1 b2 b5 (fun x hx => h x (by simp [TN_, hx]))
  have hlink1 : P1.sup = P2.m := Option.some.inj (hP1s.symm.trans hP2m)
  have hfound : s.vm.findClass X = some P1.m.cls := findClass_of_methodNamed hP1m
  cases Option.some.inj (hfX.symm.trans hfound)
  obtain ⟨c1, k1, hc1, hk, hord, -, -, hn6⟩ := Cond.instantiable_spec (at_ (.instantiable X 6) (by simp [TN_]))
  cases Option.some.inj (hc1.symm.trans hfound)
  cases Option.some.inj (hkX.symm.trans hk)
  have hsel : ∀ {y : MethodName} {my : MethodId}, Cond.selects X y y ∈ TN_ own ic X ix bx → s.methodNamed? y = some my → y.cls ≠ "java/lang/invoke/MethodHandle" ∧ y.cls ≠ "java/lang/invoke/VarHandle" → selectMethod e.platform s.vm P1.m.cls my = .method my := by
    intro y my hy hn hd
    obtain ⟨c2, r2, m2, q1, q2, q3, q4, -⟩ := Cond.selects_spec (at_ _ hy)
    cases Option.some.inj (q1.symm.trans hfound)
    cases Option.some.inj (q2.symm.trans (State.methodFound?_of_named hn hd))
    cases Option.some.inj (q3.symm.trans hn)
    rw [Launch.admits_selectMethod K.admits]; exact q4
  have hsel0 := hsel (y := Bundle.tFill0) (by simp [TN_]) Y.fill0 (by decide)
  have hselF := hsel (y := Bundle.tFill) (by simp [TN_]) Y.fill (by decide)
  obtain ⟨u0, sen, hz1, hz2⟩ := TZ_kept hZ hS.2.1
  obtain ⟨cf, kf, fi, f, aS, cellS, z1, z2, z3, z4, z5, z6, z7, z8⟩ := hz1
  cases Y.unassigned.symm.trans z1
  obtain ⟨cf', kf', fi', f', aS', cellS', y1, y2, y3, y4, y5, y6, y7, y8⟩ := hz2
  cases Y.sentinel.symm.trans y1
  cases L.statics.symm.trans z4
  cases L.statics.symm.trans y4
  cases z5.symm.trans y5
  have hltS : TT.aS < H0.size := (Array.getElem?_eq_some_iff.mp z5).1
  have hcellS : T.heap[TT.aS]? = some cellS := by rw [hT, hH, Array.getElem?_push_lt hltS]; rw [Array.getElem?_eq_getElem hltS] at z5; exact z5
  have hknownS : cellS.vm ≠ .unknown := fun hu => by rw [hu] at z6; cases z6
  have hcell : T.heap[H0.size]? = some (freshCell P1.m.cls kX) := by rw [hT, hH]; simp
  obtain ⟨ci198, i198, fB, hk198, hg198, ha198, hsB, -, hnB, htB, hffB⟩ := Cond.ownField (t := .object "java/lang/Object") Y.found L.cls (by decide +kernel) (at_ (.fieldLink Bundle.tN 198 Bundle.tN "backtrace" "Ljava/lang/Object;") (by simp [TN_])) (at_ (.lays Bundle.tN Bundle.tN "backtrace" "Ljava/lang/Object;") (by simp [TN_])) e.platform hpl
  obtain ⟨iM, hffM⟩ := Y.msg
  obtain ⟨tyC, dC, hdC, hdnC⟩ := Cond.laysAt hfound hk Y.cause (at_ (.lays X Bundle.tN "cause" "Ljava/lang/Throwable;") (by simp [TN_]))
  obtain ⟨tyS, dS, hdS, hdnS⟩ := Cond.laysAt hfound hk Y.stack (at_ (.lays X Bundle.tN "stackTrace" Bundle.steD) (by simp [TN_]))
  obtain ⟨tyP, dP, hdP, hdnP⟩ := Cond.laysAt hfound hk Y.supp (at_ (.lays X Bundle.tN "suppressedExceptions" Bundle.listD) (by simp [TN_]))
  obtain ⟨tyM, dM, hdM, hdnM⟩ := Cond.laysAt hfound hk hffM (at_ (.lays X Bundle.tN "detailMessage" "Ljava/lang/String;") (by simp [TN_]))
  obtain ⟨tyB, dB, hdB, hdnB⟩ := Cond.laysAt hfound hk hffB (at_ (.lays X Bundle.tN "backtrace" "Ljava/lang/Object;") (by simp [TN_]))
  have bC := Cond.laysApart hdB hdC hdnB hdnC (by rw [hnB, Y.causeName]; decide)
  have bS := Cond.laysApart hdB hdS hdnB hdnS (by rw [hnB, Y.stackName]; decide)
  have bP := Cond.laysApart hdB hdP hdnB hdnP (by rw [hnB, Y.suppName]; decide)
  have hskip : SkipFacts TT e.platform s (fun u => u) u0 ((preparedCellV TT.toThrowableT (freshCell P1.m.cls kX) H0.size u0 sen).withEntry T.cur) :=
    ⟨{ ci198 := ci198, i198 := i198, fBack := fB }, ⟨hk198, hg198, ha198, hsB⟩, by
      have hfd := fresh_default (c := P1.m.cls) tyB
      rw [htB] at hfd
      simpa [preparedCellV, Cell.setSlot, Cell.withEntry, Array.getElem?_setIfInBounds, bC, bS, bP, bC.symm, bS.symm, bP.symm, defaultValue] using hfd, fun _ _ => rfl⟩
  subst hb
  obtain ⟨tm, methC, cdC, kC, vm1, hnC, -, -, -, -, -, -, -, hW1, st1⟩ := Steps.initColdS (tb := p.tables) (e := e) (below := below) (s := s) (U := T) K.here hexec K.warmed hpl hown (t := Bundle.initS X) rfl rfl (Bundle.fit_spec hX).2
    (at_ (.methodLink own ic (Bundle.initS X)) (by simp [TN_])) (h (.instanceMethod (Bundle.initS X)) (by simp [TN_, Bundle.passSAtoms])) (bytes := bx) (maxL := 2) (h (.code (Bundle.initS X) bx 2 none) (by simp [TN_, Bundle.passSAtoms]))
    (f := F0 m pc ls [msg, .ref H0.size, .ref H0.size]) rfl (a := H0.size) (msg := msg) (rest := [.ref H0.size]) rfl hd6
  cases Option.some.inj (hnC.symm.trans hP1m)
  have K1 := K.noted hW1
  obtain ⟨vm2, K2, st2⟩ := K1.ctorMessageOffV hexec (g := F0 m pc ls [.ref H0.size]) rfl hsize TT L Z LZ M LM (P1 :: P2 :: Ps)
    (fun P hP => by rcases List.mem_cons.mp hP with rfl | hP; exact L1; rcases List.mem_cons.mp hP with rfl | hP; exact L2; exact hL P hP) ⟨hlink1, hlink2, hlink⟩ (u0 := u0) (sen := sen) (self := H0.size) hmsg (cell := freshCell P1.m.cls kX) (cellS := cellS)
    hcell (fun _ => by simp) (by simp) rfl rfl hsel0 hselF hcellS (Nat.ne_of_lt hltS) hknownS z7 y7
    (Takes.of_laid hk hord tyC (by rw [Y.causeType]; rfl)) (Takes.of_laid hk hord tyS (by rw [Y.stackType]; exact fits_refV_array _ u0)) (Takes.of_laid hk hord tyP (by rw [Y.suppType]; exact fits_refV_object _ sen))
    (Takes.of_laid hk hord tyM (by rw [Y.msgType]; exact fits_refV_object _ ⟨msg, hmsg⟩)) Y.objLocals hskip htr [] hd6
    (by simp only [List.length_cons, hlen, List.length_nil]; omega) (by simp only [List.length_cons, hlen, List.length_nil]; simpa [Value.category] using hRl)
  obtain ⟨hwalk, hrun, hended, hWU, hsame⟩ := K2.athrowLeaves hexec (g := F0 m (pc + 3) ls [.ref H0.size]) rfl rfl rfl (fun x hx => by have h9 : c.exceptionTable = #[] := (by simpa using hem); rw [h9] at hx; cases hx) (a := H0.size) (rest := []) rfl hd9 hlocks
  refine ⟨_, st1 _ (fun acts => ?_), .threw H0.size, hrun, hended, hq _ (plainBareV TT.toThrowableT (freshCell P1.m.cls kX) H0.size u0 sen msg) ?_ rfl rfl hWU, locs, ⟨⟨_, rfl⟩, hWU, hsame.weaken (fun y hy hlt => ?_) (Nat.le_refl _) (Nat.le_refl _)⟩, hf⟩
  · rw [doInvoke_state]
    exact st2 _ hwalk
  · show T.heap.setIfInBounds H0.size _ = _
    rw [hT, hH]
    apply Array.ext_getElem?
    intro i
    rw [Array.getElem?_setIfInBounds, Array.getElem?_push, Array.getElem?_push]
    by_cases hi : H0.size = i
    · subst hi; simp
    · simp [hi, Ne.symm hi]
  · rcases List.mem_append.mp hy with h1 | h1
    · exact h1
    · exfalso
      have hbs : y.base = H0.size := by
        simp only [List.mem_cons, List.not_mem_nil, or_false] at h1
        rcases h1 with rfl | rfl | rfl | rfl | rfl <;> rfl
      rw [hbs] at hlt
      exact Nat.not_lt.mpr hS.1 hlt
theorem tw_new {cc : ByteArray} {Qc : Array Value → State → Outcome → State → Prop} {free : Addr → Prop} {A : Nat → Prop} (hfl : l.flags = pinnedFlags ++ [noTraceFlag]) (hexec : p.tables.exec = Jvm.exec) (hb : c.code = cc) (hem : c.exceptionTable.isEmpty = true)
    {own X tx : String} {ic ix icl isx ast : Nat} {bx : ByteArray} (hown : s.vm.findClass own = some m.cls) (hX : Bundle.fit X = true)
    (b0 : decode bx 0 = .ok (.aload_n 0, 1)) (b1 : decode bx 1 = .ok (.aload_n 1, 1)) (b2 : decode bx 2 = .ok (.invokespecial ix, 3)) (b5 : decode bx 5 = .ok (.return_, 1))
    (h : ∀ w ∈ TN_ own ic X ix bx, w.before args s = true) (hcl : (Cond.classLink own icl X).before args s = true) (hini : (Cond.initialized X).before args s = true) (hst : vk_R own isx tx ast s) (hZ : TZ_ A s s.heap) (hS : va_S A s.heap H locs)
    {pc : Nat} {ls : Array Slot} (hsize : ls.size = c.maxLocals)
    (hd0 : decode cc pc = .ok (.new icl, 3)) (hd3 : decode cc (pc + 3) = .ok (.dup, 1)) (hd4 : decode cc (pc + 4) = .ok (.ldc isx, 2)) (hd6 : decode cc (pc + 6) = .ok (.invokespecial ic, 3)) (hd9 : decode cc (pc + 9) = .ok (.athrow, 1)) (hRf : 5 < R.frames) (hRl : 82 ≤ R.locals) (hRc : cells + 1 ≤ R.cells) (hRs : slots + 6 ≤ R.slots)
    (hq : ∀ (t : State) (ce : Cell), t.heap = H.push ce → s.vm.findClass X = some ce.cls → ce.vm = .none → s.WarmedH t.vm → Qc args s (.threw H.size) t) (hf : ∀ q ∈ locs, free q.base)
    (hlocks : meth.locks = false) :
    W p l e R s m args below meth c H locs cells slots (MQT_ below Qc args s (cells + 1) (slots + 6) free) (F0 m pc ls []) := by
  refine W.newc hexec hb hown hcl (h _ (by simp [TN_])) hini (g := F0 m pc ls []) rfl hd0 hRc hRs ?_
  intro cC kC h1 h2 h3 h4
  refine lv_dup hexec hb hd3 rfl ?_
  refine va_ldcS hexec hb hown hst hd4 ?_
  exact tw_out hfl hexec hb hem hown hX b0 b1 b2 b5 h hZ hS h1 h2 rfl rfl hsize hd6 hd9 hRf hRl (fun t ce e1 e2 e3 e4 => hq t ce e1 (by rw [e2]; exact h1) e3 e4) hf hlocks
/-- what a method's throwing road says of its end: a thing of class X is thrown -/
def QT_ (X : String) (B : Heap → Prop) (A : Nat → Prop) : Array Value → State → Outcome → State → Prop := fun _ st oc t => (∃ (x : Addr) (cell : Cell), oc = .threw x ∧ t.heap[x]? = some cell ∧ cell.vm = .none ∧ t.vm.findClass X = some cell.cls) ∧ B t.heap ∧ va_F A st t
end TTW
