/-! a call that throws, in a method that catches; a call of such a method -/
section TCW
/-- X is no Y -/
def NC_ (X Y : String) (U : State) : Prop := ∃ a b, U.vm.findClass X = some a ∧ U.vm.findClass Y = some b ∧ U.vm.assignable a b = false
theorem NC_moved {X Y : String} {u U : State} (h : u.vm.Alike U.vm) (hn : NC_ X Y u) : NC_ X Y U := by
  obtain ⟨a, b, h1, h2, h3⟩ := hn
  exact ⟨a, b, by rw [h.findClass]; exact h1, by rw [h.findClass]; exact h2, by rw [h.assignable]; exact h3⟩
theorem NC_of {X Y : String} {args : Array Value} {s : State} (h : (Cond.not (.castable X Y)).before args s = true) : NC_ X Y s := by
  have hv := Cond.holds_not_iff.mp h
  simp only [Cond.value] at hv
  cases h1 : s.vm.findClass X with
  | none => simp [h1] at hv
  | some a =>
    cases h2 : s.vm.findClass Y with
    | none => simp [h1, h2] at hv
    | some b =>
      simp only [h1, h2] at hv
      exact ⟨a, b, h1, h2, Option.some.inj hv⟩
theorem th_yes {s : State} {args : Array Value} {pl : Platform} (hpl : pl.magicAccessors = ({} : Platform).magicAccessors) {own X : String} {d t : ClassId} {y : ExceptionTableEntry} {pc : Nat} (hown : s.vm.findClass own = some d) (hlink : (Cond.classLink own y.catchType X).before args s = true) (hX : s.vm.findClass X = some t)
    (hc : covers y pc = true) (h0 : y.catchType ≠ 0) : th_R pl s d pc t true y := by
  obtain ⟨c', hc', hcl⟩ := Cond.classLink_spec hown hlink pl hpl
  cases hX.symm.trans hc'
  exact ⟨hc, h0, t, hcl, va_asg _ _⟩
theorem th_no {s : State} {args : Array Value} {pl : Platform} (hpl : pl.magicAccessors = ({} : Platform).magicAccessors) {own X Y : String} {d t : ClassId} {y : ExceptionTableEntry} {pc : Nat} (hown : s.vm.findClass own = some d) (hlink : (Cond.classLink own y.catchType Y).before args s = true) (hX : s.vm.findClass X = some t) (hn : NC_ X Y s)
    (hc : covers y pc = true) (h0 : y.catchType ≠ 0) : th_R pl s d pc t false y := by
  obtain ⟨c', hc', hcl⟩ := Cond.classLink_spec hown hlink pl hpl
  obtain ⟨a, b, h1, h2, h3⟩ := hn
  cases hX.symm.trans h1
  cases hc'.symm.trans h2
  exact ⟨hc, h0, _, hcl, h3⟩
/-- a row of a table: from, to, at, and the entry of the class -/
def er_ (q : Nat × Nat × Nat × Nat) : ExceptionTableEntry := ⟨q.1, q.2.1, q.2.2.1, q.2.2.2⟩
theorem er_list {l : List ExceptionTableEntry} {hs : List (Nat × Nat × Nat × Nat)} (h : l.map (fun h => (h.startPc, h.endPc, h.handlerPc, h.catchType)) = hs) : l = hs.map er_ := by
  subst h
  rw [List.map_map]
  conv => lhs; rw [← List.map_id l]
  rfl
variable {p : Program} {l : Launch} {e : Env} {R : Room} {s : State} {m : MethodId} {args : Array Value} {below : List Frame} {meth : Method} {c : Code} {H : Heap} {locs : List Loc} {cells slots : Nat} {Q : State → Prop}
variable {y : MethodName} {bytes cc : ByteArray} {maxL nL mc ms n index : Nat} {ret : Option FieldType} {ws : List Cond} {rm : Room} {Pc : Array Value → State → Prop} {Qc : Array Value → State → Outcome → State → Prop} {free : Addr → Prop} {Ts : List Cond} {own C : String} {b : Addr} {As rest : List Value} {g : JFrame}
theorem cx_thr {X : String} {B : Heap → Prop} {A A0 : Nat → Prop} {H0 : Heap} {pc : Nat} {ls : Array Slot} {st0 : List Value} {pre rst : List (Nat × Nat × Nat × Nat)} {x : Nat × Nat × Nat × Nat}
    (S : CallFix p m c cc nL s args Ts own) (hM : MT_ l y ws rm Pc (QT_ X B A) mc ms A) (cw : CallW R s args own C index y bytes maxL ret ws rm mc ms n) (hp : PreV s H C b Pc As)
    (hn : As.length = n) (hsize : ls.size = nL) (hstack : st0 = As.reverse ++ .ref b :: rest) (hW : 2 * (F0 m pc ls st0).monitorRoom + (rest.map fun v => v.category).sum ≤ 8) (hdg : decode cc pc = .ok (.invokevirtual index, 3)) (hf : cells + mc ≤ R.cells ∧ slots + ms ≤ R.slots)
    (htab : c.exceptionTable.toList.map (fun h => (h.startPc, h.endPc, h.handlerPc, h.catchType)) = pre ++ x :: rst)
    (hpass : ∀ (pl : Platform) (t : ClassId), pl.magicAccessors = ({} : Platform).magicAccessors → s.vm.findClass X = some t → (∀ z ∈ pre, th_R pl s m.cls pc t false (er_ z)) ∧ th_R pl s m.cls pc t true (er_ x))
    (hS : va_S A0 H0 H locs) (hA : ∀ q, A q → A0 q)
    (kk : ∀ (a : Nat) (H1 : Heap) (locs1 : List Loc), B H1 → va_F A { s with heap := H } { s with heap := H1 } → va_S A0 H0 H1 locs1 → W p l e R s m args below meth c H1 locs1 (cells + mc) (slots + ms) Q (F0 m x.2.2.1 ls [.ref a])) : W p l e R s m args below meth c H locs cells slots Q (F0 m pc ls st0) := by
  intro T hT K
  obtain ⟨a, st₀, t, T', L, h0, K', hL, e1, e2, ⟨⟨a', cell, ho, hc1, hc2, hc3⟩, hB, hz, hk⟩, st⟩ := th_runV (g := F0 m pc ls st0) S hM cw hp rfl hn hsize hstack hW hdg hf hT K
  cases ho
  rw [h0] at hz hk
  have hpl : e.platform.magicAccessors = ({} : Platform).magicAccessors := by rw [K.admits.platform]
  have hX : s.vm.findClass X = some cell.cls := by
    have h9 := hc3
    rw [← e2, K'.warmed.alike.findClass] at h9
    exact h9
  obtain ⟨g1, g2⟩ := hpass e.platform cell.cls hpl hX
  obtain ⟨k, hk0⟩ : ∃ k, s.vm.classes[cell.cls]? = some k := by
    obtain ⟨k, hk, -⟩ := Vm.findClass_spec hX
    exact ⟨k, hk⟩
  have hl : c.exceptionTable.toList = pre.map er_ ++ er_ x :: rst.map er_ := by
    rw [er_list htab, List.map_append, List.map_cons]
  obtain ⟨vm', K2, st2⟩ := th_catch K' a (g := F0 m pc ls rest) rfl st (cell := cell) (by rw [e1]; exact hc1) (by rw [hc2]; rfl) ⟨k, hk0⟩ (pre.map er_) (er_ x) (rst.map er_) hl
    (fun z hz => by obtain ⟨w, hw, rfl⟩ := List.mem_map.mp hz; exact g1 w hw) g2
  obtain ⟨t2, a1, b1⟩ := kk a T'.heap (locs ++ L) (by rw [e1]; exact hB) ⟨by rw [e1]; exact hz, fun q h1 h2 => by show T'.heap[q]? = H[q]?; rw [e1]; exact hk q h1 h2⟩
    ⟨Nat.le_trans hS.1 (by rw [e1]; exact hz), fun q h1 h2 => by rw [e1, hk q (Nat.lt_of_lt_of_le h1 hS.1) (fun z => h2 (hA q z))]; exact hS.2.1 q h1 h2, fun q hq => by
      rcases List.mem_append.mp hq with h | h
      · exact hS.2.2 q h
      · exact hA _ (hL q h)⟩ (T'.setVm vm') rfl K2
  exact ⟨t2, st2.trans a1, b1⟩
/-- a static call of a method that has a table -/
theorem cx_runSW {hh : List (Nat × Nat × Nat × Nat)} (S : CallFix p m c cc nL s args Ts own) (hM : Met l y ws rm Pc Qc mc ms free) (hrc : rm.cells = mc) (hrs : rm.slots = ms) (hR : rm.frames + 1 ≤ R.frames ∧ 8 + (maxL + 11) + rm.locals ≤ R.locals)
    (hG : GoodIn Ts ws) (hcw : Cond.codeWith y bytes maxL ret hh ∈ ws) (hini : (Cond.initialized y.cls).before args s = true) (hy : y.cls ≠ "java/lang/invoke/MethodHandle" ∧ y.cls ≠ "java/lang/invoke/VarHandle" ∧ (parseMethodDescriptor y.desc).map (fun d => d.parameters.length) = some n)
    (hl : (Cond.methodLink own index y).before args s = true) (hstt : (Cond.static y).before args s = true) (hp : PreS s H Pc As)
    (hg : g.method = m) (hn : As.length = n) (hsize : g.locals.size = nL) (hstack : g.stack = As.reverse ++ rest) (hW : 2 * g.monitorRoom + (rest.map fun v => v.category).sum ≤ 8) (hdg : decode cc g.pc = .ok (.invokestatic index, 3)) (hf : cells + mc ≤ R.cells ∧ slots + ms ≤ R.slots) :
    va_Run p l e R s m args below meth c H locs cells slots mc ms g rest (Qc As.toArray) free := by
  obtain ⟨hx, hb, hml, ho, hts⟩ := S
  have hws := pay_in hts hG
  have hK : Back l R p e below s args y 3 8 (PreOf R mc ms Pc) (PostOf Qc mc ms free) := va_backW (bytes := bytes) (maxL := maxL) (ret := ret) (hh := hh) hM hp.1 hrc hrs hR.1 hR.2 hws hcw (fun a' U hW => word_at hW (Or.inl (by first | rfl | simp [Cond.onTables, Cond.keeps, Cond.steady])) hini)
  intro T hT X
  obtain ⟨mk, methM, cM, hnamed, hmethM, -, -, -, -, -, -, hsigM⟩ := Cond.codeWith_spec (hts _ (hG _ hcw).1)
  have hstatic : methM.isStatic = true := Cond.static_spec hnamed hmethM hstt
  obtain ⟨kP, hkP, -⟩ := className_of_methodNamed hnamed
  have hinitP : kP.init = .initialized := Cond.initialized_spec (findClass_of_methodNamed hnamed) hkP hini
  have hlen : As.length = methM.sig.parameters.length := by
    have h2 := hy.2.2
    rw [hsigM] at h2
    exact hn.trans (Option.some.inj h2).symm
  subst hT; subst hb
  obtain ⟨vm1, X1, hstep⟩ := X.invokestatic hx ho hl hnamed hmethM hstatic hkP hinitP ⟨hy.1, hy.2.1⟩ (g := g) hg (argsL := As) (rest := rest) hlen hstack hdg
  obtain ⟨v, ⟨U', l2, c2, s2⟩, X', ⟨g', mk', t, L, e1, e2, hq, h1, hL, h2, h3⟩, hsteps⟩ := hK m meth c ⟨T.setVm vm1, locs, cells, slots⟩ { g with stack := rest } (.invokestatic index) mk As.toArray X1 hg (hsize.trans hml.symm) hdg hW (X1.named hnamed) ⟨hf.1, hf.2, hp.2 (T.setVm vm1) rfl X1.warmed⟩
  dsimp only [Pt.U, Pt.locs, Pt.cells, Pt.slots] at X' e1 e2 h1 h2 h3 hsteps
  subst h1; subst h2; subst h3
  exact ⟨v, (T.setVm vm1).calling g' mk' As.toArray, t, U', L, rfl, X', hL, e1, e2, hq, fun target h => hstep _ fun acts => by rw [doInvoke_state]; exact hsteps.trans h⟩
end TCW
