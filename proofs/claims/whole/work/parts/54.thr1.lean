/-! a call that throws, and the row of the caller's table that catches -/
section TFI
/-- the search for a handler ends at pc, and leaves these tables -/
def th_To (e : Env) (s : State) (f : JFrame) (a : Addr) (pc : Nat) (vm' : Vm) : Prop :=
  ∀ (Q : Handler → Pre) (E : CtlPost) (d : Bool) (acts : List Action), wp (findHandler f a) Q E e d acts s ↔ Q (.found pc) d acts (s.setVm vm')
theorem th_row {Q : Handler → Pre} {E : CtlPost} {e : Env} {d : Bool} {acts : List Action} {s : State} {f : JFrame} {a : Addr} {x : ExceptionTableEntry} {t : List ExceptionTableEntry} {c : ClassId} {cell : Cell}
    (hx : covers x f.pc = true) (h0 : x.catchType ≠ 0) (hl : s.vm.ClassLinks e.platform f.method.cls x.catchType c) (hcell : s.heap[a]? = some cell) (hobj : ∀ k, cell.vm ≠ .statics k)
    (hk : ∃ k, s.vm.classes[cell.cls]? = some k) (hc : ∃ k, s.vm.classes[c]? = some k) :
    wp (findHandler.go f a (x :: t)) Q E e d acts s ↔ if s.vm.assignable cell.cls c = true then Q (.found x.handlerPc) d acts (s.setVm (s.vm.noted f.method.cls x.catchType (.cls c)))
      else wp (findHandler.go f a t) Q E e d acts (s.setVm (s.vm.noted f.method.cls x.catchType (.cls c))) := by
  have hal : s.vm.Alike (s.vm.noted f.method.cls x.catchType (.cls c)) := (Vm.Alike.refl s.vm).noted _ _ _
  obtain ⟨ha, ht⟩ := (resolveClass_links e.toSetting hl).op (op := VmOp.resolveClass f.method.cls x.catchType) rfl
  obtain ⟨k1, hk1⟩ := hk
  obtain ⟨k2, hk2⟩ := hc
  obtain ⟨j1, g1, -⟩ := hal.2.2 _ _ hk1
  obtain ⟨j2, g2, -⟩ := hal.2.2 _ _ hk2
  simp only [covers] at hx
  cases hq : s.vm.assignable cell.cls c with
  | true =>
    have hq' : (s.vm.noted f.method.cls x.catchType (.cls c)).assignable cell.cls c = true := by rw [hal.assignable]; exact hq
    simp [findHandler.go, hx, h0, ha, ht, hcell, hobj, g1, g2, hq', VmOp.dirties, VmOp.acts]
  | false =>
    have hq' : (s.vm.noted f.method.cls x.catchType (.cls c)).assignable cell.cls c = false := by rw [hal.assignable]; exact hq
    simp [findHandler.go, hx, h0, ha, ht, hcell, hobj, g1, g2, hq', VmOp.dirties, VmOp.acts]
/-- a row of the table that covers the place, and names a class of which the thrown thing is one (b true) or is not -/
def th_R (pl : Platform) (s0 : State) (d : ClassId) (pc : Nat) (thrown : ClassId) (b : Bool) (y : ExceptionTableEntry) : Prop :=
  covers y pc = true ∧ y.catchType ≠ 0 ∧ ∃ c, s0.vm.ClassLinks pl d y.catchType c ∧ s0.vm.assignable thrown c = b
theorem th_noted {s0 S : State} {pl : Platform} {d n c : Nat} (hW : s0.WarmedH S.vm) (hl : s0.vm.ClassLinks pl d n c) : s0.WarmedH (S.vm.noted d n (.cls c)) ∧ S.vm.ClassLinks pl d n c ∧ ∃ k, S.vm.classes[c]? = some k := by
  obtain ⟨dk, _, _, kt, hd, _, _, _, _, hkt, _, hopen⟩ := hl.here
  obtain ⟨kt', hkt', -⟩ := hW.alike.2.2 _ _ hkt
  exact ⟨hW.noted hd hopen (State.rightAt_cls hl), hW.classLinks hl, kt', hkt'⟩
theorem th_go {e : Env} {s0 : State} {f : JFrame} {a : Addr} {cell : Cell} (hobj : ∀ k, cell.vm ≠ .statics k) (hk0 : ∃ k, s0.vm.classes[cell.cls]? = some k) (x : ExceptionTableEntry) (rest : List ExceptionTableEntry) (hx : th_R e.platform s0 f.method.cls f.pc cell.cls true x) :
    ∀ (pre : List ExceptionTableEntry) (S : State), s0.WarmedH S.vm → S.heap[a]? = some cell → (∀ y ∈ pre, th_R e.platform s0 f.method.cls f.pc cell.cls false y) →
      ∃ vm', s0.WarmedH vm' ∧ ∀ (Q : Handler → Pre) (E : CtlPost) (d : Bool) (acts : List Action), wp (findHandler.go f a (pre ++ x :: rest)) Q E e d acts S ↔ Q (.found x.handlerPc) d acts (S.setVm vm') := by
  intro pre
  induction pre with
  | nil =>
    intro S hW hcell _
    obtain ⟨h1, h2, c, hl, hf⟩ := hx
    obtain ⟨w1, w2, w3⟩ := th_noted hW hl
    obtain ⟨k, hk⟩ := hk0
    obtain ⟨k', hk', -⟩ := hW.alike.2.2 _ _ hk
    have hf' : S.vm.assignable cell.cls c = true := by rw [hW.alike.assignable]; exact hf
    exact ⟨_, w1, fun Q E d acts => by rw [List.nil_append, th_row h1 h2 w2 hcell hobj ⟨k', hk'⟩ w3, if_pos hf']⟩
  | cons y ys ih =>
    intro S hW hcell hp
    obtain ⟨h1, h2, c, hl, hf⟩ := hp y List.mem_cons_self
    obtain ⟨w1, w2, w3⟩ := th_noted hW hl
    obtain ⟨k, hk⟩ := hk0
    obtain ⟨k', hk', -⟩ := hW.alike.2.2 _ _ hk
    have hf' : ¬ S.vm.assignable cell.cls c = true := by rw [hW.alike.assignable, hf]; decide
    obtain ⟨vm', w4, hq⟩ := ih (S.setVm (S.vm.noted f.method.cls y.catchType (.cls c))) w1 hcell (fun z hz => hp z (List.mem_cons_of_mem _ hz))
    exact ⟨vm', w4, fun Q E d acts => by rw [List.cons_append, th_row h1 h2 w2 hcell hobj ⟨k', hk'⟩ w3, if_neg hf', hq]; rfl⟩
theorem th_step {e : Env} {s : State} {a : Addr} {f : JFrame} {r : List Frame} {pc : Nat} {vm' : Vm} (h : th_To e s f a pc vm') :
    (stepThrowing e s a (.java f :: r)).Is ((s.setVm vm').setFrames (.java { f with pc := pc, stack := [.ref a] } :: r)) [] := by
  simp only [stepThrowing, searchFrame, vmDo]
  generalize hr : Sem.go _ e false [] s = res
  obtain ⟨as, rfl, ha⟩ := Sem.eq_ok_of hr (a := Handler.found pc) (s' := s.setVm vm') (acts' := []) (by simp [h _ _ _ _])
  exact ⟨rfl, ha⟩
theorem th_sf (u : State) (vm' : Vm) (F G : List Frame) : ((u.setFrames F).setVm vm').setFrames G = (u.setVm vm').setFrames G := by
  show ((u.setVm vm').setFrames F).setFrames G = _
  rw [State.setFrames_setFrames]
theorem th_caught {tb : Tables} {e : Env} {s target : State} {g : JFrame} {c : Code} {below : List Frame} {a : Addr} (h : At s g.method c below) {pc : Nat} {vm' : Vm}
    (hfind : th_To e ((s.setTop g).pushFrame (.throwing a)) g a pc vm') (hrest : Steps tb e below ((s.setVm vm').setTop { g with pc := pc, stack := [.ref a] }) target) :
    Steps tb e below ((s.setTop g).pushFrame (.throwing a)) target := by
  obtain ⟨hgo, hw⟩ := h.throwing a
  obtain ⟨g0, hg⟩ := Option.isSome_iff_exists.mp h.top
  obtain ⟨r, hr⟩ := State.topJava?_eq_some.mp hg
  have hr' : (s.setVm vm').frames = .java g0 :: r := hr
  refine Steps.head hgo hw ?_
  rw [stepThread_throwing (frames_entered h.top _), (th_step (s := (s.setTop g).pushFrame (.throwing a)) hfind).1]
  rw [State.setTop_of_frames _ hr'] at hrest
  rw [hr, List.tail_cons, State.pushFrame, th_sf, State.setTop_of_frames _ hr, th_sf]
  exact hrest
end TFI
section TCA
variable {p : Program} {l : Launch} {e : Env} {R : Room} {s : State} {m : MethodId} {args : Array Value} {below : List Frame} {meth : Method} {c : Code} {T : State} {locs : List Loc} {cells slots : Nat}
/-- thrown in a callee, caught here -/
theorem th_catch (X : Stand p l e R s m args below meth c T locs cells slots) (a : Addr) {g : JFrame} (hg : g.method = m) {s0 : State} (hcome : Steps p.tables e below s0 ((T.setTop g).pushFrame (.throwing a)))
    {cell : Cell} (hcell : T.heap[a]? = some cell) (hobj : cell.vm.isStatics = false) (hk0 : ∃ k, s.vm.classes[cell.cls]? = some k)
    (pre : List ExceptionTableEntry) (x : ExceptionTableEntry) (rest : List ExceptionTableEntry) (hsplit : c.exceptionTable.toList = pre ++ x :: rest)
    (hpass : ∀ y ∈ pre, th_R e.platform s m.cls g.pc cell.cls false y) (hx : th_R e.platform s m.cls g.pc cell.cls true x) :
    ∃ vm', Stand p l e R s m args below meth c (T.setVm vm') locs cells slots ∧ Steps p.tables e below s0 ((T.setVm vm').setTop { g with pc := x.handlerPc, stack := [.ref a] }) := by
  subst hg
  have ho : ∀ k, cell.vm ≠ .statics k := fun k hk => by rw [hk] at hobj; cases hobj
  obtain ⟨vm', hW, hq⟩ := th_go (e := e) (s0 := s) (f := g) (a := a) ho hk0 x rest hx pre ((T.setTop g).pushFrame (.throwing a)) X.warmed hcell hpass
  refine ⟨vm', X.noted hW, hcome.trans (th_caught X.here (fun Q E d acts => ?_) (Steps.refl _))⟩
  rw [_root_.Jvm.W.findHandler_eq (s := (T.setTop g).pushFrame (.throwing a)) (f := g) X.method' X.code, hsplit]
  exact hq Q E d acts
end TCA
