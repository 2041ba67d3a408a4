/-! the law's own cell for an answer, beside the class's world -/
section OUTW
def ow_ (ou : Nat) (cL : ClassId) (f : Nat → Int64) : va_W := [(ou, .inl (cL, 1, .inr (.inl f)))]
def WO_ (q : Nat → Nat) (cA : Nat → ClassId) (σ : MZ_) (ou : Nat) (cL : ClassId) (f : Nat → Int64) : va_W := wX q cA σ ++ ow_ ou cL f
def AO_ (q : Nat → Nat) (ou : Nat) : Nat → Prop := fun a => AX q a ∨ a = ou
def NCL_ : List (String × String) := [("java/lang/IllegalStateException", "java/lang/IllegalArgumentException"), ("java/lang/IllegalArgumentException", "java/lang/IllegalStateException"), ("java/lang/UnsupportedOperationException", "java/lang/IllegalStateException"), ("java/lang/UnsupportedOperationException", "java/lang/IllegalArgumentException"), ("java/util/NoSuchElementException", "java/lang/IllegalStateException"), ("java/util/NoSuchElementException", "java/lang/IllegalArgumentException"), ("java/util/NoSuchElementException", "java/lang/UnsupportedOperationException")]
def PO_ (dC : Nat → ClassId) (dI : Nat → Nat → Nat) (q : Nat → Nat) (cA : Nat → ClassId) (pt : Nat) (σ : MZ_) (ou : Nat) (cL : ClassId) (f : Nat → Int64) (U : State) : Prop :=
  PX_ dC dI q cA pt σ U ∧ EX_ (AX q) U ∧ va_P (dC, dI) cls_ (ow_ ou cL f) U.heap ∧ va_K (dC, dI) cls_ [(cL, .long)] U ∧ ¬ AX q ou ∧ ∀ z ∈ NCL_, NC_ z.1 z.2 U
variable {dC : Nat → ClassId} {dI : Nat → Nat → Nat} {q : Nat → Nat} {cA : Nat → ClassId} {pt : Nat} {σ : MZ_} {ou : Nat} {cL : ClassId} {f : Nat → Int64}
theorem po_B {av : List Value} : FrameBlind (va_Pc av (PO_ dC dI q cA pt σ ou cL f)) := by
  intro a U g mrk hq
  obtain ⟨q0, qX, qE, qO, qK, qn, qc⟩ := hq
  have h1 := pxX_B (av := av) a U g mrk ⟨q0, qX⟩
  exact ⟨q0, h1.2, EX_B qE, qO, va_K.moved (u := U) (U := U.calling g mrk a) (Vm.Alike.refl U.vm) qK, qn, fun z hz => NC_moved (u := U) (U := U.calling g mrk a) (Vm.Alike.refl U.vm) (qc z hz)⟩
theorem pt_B {av : List Value} : FrameBlind (va_Pc av (fun U => PX_ dC dI q cA pt σ U ∧ EX_ (AX q) U)) := by
  intro a U g mrk hq
  obtain ⟨q0, qX, qE⟩ := hq
  have h1 := pxX_B (av := av) a U g mrk ⟨q0, qX⟩
  exact ⟨q0, h1.2, EX_B qE⟩
theorem pt_U {av : List Value} {s : State} {H : Heap} {locs : List Loc} (hP : va_P (dC, dI) cls_ (wX q cA σ) H) (hK : va_K (dC, dI) cls_ (tyX cA) s) (hD : va_D (AX q) (wX q cA σ)) (hN : ∀ w ∈ NW_, va_Nw w s) (hZ : SX_ q pt s s.heap) (hE : EX_ (AX q) s) (hS : va_S (AX q) s.heap H locs) :
    ∀ U : State, U.heap = H → s.WarmedH U.vm → va_Pc av (fun U => PX_ dC dI q cA pt σ U ∧ EX_ (AX q) U) av.toArray U := fun U hU hW =>
  ⟨rfl, (pxX_U (av := av) hP hK hD hN hZ hS U hU hW).2, EX_U hE hS U hU hW⟩
/-- behind a call of the class's: the answer's cell is as it was -/
theorem ow_kept {s : State} {H H1 : Heap} (hO : va_P (dC, dI) cls_ (ow_ ou cL f) H) (hn : ¬ AX q ou) (hF : va_F (AX q) { s with heap := H } { s with heap := H1 }) : va_P (dC, dI) cls_ (ow_ ou cL f) H1 := by
  refine hO.kept (fun k z hz => ?_)
  have hl := (hO k z hz).lt
  have hz1 : z.1 = ou := by
    cases k with
    | zero => cases hz; rfl
    | succ k => cases hz
  exact hF.2 _ hl (by rw [hz1]; exact hn)
theorem ow_D (hD : va_D (AX q) (wX q cA σ)) (hn : ¬ AX q ou) (σ2 : MZ_) (f2 : Nat → Int64) : va_D (AO_ q ou) (WO_ q cA σ2 ou cL f2) := by
  have hD2 : va_D (AX q) (wX q cA σ2) := dd_re (wX_f _ _ _ _) hD
  refine va_D.app (hD2.weaken (fun _ _ _ h => Or.inl h)) ⟨fun i j x y hi hj _ => ?_, fun k z hz => ?_⟩ (fun i j x y hx hy hxy => ?_)
  · cases i with
    | succ i => cases hi
    | zero => cases j with
      | succ j => cases hj
      | zero => rfl
  · cases k with
    | succ k => cases hz
    | zero => cases hz; exact Or.inr rfl
  · cases j with
    | succ j => cases hy
    | zero =>
      cases hy
      exact hn (by rw [← show x.1 = ou from hxy]; exact hD2.2 i x hx)
theorem vi_0 : vp_in (0 : Int32) 1 := vp_in_nI (n := 0) (N := 1) (by decide) (by decide)
theorem ow_up {D : va_G} {cl : List vw_C} {H : Heap} {x : Int64} (h : va_P D cl ((WO_ q cA σ ou cL f).set 30 (ou, .inl (cL, 1, .inr (.inl (vp_updL f (0 : Int32).toNatClampNeg x))))) H) : va_P D cl (WO_ q cA σ ou cL (vp_updL f 0 x)) H := by
  rw [sb_cl0] at h
  exact h
theorem tb_of {p : Program} {l : Launch} {y : MethodName} {S : Spec} {code : ByteArray} {maxL : Nat} {ret : Option FieldType} {e : Env} {s : State} {m : MethodId} {args : Array Value} {below : List Frame} {meth : Method} {c : Code} {s₁ : State} {hh : List (Nat × Nat × Nat × Nat)}
    (B : BodyLoose p l y S code maxL ret e s m args below meth c s₁) (h : (Cond.codeWith y code maxL ret hh).before args s = true) : c.exceptionTable.toList.map (fun h => (h.startPc, h.endPc, h.handlerPc, h.catchType)) = hh := by
  obtain ⟨m9, meth', c', hn9, hm', hc', -, -, he', -⟩ := Cond.codeWith_spec h
  cases B.named.symm.trans hn9
  cases B.method.symm.trans hm'
  cases (Stand.of_body B).code.symm.trans hc'
  exact he'
end OUTW
