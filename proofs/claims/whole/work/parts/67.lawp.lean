/-! what the law's loop stands on -/
section LAWP
theorem vn_start {gg : Nat → Int32} (h : ∀ j, j < 6 → gg j = -1) : Vn_ (va_up (fun _ _ => 0) 7 gg) (fun _ _ => 0) := by
  refine ⟨0, ⟨fun _ => 0, fun _ => 0, fun _ => 0, fun _ => 0, fun _ => 0, fun _ => none, ⟨by omega, fun n hn => absurd hn (Nat.not_lt_zero _), fun r b _ hb => (by cases hb)⟩, ⟨by rw [va_up_ne _ _ (by omega)]; rfl, fun n hn => absurd hn (Nat.not_lt_zero _), fun r b _ hb => (by cases hb), fun r hr _ => by rw [va_up_self]; exact h r hr⟩,
    ⟨rfl, fun n hn => absurd hn (Nat.not_lt_zero _), fun r b _ hb => (by cases hb), fun r hr _ => rfl⟩⟩, ⟨0, ⟨by rw [va_up_ne _ _ (by omega)]; rfl, by omega, fun i hi => absurd hi (Nat.not_lt_zero _)⟩, ⟨rfl, by omega⟩, fun i hi => absurd hi (Nat.not_lt_zero _)⟩,
    Or.inl ⟨by rw [va_up_ne _ _ (by omega)], rfl⟩, Or.inl rfl, fun i _ => (by rw [va_up_ne _ _ (by omega)]), Or.inl ⟨by rw [va_up_ne _ _ (by omega)], rfl⟩⟩
theorem kp_ {D : va_G} {cl : List vw_C} {w : va_W} {A : Nat → Prop} {s : State} {H H1 : Heap} (hP : va_P D cl w H) (hA : ∀ (k : Nat) (z : Nat × va_E), w[k]? = some z → ¬ A z.1) (hF : va_F A { s with heap := H } { s with heap := H1 }) : va_P D cl w H1 :=
  hP.kept (fun k z hz => hF.2 _ (hP k z hz).lt (hA k z hz))
def LC_ (p : Program) (s : State) (m : MethodId) (c : Code) (b L : Nat) (xs : Nat → Int32) (dC : Nat → ClassId) (dI : Nat → Nat → Nat) (q : Nat → Nat) (cA : Nat → ClassId) (pt : Nat) (qr : Nat → Nat) (cR : Nat → ClassId) (ou : Nat) (cL : ClassId) : Prop :=
  p.tables.exec = Jvm.exec ∧ c.code = code ∧ c.maxLocals = 7 ∧ s.vm.findClass "StagedParsersLaw" = some m.cls ∧ (∀ w ∈ AW_, w.before #[Value.ref b] s = true) ∧ va_K (dC, dI) cls_ (tyX cA) s ∧ va_K (dC, dI) cls_ (tyR cR) s ∧ va_K (dC, dI) cls_ [(cL, .long)] s ∧
  (∀ w ∈ NW_, va_Nw w s) ∧ SX_ q pt s s.heap ∧ EX_ (AX q) s ∧ (∀ z ∈ NCL_, NC_ z.1 z.2 s) ∧ va_X b L xs s s.heap ∧ b < s.heap.size ∧ (∀ σ, va_D (AX q) (wX q cA σ)) ∧ (∀ μ, va_D (AR qr) (wR qr cR μ)) ∧ (∀ a, AX q a → ¬ AR qr a ∧ a ≠ ou) ∧ ¬ AR qr ou ∧ (∀ a, AX q a ∨ AR qr a ∨ a = ou → s.heap.size ≤ a)
abbrev AN_ (s : State) : Nat → Prop := fun a => s.heap.size ≤ a
def LI_ (s : State) (dC : Nat → ClassId) (dI : Nat → Nat → Nat) (q : Nat → Nat) (cA : Nat → ClassId) (qr : Nat → Nat) (cR : Nat → ClassId) (ou : Nat) (cL : ClassId) (σ μ : MZ_) (f : Nat → Int64) (H : Heap) (locs : List Loc) : Prop :=
  va_P (dC, dI) cls_ (wX q cA σ) H ∧ va_P (dC, dI) cls_ (wR qr cR μ) H ∧ va_P (dC, dI) cls_ (ow_ ou cL f) H ∧ va_S (AN_ s) s.heap H locs
variable {p : Program} {l : Launch} {e : Env} {R : Room} {s : State} {m : MethodId} {args : Array Value} {below : List Frame} {meth : Method} {c : Code} {H : Heap} {locs : List Loc} {cells slots : Nat} {Q : State → Prop}
variable {pc : Nat} {ls : Array Slot} {rest st0 : List Value} {a : Array Value}
variable {dC : Nat → ClassId} {dI : Nat → Nat → Nat} {q : Nat → Nat} {cA : Nat → ClassId} {pt : Nat} {qr : Nat → Nat} {cR : Nat → ClassId} {ou : Nat} {cL : ClassId} {σ μ : MZ_} {f : Nat → Int64} {b L : Nat} {xs : Nat → Int32}
theorem cx_wrM {mc ms : Nat} {rv : Option Value} {B : Heap → Prop} {A A0 : Nat → Prop} {H0 : Heap} (hr : va_Run p l e R s m args below meth c H locs cells slots mc ms (F0 m pc ls st0) rest (QW_ rv B A a) A) (hS : va_S A0 H0 H locs) (hA : ∀ q, A q → A0 q)
    (kk : ∀ (H1 : Heap) (locs1 : List Loc), B H1 → va_F A { s with heap := H } { s with heap := H1 } → va_S A0 H0 H1 locs1 → W p l e R s m args below meth c H1 locs1 (cells + mc) (slots + ms) Q (F0 m (pc + 3) ls (rv.toList ++ rest))) : W p l e R s m args below meth c H locs cells slots Q (F0 m pc ls st0) := by
  intro T hT X
  obtain ⟨v, st₀, t, T', L, h0, X', hL, e1, e2, ⟨hv, hB, hz, hk⟩, st⟩ := hr T hT X
  cases hv
  rw [h0] at hz hk
  obtain ⟨t2, a1, b1⟩ := kk T'.heap (locs ++ L) (by rw [e1]; exact hB) ⟨by rw [e1]; exact hz, fun q h1 h2 => by show T'.heap[q]? = H[q]?; rw [e1]; exact hk q h1 h2⟩
    ⟨Nat.le_trans hS.1 (by rw [e1]; exact hz), fun q h1 h2 => by rw [e1, hk q (Nat.lt_of_lt_of_le h1 hS.1) (fun z => h2 (hA q z))]; exact hS.2.1 q h1 h2, fun q hq => by
      rcases List.mem_append.mp hq with h | h
      · exact hS.2.2 q h
      · exact hA _ (hL q h)⟩ T' rfl X'
  exact ⟨t2, st t2 a1, b1⟩
/-- what was there before is as it was -/
theorem hs_old (hS : va_S (AN_ s) s.heap H locs) : ∀ a : Nat, a < s.heap.size → H[a]? = s.heap[a]? := fun a h => hS.2.1 a h (Nat.not_le.mpr h)
theorem px_L {av : List Value} (hP : va_P (dC, dI) cls_ (wX q cA σ) H) (hK : va_K (dC, dI) cls_ (tyX cA) s) (hD : va_D (AX q) (wX q cA σ)) (hN : ∀ w ∈ NW_, va_Nw w s) (hZ : SX_ q pt s s.heap) (hS : va_S (AN_ s) s.heap H locs) :
    ∀ U : State, U.heap = H → s.WarmedH U.vm → va_Pc av (PX_ dC dI q cA pt σ) av.toArray U := by
  intro U hU hW
  have ho := hs_old hS
  refine ⟨rfl, by rw [hU]; exact hP, va_K.moved hW.alike hK, hD, nw_warm hW hN, ?_, ?_⟩
  · rw [hU]; exact va_Z.moved hW.alike (hZ.1.kept (fun a h _ => ho a h))
  · rw [hU]; exact va_T.moved hW.alike (hZ.2.kept (fun a h _ => ho a h))
theorem po_L {av : List Value} (hP : va_P (dC, dI) cls_ (wX q cA σ) H) (hO : va_P (dC, dI) cls_ (ow_ ou cL f) H) (hK : va_K (dC, dI) cls_ (tyX cA) s) (hKO : va_K (dC, dI) cls_ [(cL, .long)] s) (hD : va_D (AX q) (wX q cA σ)) (hN : ∀ w ∈ NW_, va_Nw w s) (hZ : SX_ q pt s s.heap) (hE : EX_ (AX q) s) (hne : ¬ AX q ou) (hNC : ∀ z ∈ NCL_, NC_ z.1 z.2 s) (hS : va_S (AN_ s) s.heap H locs) :
    ∀ U : State, U.heap = H → s.WarmedH U.vm → va_Pc av (PO_ dC dI q cA pt σ ou cL f) av.toArray U := by
  intro U hU hW
  have ho := hs_old hS
  have hS0 : va_S (AX q) s.heap H [] := ⟨hS.1, fun a h _ => ho a h, fun _ h => by cases h⟩
  exact ⟨rfl, (px_L (av := av) hP hK hD hN hZ hS U hU hW).2, EX_U hE hS0 U hU hW, by rw [hU]; exact hO, va_K.moved hW.alike hKO, hne, fun z hz => NC_moved hW.alike (hNC z hz)⟩
theorem pr_L {av : List Value} (hP : va_P (dC, dI) cls_ (wR qr cR μ) H) (hK : va_K (dC, dI) cls_ (tyR cR) s) (hD : va_D (AR qr) (wR qr cR μ)) :
    ∀ U : State, U.heap = H → s.WarmedH U.vm → va_Pc av (PRx_ dC dI qr cR μ) av.toArray U := fun U hU hW =>
  ⟨rfl, by rw [hU]; exact hP, va_K.moved hW.alike hK, hD, trivial, trivial⟩
theorem ow_at {k : Nat} {z : Nat × va_E} (h : (ow_ ou cL f)[k]? = some z) : z.1 = ou := by
  cases k with
  | zero => cases h; rfl
  | succ k => cases h
/-- behind a call of one of the law's methods that catch -/
theorem li_O {σ2 : MZ_} {f2 : Nat → Int64} {H1 : Heap} {locs1 : List Loc} (C : LC_ p s m c b L xs dC dI q cA pt qr cR ou cL) (I : LI_ s dC dI q cA qr cR ou cL σ μ f H locs) (hB : va_P (dC, dI) cls_ (WO_ q cA σ2 ou cL f2) H1) (hF : va_F (AO_ q ou) { s with heap := H } { s with heap := H1 }) (hS : va_S (AN_ s) s.heap H1 locs1) : LI_ s dC dI q cA qr cR ou cL σ2 μ f2 H1 locs1 := by
  obtain ⟨-, -, -, -, -, -, -, -, -, -, -, -, -, -, hDX, hDR, hd, hno, -⟩ := C
  refine ⟨fun k z hz => hB k z ?_, kp_ I.2.1 (fun k z hz h => ?_) hF, fun k z hz => hB (k + 30) z ?_, hS⟩
  · show (wX q cA σ2 ++ ow_ ou cL f2)[k]? = _
    rw [List.getElem?_append_left (List.getElem?_eq_some_iff.mp hz).1]; exact hz
  · have hr := (hDR μ).2 k z hz
    rcases h with h | h
    · exact (hd _ h).1 hr
    · rw [h] at hr; exact hno hr
  · show (wX q cA σ2 ++ ow_ ou cL f2)[k + 30]? = _
    rw [List.getElem?_append_right (show 30 ≤ k + 30 by omega)]
    show (ow_ ou cL f2)[k + 30 - 30]? = _
    rw [Nat.add_sub_cancel]; exact hz
theorem li_X {σ2 : MZ_} {H1 : Heap} {locs1 : List Loc} (C : LC_ p s m c b L xs dC dI q cA pt qr cR ou cL) (I : LI_ s dC dI q cA qr cR ou cL σ μ f H locs) (hB : va_P (dC, dI) cls_ (wX q cA σ2) H1) (hF : va_F (AX q) { s with heap := H } { s with heap := H1 }) (hS : va_S (AN_ s) s.heap H1 locs1) : LI_ s dC dI q cA qr cR ou cL σ2 μ f H1 locs1 := by
  obtain ⟨-, -, -, -, -, -, -, -, -, -, -, -, -, -, hDX, hDR, hd, hno, -⟩ := C
  exact ⟨hB, kp_ I.2.1 (fun k z hz h => (hd _ h).1 ((hDR μ).2 k z hz)) hF, kp_ I.2.2.1 (fun k z hz h => (hd _ h).2 (ow_at hz)) hF, hS⟩
theorem li_R {μ2 : MZ_} {H1 : Heap} {locs1 : List Loc} (C : LC_ p s m c b L xs dC dI q cA pt qr cR ou cL) (I : LI_ s dC dI q cA qr cR ou cL σ μ f H locs) (hB : va_P (dC, dI) cls_ (wR qr cR μ2) H1) (hF : va_F (AR qr) { s with heap := H } { s with heap := H1 }) (hS : va_S (AN_ s) s.heap H1 locs1) : LI_ s dC dI q cA qr cR ou cL σ μ2 f H1 locs1 := by
  obtain ⟨-, -, -, -, -, -, -, -, -, -, -, -, -, -, hDX, hDR, hd, hno, -⟩ := C
  exact ⟨kp_ I.1 (fun k z hz h => (hd _ ((hDX σ).2 k z hz)).1 h) hF, hB, kp_ I.2.2.1 (fun k z hz h => hno (by rw [← ow_at hz]; exact h)) hF, hS⟩
theorem vi_k {k j : Nat} (hk : 5 * k + 5 ≤ L) (hL : L ≤ 2560) (hj : j < 5) : vp_in (nI (5 * k) + nI j) L := by
  rw [nI_add]
  exact vp_in_nI (by omega) (by omega)
end LAWP
