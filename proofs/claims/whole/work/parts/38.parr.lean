/-! a run of both systems over one grammar -/
section PARR
variable {σ μ : MZ_} {g : Nat} {kd : Nat → Nat} {ga gb gc : Nat → Int32} {hg : Nat → Nat} {bo : Nat → Option Nat} {len : Nat}
/-- what stands in both systems since the last stage that found nothing wrong -/
def SG_ (σ μ : MZ_) (G : Nat) : Prop := ∃ (g : Nat) (kd : Nat → Nat) (ga gb gc : Nat → Int32) (hg : Nat → Nat) (bo : Nat → Option Nat), g ≤ G ∧ WF_ g kd ga gb gc hg bo ∧ Fa_ g kd ga gb bo = 0 ∧ CL_ σ (lc_ kd ga gb gc (Ib_ g kd ga gb bo) g) ∧ (∀ i, i < 6 → σ 19 i = nI (eb_ bo (ln_ kd (Ib_ g kd ga gb bo)) i)) ∧ (∀ n, n < g → μ 1 n = nI (kd n) ∧ μ 2 n = ga n ∧ μ 3 n = gb n ∧ μ 4 n = gc n) ∧ (∀ r b, r < 6 → bo r = some b → μ 6 r = nI (b + 1)) ∧ (∀ r, r < 6 → bo r = none → μ 6 r = 0)
theorem gw_of (hW : WF_ g kd ga gb gc hg bo) (hF : Fa_ g kd ga gb bo = 0) (h1 : ∀ n, n < g → μ 1 n = nI (kd n) ∧ μ 2 n = ga n ∧ μ 3 n = gb n ∧ μ 4 n = gc n) (h2 : ∀ r b, r < 6 → bo r = some b → μ 6 r = nI (b + 1)) : GW_ μ kd (fun r => (bo r).getD 0) (fun n => Ib_ g kd ga gb bo n = true) := by
  have hg80 := hW.1
  intro n hI hn80
  have hn := ib_lt hW hI
  obtain ⟨e1, e2, e3, e4⟩ := h1 n hn
  obtain ⟨i1, i2⟩ := ib_parts hW hI
  obtain ⟨f1, -⟩ := fa_0 hF
  have f1 : p1_ g kd ga gb bo n = false := ay_no g 0 f1 n (by omega) (by omega)
  obtain ⟨g1, -, g3, g4, g5, g6, g7, g8, g9, g10⟩ := hW.2.1 n hn
  rw [e1, e2, e3, e4]
  have cl : ∀ x, x < n → (nI x).toNatClampNeg = x := fun x hx => nI_clamp (by omega)
  refine ⟨rfl, g1, g3, fun q => ?_, fun q => ?_, g6, g7, fun q => ?_, g9, g10⟩
  · obtain ⟨x, hx, ex, -⟩ := g4 q
    have := i1 (decide_eq_true q)
    rw [ex, cl x hx] at this
    exact ⟨x, by omega, this, ex⟩
  · obtain ⟨x, hx, ex, -⟩ := g5 q
    have := i2 (decide_eq_true q)
    rw [ex, cl x hx] at this
    exact ⟨x, by omega, this, ex⟩
  · obtain ⟨r, hr, er⟩ := g8 q
    unfold p1_ at f1
    rw [hI, q, er, nI_clamp (show r < 2 ^ 31 by omega)] at f1
    cases hb : bo r with
    | none => rw [hb] at f1; exact absurd f1 (by decide)
    | some b =>
      have hbg := hW.2.2 r b hr hb
      refine ⟨r, hr, er, ?_, ?_, ?_⟩
      · show (bo r).getD 0 < 80
        rw [hb]; show b < 80; omega
      · show Ib_ g kd ga gb bo ((bo r).getD 0) = true
        rw [hb]; exact ib_body hr hb
      · show μ 6 r = nI ((bo r).getD 0 + 1)
        rw [hb]; exact h2 r b hr hb
theorem par_run {r G : Nat} (hS : SG_ σ μ G) (hT : TW_ σ len) (hR : RT_ μ len) (htx : ∀ i, i < len → σ 21 i = μ 7 i) (h35 : μ 35 0 = 0 ∨ μ 35 0 = 1) (hr : r < 6) (hb0 : μ 6 r ≠ 0) :
    ∃ K σ' μ' rr, f_M_run σ (nI r) = some σ' ∧ f_R_run K μ (nI r) = some μ' ∧ (∀ k, (k ≤ 22 ∨ k = 25 ∨ (30 ≤ k ∧ k ≤ 33)) → σ' k = σ k) ∧ Gx_ μ μ' ∧ σ' 42 0 = 1 ∧ (μ' 35 0 = 0 ∨ μ' 35 0 = 1) ∧ σ' 38 0 = μ' 41 0 ∧ σ' 39 0 = μ' 42 0 ∧ (∀ i, i < 4 → σ' 24 i = μ' 18 i) ∧ (rr = 0 ∨ rr = 1 ∨ rr = 2) ∧
      (rr = 1 → σ' 35 0 = 1 ∧ μ' 38 0 = 0 ∧ μ' 35 0 = 1 ∧ σ' 37 0 = μ' 36 0 ∧ f_M_answer σ' = some (μ' 37 0)) ∧ (rr = 0 → σ' 35 0 = 2 ∧ μ' 38 0 = 0 ∧ μ' 35 0 = 0 ∧ σ' 37 0 = μ' 36 0) ∧ (rr = 2 → σ' 35 0 = 3 ∧ μ' 38 0 = 1) := by
  obtain ⟨g, kd, ga, gb, gc, hg, bo, -, hW, hF, hC, hE, h1, h2, h3⟩ := hS
  obtain ⟨b, hb⟩ : ∃ b, bo r = some b := by
    cases hb : bo r with
    | none => exact absurd (h3 r hr hb) hb0
    | some b => exact ⟨b, rfl⟩
  have hg80 := hW.1
  have hbg := hW.2.2 r b hr hb
  have hlen := (lc_len (ga := ga) (gb := gb) (gc := gc) (J := Ib_ g kd ga gb bo) (fun n hn => (hW.2.1 n hn).1) b (by omega)).2
  have een : enf_ σ r = ln_ kd (Ib_ g kd ga gb bo) b := by
    unfold enf_
    rw [hE r hr]
    unfold eb_
    rw [hb]
    show (nI (ln_ kd (Ib_ g kd ga gb bo) b)).toNatClampNeg = ln_ kd (Ib_ g kd ga gb bo) b
    exact nI_clamp (by omega)
  have hI : Ib_ g kd ga gb bo b = true := ib_body hr hb
  obtain ⟨σ', rr, v, ps', p1, hrr, hRS, fx, h42, h38, h39, h24, q1, q0, q2⟩ := run_all (I := fun n => Ib_ g kd ga gb bo n = true) (cl_cw hW hC hE) hT hr hI een (cd_0 hC) (wm_all hW hF hC hE)
  have hA : AG_ μ (fun n => Ib_ g kd ga gb bo n = true) ga gb gc (σ 21) len := ⟨fun n hn _ => (h1 n (ib_lt hW hn)).2, fun i hi => (htx i hi).symm⟩
  obtain ⟨K, μ', p2, gx, m35, m41, m42, m18, w1, w0, w2⟩ := ref_all h35 (gw_of hW hF h1 h2) hR hA hr hI (by omega) (h2 r b hr hb) (hW.2.1 b hbg).2.1.2 hrr hRS
  refine ⟨K, σ', μ', rr, p1, p2, fx, gx, h42, m35, h38.trans m41.symm, h39.trans m42.symm, fun i hi => (h24 i hi).trans (m18 i hi).symm, hrr, fun e => ?_, fun e => ?_, fun e => ⟨q2 e, w2 e⟩⟩
  · obtain ⟨a1, a2, a3⟩ := q1 e
    obtain ⟨b1, b2, b3, b4⟩ := w1 e
    exact ⟨a1, b1, b2, a2.trans b3.symm, by rw [a3, b4]⟩
  · obtain ⟨a1, a2⟩ := q0 e
    obtain ⟨b1, b2, b3⟩ := w0 e
    exact ⟨a1, b1, b2, a2.trans b3.symm⟩
end PARR
