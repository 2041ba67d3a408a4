/-! node made on both sides: what holds between the memories goes on holding -/
section NOD7
variable {σ σ' m : MZ_} {g n hh : Nat} {kd : Nat → Nat} {ga gb gc : Nat → Int32} {hg : Nat → Nat} {bo : Nat → Option Nat} {a b c : Int32}
theorem wf_new (hW : WF_ g kd ga gb gc hg bo) (hg80 : g < 80) (hn : n ≤ 13) (h1 : 1 ≤ hh) (h8 : hh ≤ 8) (hK : NK_ g hg n a b c hh) : WF_ (g + 1) (va_up kd g n) (va_up ga g a) (va_up gb g b) (va_up gc g c) (va_up hg g hh) bo := by
  refine ⟨by omega, fun i hi => ?_, fun r b hr hb => by have := hW.2.2 r b hr hb; omega⟩
  have hgx : ∀ x, x < g → va_up hg g hh x = hg x := fun x hx => va_up_ne _ _ (by omega)
  by_cases e : i = g
  · subst e
    obtain ⟨k0, k1, k2, k3, k4, k5, k6, k7⟩ := hK
    rw [va_up_self, va_up_self, va_up_self, va_up_self, va_up_self]
    refine ⟨hn, ⟨h1, h8⟩, k0, fun q => ?_, fun q => ?_, k3, k4, k5, k6, k7⟩
    · obtain ⟨x, hx, ex, hl⟩ := k1 q
      exact ⟨x, hx, ex, by rw [hgx x hx]; exact hl⟩
    · obtain ⟨x, hx, ex, hl⟩ := k2 q
      exact ⟨x, hx, ex, by rw [hgx x hx]; exact hl⟩
  · obtain ⟨g1, g2, g3, g4, g5, g6⟩ := hW.2.1 i (by omega)
    rw [va_up_ne _ _ e, va_up_ne _ _ e, va_up_ne _ _ e, va_up_ne _ _ e, va_up_ne _ _ e]
    refine ⟨g1, g2, g3, fun q => ?_, fun q => ?_, g6⟩
    · obtain ⟨x, hx, ex, hl⟩ := g4 q
      exact ⟨x, hx, ex, by rw [hgx x (by omega)]; exact hl⟩
    · obtain ⟨x, hx, ex, hl⟩ := g5 q
      exact ⟨x, hx, ex, by rw [hgx x (by omega)]; exact hl⟩
theorem xg_new (hX : XG_ σ g kd ga gb gc hg bo) (hN : Nx_ σ σ' g (nI n) a b c (nI hh)) : XG_ σ' (g + 1) (va_up kd g n) (va_up ga g a) (va_up gb g b) (va_up gc g c) (va_up hg g hh) bo := by
  obtain ⟨n0, n2, n3, n4, n5, n6, n6g, n31⟩ := hN
  refine ⟨n31, fun i hi => ?_, ?_, ?_⟩
  · rw [n2, n3, n4, n5]
    by_cases e : i = g
    · subst e
      rw [va_up_self, va_up_self, va_up_self, va_up_self, va_up_self, pk_us, pk_us, pk_us, pk_us]
      exact ⟨rfl, rfl, rfl, rfl, n6g⟩
    · rw [va_up_ne _ _ e, va_up_ne _ _ e, va_up_ne _ _ e, va_up_ne _ _ e, va_up_ne _ _ e, pk_un e, pk_un e, pk_un e, pk_un e, n6 i e]
      exact hX.2.1 i (by omega)
  · rw [n0 7 (by omega) (by omega)]; exact hX.2.2.1
  · rw [n0 7 (by omega) (by omega)]; exact hX.2.2.2
theorem rg_new (hR : RG_ m g kd ga gb gc hg bo) : RG_ (rw_ m g (nI n) a b c hh) (g + 1) (va_up kd g n) (va_up ga g a) (va_up gb g b) (va_up gc g c) (va_up hg g hh) bo := by
  refine ⟨rfl, fun i hi => ?_, hR.2.2.1, hR.2.2.2⟩
  show upd (m 1) g (nI n) i = _ ∧ upd (m 2) g a i = _ ∧ upd (m 3) g b i = _ ∧ upd (m 4) g c i = _ ∧ upd (m 5) g (nI hh) i = _
  by_cases e : i = g
  · subst e
    rw [va_up_self, va_up_self, va_up_self, va_up_self, va_up_self, pk_us, pk_us, pk_us, pk_us, pk_us]
    exact ⟨rfl, rfl, rfl, rfl, rfl⟩
  · rw [va_up_ne _ _ e, va_up_ne _ _ e, va_up_ne _ _ e, va_up_ne _ _ e, va_up_ne _ _ e, pk_un e, pk_un e, pk_un e, pk_un e, pk_un e]
    exact hR.2.1 i (by omega)
end NOD7
