/-! node made: the invariant -/
section NOD8
variable {σ σ' m : MZ_} {g n hh : Nat} {kd : Nat → Nat} {ga gb gc : Nat → Int32} {hg : Nat → Nat} {bo : Nat → Option Nat} {a b c : Int32}
theorem rw_ne {k : Int32} {j : Nat} (h : ¬ (1 ≤ j ∧ j ≤ 5)) (h2 : j ≠ 31) : rw_ m g k a b c hh j = m j := by
  unfold rw_
  rw [va_up_ne _ _ h2, va_up_ne _ _ (by omega), va_up_ne _ _ (by omega), va_up_ne _ _ (by omega), va_up_ne _ _ (by omega), va_up_ne _ _ (by omega)]
theorem vn_made (hW : WF_ g kd ga gb gc hg bo) (hX : XG_ σ g kd ga gb gc hg bo) (hR : RG_ m g kd ga gb gc hg bo) (hT : TX_ σ m) (h3 : (σ 30 0 = 0 ∧ m 32 0 = 0) ∨ (σ 30 0 = 1 ∧ m 32 0 = 1 ∧ SG_ σ m g)) (h4 : m 35 0 = 0 ∨ m 35 0 = 1) (h5 : LT_ σ m) (hg80 : g < 80) (hn : n ≤ 13) (h1 : 1 ≤ hh) (h8 : hh ≤ 8) (hK : NK_ g hg n a b c hh) (hN : Nx_ σ σ' g (nI n) a b c (nI hh)) : Vn_ σ' (rw_ m g (nI n) a b c hh) := by
  have n0 := hN.1
  refine ⟨g + 1, ⟨_, _, _, _, _, bo, wf_new hW hg80 hn h1 h8 hK, xg_new hX hN, rg_new hR⟩, tx_c hT (fun k hk => n0 k (by omega) (by omega)) (fun k hk => rw_ne (by omega) (by omega)), ?_, ?_, lt_c h5 (fun k hk => n0 k (by omega) (by omega)) (fun k hk => rw_ne (by omega) (by omega))⟩
  · rw [n0 30 (by omega) (by omega), rw_ne (j := 32) (by omega) (by omega)]
    rcases h3 with h3 | ⟨e1, e2, g', kd', ga', gb', gc', hg', bo', q0, qW, qF, qC, qE, q1, q2, q3⟩
    · exact Or.inl h3
    · refine Or.inr ⟨e1, e2, g', kd', ga', gb', gc', hg', bo', by omega, qW, qF, ?_, ?_, fun i hi => ?_, ?_, ?_⟩
      · unfold CL_; rw [n0 32 (by omega) (by omega), n0 15 (by omega) (by omega), n0 16 (by omega) (by omega), n0 17 (by omega) (by omega)]; exact qC
      · rw [n0 19 (by omega) (by omega)]; exact qE
      · show upd (m 1) g (nI n) i = _ ∧ upd (m 2) g a i = _ ∧ upd (m 3) g b i = _ ∧ upd (m 4) g c i = _
        have e : i ≠ g := by omega
        rw [pk_un e, pk_un e, pk_un e, pk_un e]
        exact q1 i hi
      · rw [rw_ne (j := 6) (by omega) (by omega)]; exact q2
      · rw [rw_ne (j := 6) (by omega) (by omega)]; exact q3
  · rw [rw_ne (j := 35) (by omega) (by omega)]; exact h4
end NOD8
