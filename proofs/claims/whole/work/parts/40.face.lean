/-! the calls that look -/
section FACL
variable {σ μ : MZ_}
theorem nI_back {a : Int32} {g : Nat} (hg : g ≤ 1000) (h0 : 0 ≤ a) (h1 : ¬ nI g ≤ a) : ∃ n, n < g ∧ a = nI n := by
  rw [Int32.le_iff_toInt_le] at h0 h1
  rw [nI_toInt (by omega)] at h1
  have e0 : (0 : Int32).toInt = 0 := by decide
  rw [e0] at h0
  refine ⟨a.toInt.toNat, by omega, ?_⟩
  apply Int32.toInt_inj.mp
  rw [nI_toInt (by omega)]
  omega
theorem nd_both {g : Nat} (h : GR_ σ μ g) (a : Int32) : ∃ b : Bool, f_G_isNode σ a = some (bI b) ∧ f_R_isNode μ a = some (bI b) ∧ (b = true → ∃ n, n < g ∧ a = nI n) := by
  obtain ⟨kd, ga, gb, gc, hg, bo, hW, hX, hR⟩ := h
  have hg80 := hW.1
  unfold f_G_isNode f_R_isNode
  rw [bd_s (in_f _ _ _), hX.1, hR.1]
  by_cases q1 : a < 0
  · rw [if_pos q1, if_neg (show ¬ (0 ≤ a ∧ a ≤ nI g - 1) from fun hh => Int32.not_le.mpr q1 hh.1)]
    exact ⟨false, rfl, rfl, fun e => by cases e⟩
  · rw [if_neg q1]
    have q1 : 0 ≤ a := Int32.not_lt.mp q1
    by_cases q2 : nI g ≤ a
    · rw [if_pos q2, if_neg]
      · exact ⟨false, rfl, rfl, fun e => by cases e⟩
      · intro hh
        have h2 := hh.2
        cases g with
        | zero => exact Int32.not_le.mpr (show nI 0 - 1 < 0 by decide) (Int32.le_trans q1 h2)
        | succ g =>
          rw [nI_pred] at h2
          have := (le_c (N := g + 1) (n := g) (by omega) (by omega)).mp (Int32.le_trans q2 h2)
          omega
    · obtain ⟨n, hn, rfl⟩ := nI_back (by omega) q1 q2
      rw [if_neg q2, if_pos]
      · exact ⟨true, rfl, rfl, fun _ => ⟨n, hn, rfl⟩⟩
      · refine ⟨q1, ?_⟩
        obtain ⟨g, rfl⟩ : ∃ g', g = g' + 1 := ⟨g - 1, by omega⟩
        rw [nI_pred]
        exact (le_c (by omega) (by omega)).mpr (by omega)
theorem vn_latest (h : Vn_ σ μ) (a : Int32) : ∃ x, f_S_latest σ a = some x ∧ f_R_latest μ a = some (x, va_up μ 30 (fun _ => 0)) := by
  obtain ⟨g, h1, h2, h3, h4, h5⟩ := vn_30 h (fun _ => 0)
  obtain ⟨-, h6⟩ := h5
  unfold f_S_latest f_R_latest
  rw [st_e, bd_s (in_f _ _ _)]
  generalize va_up μ 30 (fun _ => (0 : Int32)) = m at h6 ⊢
  by_cases q1 : a < 0
  · rw [if_pos q1, if_neg (show ¬ (0 ≤ a ∧ a ≤ 3) from fun hh => Int32.not_le.mpr q1 hh.1), if_pos rfl]
    exact ⟨-2, rfl, rfl⟩
  rw [if_neg q1]
  by_cases q2 : a ≤ 3
  · rw [if_pos q2, if_pos (show 0 ≤ a ∧ a ≤ 3 from ⟨Int32.not_lt.mp q1, q2⟩), if_neg (show ¬ (1 : Int32) = 0 by decide)]
    rcases h6 with ⟨e1, e2⟩ | ⟨e1, e2, e3, e4, e5⟩
    · rw [bd_s (show f_M_hasRun σ = some 0 by unfold f_M_hasRun; rw [e1]; rfl), if_pos rfl, e2, if_pos rfl]
      exact ⟨0, rfl, rfl⟩
    · rw [bd_s (show f_M_hasRun σ = some 1 by unfold f_M_hasRun; rw [e1]; rfl), if_neg (show ¬ (1 : Int32) = 0 by decide), e2, if_neg (show ¬ (1 : Int32) = 0 by decide)]
      unfold f_M_isTired f_M_place f_M_looks f_M_far f_M_hasSucceeded
      by_cases a0 : a = 0
      · rw [if_pos a0, if_pos a0]
        rcases e5 with ⟨c1, c2, c3⟩ | ⟨c1, c2, c3⟩ | ⟨c1, c2, c3⟩
        · rw [c1, c2]; exact ⟨-1, rfl, rfl⟩
        · rw [c1, c2]; exact ⟨_, rfl, rfl⟩
        · rw [c1, c2]; exact ⟨_, rfl, rfl⟩
      rw [if_neg a0, if_neg a0]
      by_cases a1 : a = 1
      · rw [if_pos a1, if_pos a1, e3]; exact ⟨_, rfl, rfl⟩
      rw [if_neg a1, if_neg a1]
      by_cases a2 : a = 2
      · rw [if_pos a2, if_pos a2, e4]; exact ⟨_, rfl, rfl⟩
      rw [if_neg a2, if_neg a2]
      rcases e5 with ⟨c1, c2, c3⟩ | ⟨c1, c2, c3⟩ | ⟨c1, c2, c3⟩
      · rw [c1, c3]; exact ⟨0, rfl, rfl⟩
      · rw [c1, c3]; exact ⟨1, rfl, rfl⟩
      · rw [c1, c3]; exact ⟨0, rfl, rfl⟩
  · rw [if_neg q2, if_neg (show ¬ (0 ≤ a ∧ a ≤ 3) from fun hh => q2 hh.2), if_pos rfl]
    exact ⟨-2, rfl, rfl⟩
/-! empty, begins, leads where nothing is wrong with what is asked -/
theorem vn_empty {g n : Nat} (h : Vn_ σ μ) (hg : GR_ σ μ g) (hn : n < g) : ∃ x σ' μ', f_Y_isEmpty σ (nI n) = some (x, σ') ∧ f_R_empty μ (nI n) = some (x, μ') ∧ Vn_ σ' μ' ∧ μ' 30 0 = 0 := by
  have hv := vn_30 h (fun _ => 0)
  have hG2 : GR_ σ (va_up μ 30 (fun _ => 0)) g := gr_c hg (fun _ _ => rfl) (fun k hk => va_up_ne _ _ (by omega))
  have t0 : (va_up μ 30 (fun _ => (0 : Int32))) 30 0 = 0 := by rw [va_up_self]
  obtain ⟨b, nb1, nb2, nb3⟩ := nd_both hG2 (nI n)
  obtain ⟨kd, ga, gb, gc, hgt, bo, hW, hX, hR⟩ := hG2
  unfold f_Y_isEmpty f_R_empty
  rw [st_e]
  generalize va_up μ 30 (fun _ => (0 : Int32)) = m at hv hR t0 nb2 ⊢
  obtain ⟨s1, p1, x1, m1⟩ := xe_all hW hX
  obtain ⟨m2, p2, x2, e2⟩ := re_all hW hR
  have hb : b = true := by
    rw [xg_node hX hW.1 hn] at nb1
    cases b with
    | true => rfl
    | false => exact absurd (Option.some.inj nb1) (by decide)
  subst hb
  rw [bd_s p1, bd_s (xm_9 (xg_x hX x1 (by omega)) hW.1 m1 hn), bI_o, bd_s nb2, if_neg (bI_1 rfl), bd_s p2, gd_in (vp_in_nI (by have := hW.1; omega) (by omega)), nI_clamp (by have := hW.1; omega), e2 n hn, bI_o]
  exact ⟨_, s1, m2, rfl, rfl, vn_c hv (fun k hk => x1 k (by omega)) (fun k hk => x2 k (by omega)), by rw [x2 30 (by omega)]; exact t0⟩
end FACL
