/-! parse: alike on both sides -/
section ALPA
variable {σ μ : MZ_} {a : Int32}
theorem al_parse (h : Vn_ σ μ) : ∃ K, Ok_ (f_S_parse σ a) (f_R_parse K μ a) ∨ No_ (f_S_parse_t1 σ a) (f_R_parse K μ a) 1 ∨ No_ (f_S_parse_t2 σ a) (f_R_parse K μ a) 2 ∨ No_ (f_S_parse_t3 σ a) (f_R_parse K μ a) 3 ∨ No_ (f_S_parse_t4 σ a) (f_R_parse K μ a) 4 := by
  have h' := h
  obtain ⟨g, hG, hT, hs, h4, h5⟩ := h'
  rcases hs with ⟨s0, m0⟩ | ⟨s1, m1, -⟩
  · refine ⟨0, Or.inr (Or.inl (no_i h ?_ ?_))⟩
    · unfold f_S_parse_t1
      rw [if_pos s0]
    · unfold f_R_parse
      rw [st_e, if_pos (show (va_up μ 30 (fun _ => (0 : Int32))) 32 0 = 0 by rw [va_up_ne _ _ (by omega), m0])]
      rfl
  · have q1 : ¬ σ 30 0 = 0 := by rw [s1]; decide
    have q2 : ¬ (va_up μ 30 (fun _ => (0 : Int32))) 32 0 = 0 := by rw [va_up_ne _ _ (by omega), m1]; decide
    cases hq : rn_ a 5 with
    | false =>
      refine ⟨0, Or.inr (Or.inr (Or.inl (no_i h ?_ ?_)))⟩
      · have hb : f_G_hasBody σ a = some 0 := by
          unfold f_G_hasBody
          rw [bd_s (rn_rule a), hq, if_pos (bI_0 rfl)]
        unfold f_S_parse_t2
        rw [if_neg q1, bd_s hb, if_pos rfl]
      · unfold f_R_parse
        rw [st_e, if_neg q2, bd_s (rn_in _ _), hq, if_pos (bI_0 rfl)]
        rfl
    | true =>
      obtain ⟨r, hr, rfl⟩ := rn_nat (h := 5) (by omega) hq
      have hr6 : r < 6 := by omega
      obtain ⟨kd, ga, gb, gc, hg, bo, hW, hX, hR⟩ := hG
      have hb := hb_is hW hX hr6
      cases hbo : bo r with
      | none =>
        rw [hbo] at hb
        have hb0 : f_G_hasBody σ (nI r) = some 0 := hb
        refine ⟨0, Or.inr (Or.inr (Or.inl (no_i h ?_ ?_)))⟩
        · unfold f_S_parse_t2
          rw [if_neg q1, bd_s hb0, if_pos rfl]
        · unfold f_R_parse
          rw [st_e, if_neg q2, bd_s (rn_in _ _), hq, if_neg (bI_1 rfl), gd_in (vp_in_nI hr6 (by decide)), nI_clamp (by omega),
            if_pos (show (va_up μ 30 (fun _ => (0 : Int32))) 6 r = 0 by rw [va_up_ne _ _ (by omega), hR.2.2.2 r hr6 hbo])]
          rfl
      | some b =>
        rw [hbo] at hb
        have hb1 : f_G_hasBody σ (nI r) = some 1 := hb
        have hbg : b < g := hW.2.2 r b hr6 hbo
        have hne : μ 6 r ≠ 0 := by
          rw [hR.2.2.1 r b hr6 hbo]
          exact nI_ne0 (by omega) (by have := hW.1; omega)
        obtain ⟨K, σ', μ', x, e1, e2, e3, e4⟩ := vn_parse h s1 hr6 hne
        have n1 : ¬ (1 : Int32) = 0 := by decide
        rcases e4 with ⟨f1, f2, f3⟩ | ⟨f1, f2⟩ | ⟨f1, f2⟩
        · refine ⟨K, Or.inl ⟨x, σ', μ', ?_, e2, e3, f3⟩⟩
          have w1 : f_M_isTired σ' = some 0 := by unfold f_M_isTired; rw [f1, if_neg (show ¬ (1 : Int32) = 3 by decide)]
          have w2 : f_M_hasSucceeded σ' = some 1 := by unfold f_M_hasSucceeded; rw [f1, if_pos rfl]
          unfold f_S_parse
          rw [if_neg q1, bd_s hb1, if_neg n1, bd_s e1, bd_s w1, if_pos rfl, bd_s w2, if_neg n1, bd_s f2]
        · refine ⟨K, Or.inr (Or.inr (Or.inr (Or.inr ⟨σ', μ', x, ?_, e2, e3, f2⟩)))⟩
          have w1 : f_M_isTired σ' = some 0 := by unfold f_M_isTired; rw [f1, if_neg (show ¬ (2 : Int32) = 3 by decide)]
          have w2 : f_M_hasSucceeded σ' = some 0 := by unfold f_M_hasSucceeded; rw [f1, if_neg (show ¬ (2 : Int32) = 1 by decide)]
          unfold f_S_parse_t4
          rw [if_neg q1, bd_s hb1, if_neg n1, bd_s e1, bd_s w1, if_pos rfl, bd_s w2, if_pos rfl]
        · refine ⟨K, Or.inr (Or.inr (Or.inr (Or.inl ⟨σ', μ', x, ?_, e2, e3, f2⟩)))⟩
          have w1 : f_M_isTired σ' = some 1 := by unfold f_M_isTired; rw [f1, if_pos rfl]
          unfold f_S_parse_t3
          rw [if_neg q1, bd_s hb1, if_neg n1, bd_s e1, bd_s w1, if_neg n1]
end ALPA
