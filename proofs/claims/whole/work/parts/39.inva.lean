/-! what holds between both systems' memories, call after call -/
section INVA
variable {σ μ : MZ_}
def LT_ (σ μ : MZ_) : Prop := (∀ i, i < 4 → σ 24 i = μ 18 i) ∧ ((σ 42 0 = 0 ∧ μ 43 0 = 0) ∨ (σ 42 0 = 1 ∧ μ 43 0 = 1 ∧ σ 38 0 = μ 41 0 ∧ σ 39 0 = μ 42 0 ∧ ((σ 35 0 = 3 ∧ μ 44 0 = -1 ∧ μ 45 0 = 0) ∨ (σ 35 0 = 1 ∧ σ 37 0 = μ 44 0 ∧ μ 45 0 = 1) ∨ (σ 35 0 = 2 ∧ σ 37 0 = μ 44 0 ∧ μ 45 0 = 0))))
def GR_ (σ μ : MZ_) (g : Nat) : Prop := ∃ (kd : Nat → Nat) (ga gb gc : Nat → Int32) (hg : Nat → Nat) (bo : Nat → Option Nat), WF_ g kd ga gb gc hg bo ∧ XG_ σ g kd ga gb gc hg bo ∧ RG_ μ g kd ga gb gc hg bo
def TX_ (σ μ : MZ_) : Prop := ∃ len, TW_ σ len ∧ RT_ μ len ∧ ∀ i, i < len → σ 21 i = μ 7 i
def Vn_ (σ μ : MZ_) : Prop := ∃ g, GR_ σ μ g ∧ TX_ σ μ ∧ ((σ 30 0 = 0 ∧ μ 32 0 = 0) ∨ (σ 30 0 = 1 ∧ μ 32 0 = 1 ∧ SG_ σ μ g)) ∧ (μ 35 0 = 0 ∨ μ 35 0 = 1) ∧ LT_ σ μ
theorem gr_c {σ' μ' : MZ_} {g : Nat} (h : GR_ σ μ g) (hx : ∀ k, (2 ≤ k ∧ k ≤ 7) ∨ k = 31 → σ' k = σ k) (hm : ∀ k, (1 ≤ k ∧ k ≤ 6) ∨ k = 31 → μ' k = μ k) : GR_ σ' μ' g := by
  obtain ⟨kd, ga, gb, gc, hg, bo, hW, hX, hR⟩ := h
  refine ⟨kd, ga, gb, gc, hg, bo, hW, ?_, ?_⟩
  · unfold XG_
    rw [hx 31 (by omega), hx 2 (by omega), hx 3 (by omega), hx 4 (by omega), hx 5 (by omega), hx 6 (by omega), hx 7 (by omega)]
    exact hX
  · unfold RG_
    rw [hm 31 (by omega), hm 1 (by omega), hm 2 (by omega), hm 3 (by omega), hm 4 (by omega), hm 5 (by omega), hm 6 (by omega)]
    exact hR
theorem tx_c {σ' μ' : MZ_} (h : TX_ σ μ) (hx : ∀ k, k = 21 ∨ k = 33 → σ' k = σ k) (hm : ∀ k, k = 7 ∨ k = 33 → μ' k = μ k) : TX_ σ' μ' := by
  obtain ⟨len, h1, h2, h3⟩ := h
  refine ⟨len, ?_, ?_, ?_⟩
  · unfold TW_; rw [hx 33 (by omega), hx 21 (by omega)]; exact h1
  · unfold RT_; rw [hm 33 (by omega)]; exact h2
  · rw [hx 21 (by omega), hm 7 (by omega)]; exact h3
theorem sg_c {σ' μ' : MZ_} {G : Nat} (h : SG_ σ μ G) (hx : ∀ k, (15 ≤ k ∧ k ≤ 19) ∨ k = 32 → σ' k = σ k) (hm : ∀ k, (1 ≤ k ∧ k ≤ 6) → μ' k = μ k) : SG_ σ' μ' G := by
  obtain ⟨g, kd, ga, gb, gc, hg, bo, h0, hW, hF, hC, hE, h1, h2, h3⟩ := h
  refine ⟨g, kd, ga, gb, gc, hg, bo, h0, hW, hF, ?_, ?_, ?_, ?_, ?_⟩
  · unfold CL_; rw [hx 32 (by omega), hx 15 (by omega), hx 16 (by omega), hx 17 (by omega)]; exact hC
  · rw [hx 19 (by omega)]; exact hE
  · rw [hm 1 (by omega), hm 2 (by omega), hm 3 (by omega), hm 4 (by omega)]; exact h1
  · rw [hm 6 (by omega)]; exact h2
  · rw [hm 6 (by omega)]; exact h3
theorem lt_c {σ' μ' : MZ_} (h : LT_ σ μ) (hx : ∀ k, k = 24 ∨ (34 ≤ k ∧ k ≤ 43) → σ' k = σ k) (hm : ∀ k, k = 18 ∨ 41 ≤ k → μ' k = μ k) : LT_ σ' μ' := by
  unfold LT_
  rw [hx 24 (by omega), hx 42 (by omega), hx 38 (by omega), hx 39 (by omega), hx 35 (by omega), hx 37 (by omega), hm 18 (by omega), hm 43 (by omega), hm 41 (by omega), hm 42 (by omega), hm 44 (by omega), hm 45 (by omega)]
  exact h
/-- what a call may change without a word: the marks of the study; the other's thrown, marks and study -/
theorem vn_c {σ' μ' : MZ_} (h : Vn_ σ μ) (hx : ∀ k, k ≤ 7 ∨ 14 ≤ k → σ' k = σ k) (hm : ∀ k, k ≤ 7 ∨ k = 18 ∨ 31 ≤ k → μ' k = μ k) : Vn_ σ' μ' := by
  obtain ⟨g, h1, h2, h3, h4, h5⟩ := h
  refine ⟨g, gr_c h1 (fun k hk => hx k (by omega)) (fun k hk => hm k (by omega)), tx_c h2 (fun k hk => hx k (by omega)) (fun k hk => hm k (by omega)), ?_, ?_, lt_c h5 (fun k hk => hx k (by omega)) (fun k hk => hm k (by omega))⟩
  · rw [hx 30 (by omega), hm 32 (by omega)]
    rcases h3 with h3 | ⟨a, b, c⟩
    · exact Or.inl h3
    · exact Or.inr ⟨a, b, sg_c c (fun k hk => hx k (by omega)) (fun k hk => hm k (by omega))⟩
  · rw [hm 35 (by omega)]; exact h4
theorem vn_30 (h : Vn_ σ μ) (f : Nat → Int32) : Vn_ σ (va_up μ 30 f) := vn_c h (fun _ _ => rfl) (fun k hk => va_up_ne _ _ (by omega))
/-! stage -/
theorem vn_stage (h : Vn_ σ μ) : ∃ a σ' μ', f_S_stage σ = some (a, σ') ∧ f_R_stage μ = some (a, μ') ∧ Vn_ σ' μ' ∧ μ' 30 0 = 0 := by
  obtain ⟨g, ⟨kd, ga, gb, gc, hg, bo, hW, hX, hR⟩, h2, h3, h4, h5⟩ := vn_30 h (fun _ => 0)
  generalize hm0 : va_up μ 30 (fun _ => 0) = m0 at hR h2 h3 h4 h5
  have t0 : m0 30 0 = 0 := by rw [← hm0, va_up_self]
  obtain ⟨s1, p1, x1, e1, i1⟩ := xf_all hW hX
  obtain ⟨m1, q1, y1⟩ := rf_all hW hR
  unfold f_S_stage f_R_stage
  rw [st_e, hm0, bd_s p1, bd_s q1]
  by_cases hF : Fa_ g kd ga gb bo = 0
  · simp only [hF, if_true]
    rw [st_e, st_e, if_neg (show ¬ (va_up s1 30 (fun _ => (1 : Int32))) 30 0 = 0 by rw [va_up_self]; decide)]
    have x2 : ∀ k, k ≠ 30 → k ≠ 9 → k ≠ 11 → k ≠ 12 → k ≠ 13 → (va_up s1 30 (fun _ => (1 : Int32))) k = σ k := fun k a b c d e => by rw [va_up_ne _ _ a]; exact x1 k b c d e
    have z30 : (va_up s1 30 (fun _ => (1 : Int32))) 30 0 = 1 := by rw [va_up_self]
    have z11 : MK_ ((va_up s1 30 (fun _ => (1 : Int32))) 11) g (Ib_ g kd ga gb bo) := by rw [va_up_ne _ _ (by omega)]; exact i1
    generalize va_up s1 30 (fun _ => (1 : Int32)) = s2 at x2 z30 z11 ⊢
    have hX2 : XG_ s2 g kd ga gb gc hg bo := by
      unfold XG_
      rw [x2 31 (by omega) (by omega) (by omega) (by omega) (by omega), x2 2 (by omega) (by omega) (by omega) (by omega) (by omega), x2 3 (by omega) (by omega) (by omega) (by omega) (by omega), x2 4 (by omega) (by omega) (by omega) (by omega) (by omega), x2 5 (by omega) (by omega) (by omega) (by omega) (by omega), x2 6 (by omega) (by omega) (by omega) (by omega) (by omega), x2 7 (by omega) (by omega) (by omega) (by omega) (by omega)]
      exact hX
    obtain ⟨s3, p3, x3, c3, w3⟩ := wr_all hW hX2 z11
    rw [bd_s p3]
    have xx : ∀ k, (k < 9 ∨ (13 < k ∧ k < 15) ∨ 19 < k) → k ≠ 30 → k ≠ 32 → s3 k = σ k := fun k a b c => (x3 k (by omega) c).trans (x2 k b (by omega) (by omega) (by omega) (by omega))
    have yy : ∀ k, k ≠ 8 → k ≠ 10 → k ≠ 11 → k ≠ 32 → (va_up m1 32 (fun _ => (1 : Int32))) k = m0 k := fun k a b c d => by rw [va_up_ne _ _ d]; exact y1 k a b c
    refine ⟨0, s3, va_up m1 32 (fun _ => 1), rfl, rfl, ⟨g, gr_c ⟨kd, ga, gb, gc, hg, bo, hW, hX, hR⟩ (fun k hk => xx k (by omega) (by omega) (by omega)) (fun k hk => yy k (by omega) (by omega) (by omega) (by omega)), tx_c h2 (fun k hk => xx k (by omega) (by omega) (by omega)) (fun k hk => yy k (by omega) (by omega) (by omega) (by omega)), Or.inr ⟨?_, ?_, ?_⟩, ?_, lt_c h5 (fun k hk => xx k (by omega) (by omega) (by omega)) (fun k hk => yy k (by omega) (by omega) (by omega) (by omega))⟩, ?_⟩
    · rw [x3 30 (by omega) (by omega)]; exact z30
    · rw [va_up_self]
    · refine ⟨g, kd, ga, gb, gc, hg, bo, Nat.le_refl g, hW, hF, c3, w3, fun n hn => ?_, fun r b hr hb => ?_, fun r hr hb => ?_⟩
      · rw [yy 1 (by omega) (by omega) (by omega) (by omega), yy 2 (by omega) (by omega) (by omega) (by omega), yy 3 (by omega) (by omega) (by omega) (by omega), yy 4 (by omega) (by omega) (by omega) (by omega)]
        obtain ⟨a, b, c, d, -⟩ := hR.2.1 n hn
        exact ⟨a, b, c, d⟩
      · rw [yy 6 (by omega) (by omega) (by omega) (by omega)]; exact hR.2.2.1 r b hr hb
      · rw [yy 6 (by omega) (by omega) (by omega) (by omega)]; exact hR.2.2.2 r hr hb
    · rw [yy 35 (by omega) (by omega) (by omega) (by omega)]; exact h4
    · rw [yy 30 (by omega) (by omega) (by omega) (by omega)]; exact t0
  · simp only
    rw [if_neg hF, if_neg hF, st_e, st_e, if_pos (show (va_up s1 30 (fun _ => (0 : Int32))) 30 0 = 0 by rw [va_up_self])]
    have xx : ∀ k, k ≠ 30 → k ≠ 9 → k ≠ 11 → k ≠ 12 → k ≠ 13 → (va_up s1 30 (fun _ => (0 : Int32))) k = σ k := fun k a b c d e => by rw [va_up_ne _ _ a]; exact x1 k b c d e
    have yy : ∀ k, k ≠ 8 → k ≠ 10 → k ≠ 11 → k ≠ 32 → (va_up m1 32 (fun _ => (0 : Int32))) k = m0 k := fun k a b c d => by rw [va_up_ne _ _ d]; exact y1 k a b c
    refine ⟨_, va_up s1 30 (fun _ => 0), va_up m1 32 (fun _ => 0), rfl, rfl, ⟨g, gr_c ⟨kd, ga, gb, gc, hg, bo, hW, hX, hR⟩ (fun k hk => xx k (by omega) (by omega) (by omega) (by omega) (by omega)) (fun k hk => yy k (by omega) (by omega) (by omega) (by omega)), tx_c h2 (fun k hk => xx k (by omega) (by omega) (by omega) (by omega) (by omega)) (fun k hk => yy k (by omega) (by omega) (by omega) (by omega)), Or.inl ⟨?_, ?_⟩, ?_, lt_c h5 (fun k hk => xx k (by omega) (by omega) (by omega) (by omega) (by omega)) (fun k hk => yy k (by omega) (by omega) (by omega) (by omega))⟩, ?_⟩
    · rw [va_up_self]
    · rw [va_up_self]
    · rw [yy 35 (by omega) (by omega) (by omega) (by omega)]; exact h4
    · rw [yy 30 (by omega) (by omega) (by omega) (by omega)]; exact t0
/-! clear -/
theorem vn_clear (h : Vn_ σ μ) : ∃ a σ' μ', f_S_clear σ = some (a, σ') ∧ f_R_clear μ = some (a, μ') ∧ Vn_ σ' μ' ∧ μ' 30 0 = 0 := by
  obtain ⟨g, h1, ⟨len, ht, hr, hq⟩, h3, h4, h5⟩ := vn_30 h (fun _ => 0)
  refine ⟨nI len, va_up σ 33 (fun _ => 0), va_up (va_up μ 30 (fun _ => 0)) 33 (fun _ => 0), ?_, ?_, ⟨g, gr_c h1 (fun k hk => va_up_ne _ _ (by omega)) (fun k hk => va_up_ne _ _ (by omega)), ⟨0, ⟨?_, by omega, fun i hi => by omega⟩, ⟨?_, by omega⟩, fun i hi => by omega⟩, ?_, ?_, lt_c h5 (fun k hk => va_up_ne _ _ (by omega)) (fun k hk => va_up_ne _ _ (by omega))⟩, ?_⟩
  · unfold f_S_clear
    rw [bd_s (show f_T_size σ = some (nI len) by unfold f_T_size; rw [ht.1])]
    rfl
  · unfold f_R_clear
    rw [st_e, st_e, hr.1]
  · rw [va_up_self]; rfl
  · rw [va_up_self]; rfl
  · rw [va_up_ne _ _ (show (30 : Nat) ≠ 33 by omega), va_up_ne _ _ (show (32 : Nat) ≠ 33 by omega)]
    rcases h3 with h3 | ⟨a, b, c⟩
    · exact Or.inl h3
    · exact Or.inr ⟨a, b, sg_c c (fun k hk => va_up_ne _ _ (by omega)) (fun k hk => va_up_ne _ _ (by omega))⟩
  · rw [va_up_ne _ _ (show (35 : Nat) ≠ 33 by omega)]; exact h4
  · rw [va_up_ne _ _ (show (30 : Nat) ≠ 33 by omega), va_up_self]
end INVA
