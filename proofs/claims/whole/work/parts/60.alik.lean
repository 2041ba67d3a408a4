/-! each call that may throw: both systems answer alike, or both refuse alike -/
section ALIK
variable {σ μ : MZ_} {a b c k : Int32}
def Ok_ (fs fr : Option (Int32 × MZ_)) : Prop := ∃ x σ' μ', fs = some (x, σ') ∧ fr = some (x, μ') ∧ Vn_ σ' μ' ∧ μ' 30 0 = 0
def No_ (ft : Option MZ_) (fr : Option (Int32 × MZ_)) (k : Int32) : Prop := ∃ σ' μ' y, ft = some σ' ∧ fr = some (y, μ') ∧ Vn_ σ' μ' ∧ μ' 30 0 = k
theorem no_i {ft : Option MZ_} {fr : Option (Int32 × MZ_)} {k : Int32} (h : Vn_ σ μ) (h1 : ft = some σ) (h2 : fr = some (0, va_up (va_up μ 30 (fun _ => 0)) 30 (fun _ => k))) : No_ ft fr k :=
  ⟨σ, _, 0, h1, h2, vn_30 (vn_30 h _) _, by rw [va_up_self]⟩
theorem nd_30 (f : Nat → Int32) : f_R_isNode (va_up μ 30 f) b = f_R_isNode μ b := by
  unfold f_R_isNode
  rw [va_up_ne _ _ (by omega)]
theorem al_node (h : Vn_ σ μ) : Ok_ (f_S_node σ k a b c) (f_R_node μ k a b c) ∨ No_ (f_S_node_t1 σ k a b c) (f_R_node μ k a b c) 1 ∨ No_ (f_S_node_t2 σ k a b c) (f_R_node μ k a b c) 2 := by
  obtain ⟨ok, h1, h2, h3⟩ := vn_refuse (a := a) (b := b) (c := c) h k
  cases ok with
  | false =>
    obtain ⟨μ', e1, e2, e3⟩ := h2 rfl
    refine Or.inr (Or.inl ⟨σ, μ', 0, ?_, e1, e2, e3⟩)
    unfold f_S_node_t1
    rw [bd_s h1, if_pos (bI_0 rfl)]
  | true =>
    obtain ⟨n, hn, rfl⟩ := h3 rfl
    rcases vn_node h hn h1 with ⟨e80, μ', e1, e2, e3⟩ | ⟨lt, x, σ', μ', e1, e2, e3, e4⟩
    · have hf : f_G_isFull σ = some 1 := by
        unfold f_G_isFull
        rw [e80, if_neg (show ¬ (80 : Int32) < 80 by decide)]
      refine Or.inr (Or.inr ⟨σ, μ', 0, ?_, e1, e2, e3⟩)
      unfold f_S_node_t2
      rw [bd_s h1, if_neg (bI_1 rfl), bd_s hf, if_neg (show ¬ (1 : Int32) = 0 by decide)]
    · have hf : f_G_isFull σ = some 0 := by
        unfold f_G_isFull
        rw [if_pos lt]
      refine Or.inl ⟨x, σ', μ', ?_, e2, e3, e4⟩
      unfold f_S_node
      rw [bd_s h1, if_neg (bI_1 rfl), bd_s hf, if_pos rfl, bd_s e1]
theorem al_rule (h : Vn_ σ μ) : Ok_ (f_S_rule σ a b) (f_R_rule μ a b) ∨ No_ (f_S_rule_t1 σ a b) (f_R_rule μ a b) 1 := by
  cases hq : rn_ a 5 with
  | false =>
    refine Or.inr (no_i h ?_ (no_rule1 hq))
    unfold f_S_rule_t1
    rw [bd_s (rn_rule a), hq, if_pos (bI_0 rfl)]
  | true =>
    obtain ⟨r, hr, rfl⟩ := rn_nat (h := 5) (by omega) hq
    have h' := h
    obtain ⟨g, hG, -⟩ := h'
    obtain ⟨y, h1, h2, h3⟩ := nd_both hG b
    cases y with
    | false =>
      refine Or.inr (no_i h ?_ (no_rule2 hq (by rw [nd_30]; exact h2)))
      unfold f_S_rule_t1
      rw [bd_s (rn_rule _), hq, if_neg (bI_1 rfl), bd_s h1, if_pos (bI_0 rfl)]
    | true =>
      obtain ⟨n, hn, rfl⟩ := h3 rfl
      obtain ⟨x, σ1, μ', e1, e2, e3, e4, e5⟩ := vn_rule h hG (show r < 6 by omega) hn
      refine Or.inl ⟨x, _, μ', ?_, e3, e4, e5⟩
      unfold f_S_rule
      rw [bd_s (rn_rule _), hq, if_neg (bI_1 rfl), bd_s h1, if_neg (bI_1 rfl), bd_s e1, st_e, bd_s e2]
theorem al_leads (h : Vn_ σ μ) : Ok_ (f_S_leads σ a) (f_R_leads μ a) ∨ No_ (f_S_leads_t1 σ a) (f_R_leads μ a) 1 := by
  cases hq : rn_ a 5 with
  | false =>
    refine Or.inr (no_i h ?_ (no_leads hq))
    unfold f_S_leads_t1
    rw [bd_s (rn_rule a), hq, if_pos (bI_0 rfl)]
  | true =>
    obtain ⟨r, hr, rfl⟩ := rn_nat (h := 5) (by omega) hq
    obtain ⟨x, σ', μ', e1, e2, e3, e4⟩ := vn_leads h (show r < 6 by omega)
    refine Or.inl ⟨x, σ', μ', ?_, e2, e3, e4⟩
    unfold f_S_leads
    rw [bd_s (rn_rule _), hq, if_neg (bI_1 rfl), bd_s e1]
theorem bo_out {α : Type} {o : Option α} {v : Int32} {k : α → Option (Int32 × MZ_)} {x : Int32} {s : MZ_} (h : (o.bind fun r => k r) = some (x, s)) : ∃ r, o = some r ∧ k r = some (x, s) := bd_some h
theorem em_bo {x : Int32} {σ' : MZ_} (h : f_Y_isEmpty σ a = some (x, σ')) : x = 0 ∨ x = 1 := by
  unfold f_Y_isEmpty at h
  obtain ⟨u1, -, h⟩ := bd_some h
  obtain ⟨r2, -, h⟩ := bd_some h
  obtain ⟨hb, h⟩ := bo_some h
  cases h
  exact hb
theorem cb_bo {x : Int32} {σ' : MZ_} (h : f_Y_canBegin σ a b = some (x, σ')) : x = 0 ∨ x = 1 := by
  unfold f_Y_canBegin at h
  obtain ⟨u1, -, h⟩ := bd_some h
  obtain ⟨u2, -, h⟩ := bd_some h
  obtain ⟨r2, -, h⟩ := bd_some h
  obtain ⟨hb, h⟩ := bo_some h
  cases h
  exact hb
theorem bo_in {α : Type} {v : Int32} (h : v = 0 ∨ v = 1) (k : Option α) : bo_ v k = k := if_pos h
theorem al_empty (h : Vn_ σ μ) : Ok_ (f_S_empty σ a) (f_R_empty μ a) ∨ No_ (f_S_empty_t1 σ a) (f_R_empty μ a) 1 := by
  have h' := h
  obtain ⟨g, hG, -⟩ := h'
  obtain ⟨y, h1, h2, h3⟩ := nd_both hG a
  cases y with
  | false =>
    refine Or.inr (no_i h ?_ (no_empty (by rw [nd_30]; exact h2)))
    unfold f_S_empty_t1
    rw [bd_s h1, if_pos (bI_0 rfl)]
  | true =>
    obtain ⟨n, hn, rfl⟩ := h3 rfl
    obtain ⟨x, σ', μ', e1, e2, e3, e4⟩ := vn_empty h hG hn
    refine Or.inl ⟨x, σ', μ', ?_, e2, e3, e4⟩
    unfold f_S_empty
    rw [bd_s h1, if_neg (bI_1 rfl), bd_s e1, bo_in (em_bo e1)]
theorem al_begins (h : Vn_ σ μ) : Ok_ (f_S_begins σ a b) (f_R_begins μ a b) ∨ No_ (f_S_begins_t1 σ a b) (f_R_begins μ a b) 1 := by
  have h' := h
  obtain ⟨g, hG, -⟩ := h'
  obtain ⟨y, h1, h2, h3⟩ := nd_both hG a
  cases y with
  | false =>
    refine Or.inr (no_i h ?_ (no_begins1 (by rw [nd_30]; exact h2)))
    unfold f_S_begins_t1
    rw [bd_s h1, if_pos (bI_0 rfl)]
  | true =>
    obtain ⟨n, hn, rfl⟩ := h3 rfl
    cases hq : rn_ b 255 with
    | false =>
      refine Or.inr (no_i h ?_ (no_begins2 (by rw [nd_30]; exact h2) hq))
      unfold f_S_begins_t1
      rw [bd_s h1, if_neg (bI_1 rfl), bd_s (rn_sign b), hq, if_pos (bI_0 rfl)]
    | true =>
      obtain ⟨x, σ', μ', e1, e2, e3, e4⟩ := vn_begins h hG hn (of_decide_eq_true hq)
      refine Or.inl ⟨x, σ', μ', ?_, e2, e3, e4⟩
      unfold f_S_begins
      rw [bd_s h1, if_neg (bI_1 rfl), bd_s (rn_sign b), hq, if_neg (bI_1 rfl), bd_s e1, bo_in (cb_bo e1)]
theorem al_type {t : Nat} (h : Vn_ σ μ) (ht : t < 65536) : Ok_ (f_S_type σ (nI t)) (f_R_type μ (nI t)) ∨ No_ (f_S_type_t1 σ (nI t)) (f_R_type μ (nI t)) 1 ∨ No_ (f_S_type_t2 σ (nI t)) (f_R_type μ (nI t)) 2 := by
  have h' := h
  obtain ⟨g, hG, ⟨len, ⟨t1, t2, t3⟩, ⟨r1, r2⟩, -⟩, -⟩ := h'
  by_cases h255 : t ≤ 255
  · have hle : nI t ≤ (255 : Int32) := nI_le (b := 255) h255 (by decide)
    have hs : rn_ (nI t) 255 = true := decide_eq_true ⟨nI_pos' (by omega), hle⟩
    by_cases hl : len = 40
    · subst hl
      have hf : f_T_isFull σ = some 1 := by
        unfold f_T_isFull
        rw [t1, if_neg (show ¬ nI 40 < (40 : Int32) by decide)]
      refine Or.inr (Or.inr (no_i h ?_ ?_))
      · unfold f_S_type_t2
        rw [bd_s (rn_sign _), hs, if_neg (bI_1 rfl), bd_s hf, if_neg (show ¬ (1 : Int32) = 0 by decide)]
      · unfold f_R_type
        rw [st_e, if_pos hle, if_pos (show (va_up μ 30 (fun _ => (0 : Int32))) 33 0 = 40 by rw [va_up_ne _ _ (by omega), r1]; rfl)]
        rfl
    · have hlt : σ 33 0 < 40 := by rw [t1]; exact nI_lt (b := 40) (by omega) (by decide)
      have hf : f_T_isFull σ = some 0 := by
        unfold f_T_isFull
        rw [if_pos hlt]
      obtain ⟨σ', μ', e1, e2, e3, e4⟩ := vn_type h h255 hlt
      refine Or.inl ⟨_, σ', μ', ?_, e2, e3, e4⟩
      unfold f_S_type
      rw [bd_s (rn_sign _), hs, if_neg (bI_1 rfl), bd_s hf, if_pos rfl, bd_s e1]
      rfl
  · have hle : ¬ nI t ≤ (255 : Int32) := fun e => h255 ((nI_leI (a := t) (b := 255) (by omega) (by decide)).mp e)
    have hs : rn_ (nI t) 255 = false := decide_eq_false (fun e => hle e.2)
    refine Or.inr (Or.inl (no_i h ?_ ?_))
    · unfold f_S_type_t1
      rw [bd_s (rn_sign _), hs, if_pos (bI_0 rfl)]
    · unfold f_R_type
      rw [st_e, if_neg hle]
      rfl
end ALIK
