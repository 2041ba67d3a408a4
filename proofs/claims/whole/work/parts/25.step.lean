/-! one turn of the machine's loop -/
section STEP
def cdf_ (σ : MZ_) (cs : Nat) : Nat → Nat × Int32 × Int32 := fun i => if i < cs then ((σ 15 i).toNatClampNeg, σ 16 i, σ 17 i) else (0, 0, 0)
def enf_ (σ : MZ_) : Nat → Nat := fun r => (σ 19 r).toNatClampNeg
/-- the code as it may stand -/
def CW_ (σ : MZ_) (cs : Nat) : Prop := σ 32 0 = nI cs ∧ cs ≤ 561 ∧ (∀ i, i < cs → ∃ o, o ≤ 14 ∧ σ 15 i = nI o ∧ (o = 4 → ∃ t, t ≤ 561 ∧ σ 16 i = nI t) ∧ (o = 5 → ∃ t, t < 6 ∧ σ 16 i = nI t) ∧ (o = 9 → ∃ m t, 2 ≤ m ∧ m ≤ 5 ∧ t ≤ 561 ∧ σ 16 i = nI m ∧ σ 17 i = nI t) ∧ (o = 12 → ∃ t, t ≤ 561 ∧ σ 16 i = nI t) ∧ (o = 13 → ∃ t, t < 4 ∧ σ 16 i = nI t) ∧ (o = 14 → ∃ t, t < 4 ∧ σ 16 i = nI t)) ∧ ∀ r, r < 6 → ∃ t, t ≤ 561 ∧ σ 19 r = nI t
/-- the text as it may stand -/
def TW_ (σ : MZ_) (len : Nat) : Prop := σ 33 0 = nI len ∧ len ≤ 40 ∧ ∀ i, i < len → ∃ t, t ≤ 255 ∧ σ 21 i = nI t
theorem cw_x {σ σ' : MZ_} {cs : Nat} (h : CW_ σ cs) (hx : Fx_ σ σ') : CW_ σ' cs := by
  unfold CW_
  rw [hx 32 (by omega), hx 15 (by omega), hx 16 (by omega), hx 17 (by omega), hx 19 (by omega)]
  exact h
theorem tw_x {σ σ' : MZ_} {len : Nat} (h : TW_ σ len) (hx : Fx_ σ σ') : TW_ σ' len := by
  unfold TW_
  rw [hx 33 (by omega), hx 21 (by omega)]
  exact h
theorem cdf_x {σ σ' : MZ_} {cs : Nat} (hx : Fx_ σ σ') : cdf_ σ' cs = cdf_ σ cs := by
  unfold cdf_
  rw [hx 15 (by omega), hx 16 (by omega), hx 17 (by omega)]
theorem enf_x {σ σ' : MZ_} (hx : Fx_ σ σ') : enf_ σ' = enf_ σ := by
  unfold enf_
  rw [hx 19 (by omega)]
theorem co_at {σ : MZ_} {cs i : Nat} (h : CW_ σ cs) (hi : i ≤ 562) : f_C_operation σ (nI i) = some (nI (cdf_ σ cs i).1) ∧ f_C_p σ (nI i) = some (cdf_ σ cs i).2.1 ∧ f_C_q σ (nI i) = some (cdf_ σ cs i).2.2 := by
  obtain ⟨h32, hcs, hop, -⟩ := h
  have hneg : ¬ nI i < 0 := nI_pos (by omega)
  have hge : σ 32 0 ≤ nI i ↔ cs ≤ i := li_le i h32 (by omega) (by omega)
  by_cases q : i < cs
  · have hn : ¬ σ 32 0 ≤ nI i := by rw [hge]; omega
    have hin : vp_in (nI i) 561 := vp_in_nI (by omega) (by omega)
    have hcl : (nI i).toNatClampNeg = i := nI_clamp (by omega)
    obtain ⟨o, ho, e, -⟩ := hop i q
    have hc : cdf_ σ cs i = ((σ 15 i).toNatClampNeg, σ 16 i, σ 17 i) := if_pos q
    rw [hc]
    refine ⟨?_, ?_, ?_⟩
    · unfold f_C_operation; rw [if_neg hneg, if_neg hn, gd_in hin, hcl, e, nI_clamp (by omega)]
    · unfold f_C_p; rw [if_neg hneg, if_neg hn, gd_in hin, hcl]
    · unfold f_C_q; rw [if_neg hneg, if_neg hn, gd_in hin, hcl]
  · have hn : σ 32 0 ≤ nI i := by rw [hge]; omega
    have hc : cdf_ σ cs i = (0, 0, 0) := if_neg q
    rw [hc]
    refine ⟨?_, ?_, ?_⟩
    · unfold f_C_operation; rw [if_neg hneg, if_pos hn]; rfl
    · unfold f_C_p; rw [if_neg hneg, if_pos hn]
    · unfold f_C_q; rw [if_neg hneg, if_pos hn]
theorem tx_at {σ : MZ_} {len i : Nat} (h : TW_ σ len) (hi : i ≤ 40) : f_T_signAt σ (nI i) = some (if i < len then σ 21 i else -1) := by
  obtain ⟨h33, hl, -⟩ := h
  have hneg : ¬ nI i < 0 := nI_pos (by omega)
  have hge : σ 33 0 ≤ nI i ↔ len ≤ i := li_le i h33 (by omega) (by omega)
  unfold f_T_signAt
  rw [if_neg hneg]
  by_cases q : i < len
  · have hn : ¬ σ 33 0 ≤ nI i := by rw [hge]; omega
    rw [if_neg hn, gd_in (vp_in_nI (by omega) (by omega)), nI_clamp (by omega), if_pos q]
  · have hn : σ 33 0 ≤ nI i := by rw [hge]; omega
    rw [if_pos hn, if_neg q]
theorem rm_take {σ : MZ_} {F : List Fr_} {As : List Int32} {nx d len : Nat} {ps : PS_} (h : RM_ σ (F, As, nx, d, 0, ps)) (hT : TW_ σ len) (hA : As.length < 642) (p q : Int32) :
    ∃ σ', f_M_take σ p q = some σ' ∧ RM_ σ' (if 1500 ≤ ps.2.1 then (F, As, nx, d, 3, ps) else if ps.1 < len ∧ p ≤ σ 21 ps.1 ∧ σ 21 ps.1 ≤ q then (F, σ 21 ps.1 :: As, nx, d, 0, (ps.1 + 1, ps.2.1 + 1, ps.2.2)) else unw_ F As ps.1 d nx (ps.1, ps.2.1 + 1, mx_ ps.2.2.1 ps.1, ps.2.2.2)) ∧ Fx_ σ σ' := by
  obtain ⟨a, b, c, e⟩ := rm_4 h
  obtain ⟨c1, c2, c3, c4, c5, c6, c7⟩ := c
  unfold f_M_take
  by_cases q0 : 1500 ≤ ps.2.1
  · have hn : ¬ σ 38 0 < 1500 := fun hh => by have := (li_lt 1500 c5.1 (by omega) (by omega)).mp hh; omega
    rw [if_neg hn, if_pos q0]
    obtain ⟨r1, z1⟩ := rm_state h 3 (by omega) (x := 3) rfl
    exact ⟨_, rfl, r1, z1⟩
  · have hlt : σ 38 0 < 1500 := (li_lt 1500 c5.1 (by omega) (by omega)).mpr (by omega)
    rw [if_pos hlt, if_neg q0]
    obtain ⟨r1, z1⟩ := rm_looks h (ps.2.1 + 1) (by omega) (x := σ 38 0 + 1) (li_p1 c5.1)
    have hT1 := tw_x hT z1
    show ∃ σ', ((f_T_signAt (va_up σ 38 (fun _ => σ 38 0 + 1)) ((va_up σ 38 (fun _ => σ 38 0 + 1)) 37 0)).bind _) = some σ' ∧ _ ∧ _
    have h37 : (va_up σ 38 (fun _ => σ 38 0 + 1)) 37 0 = nI ps.1 := c4.1
    have h39 : (va_up σ 38 (fun _ => σ 38 0 + 1)) 39 0 = ps.2.2.1 := c6
    rw [h37, bd_s (tx_at hT1 (by omega)), h39]
    have e21 : (va_up σ 38 (fun _ => σ 38 0 + 1)) 21 = σ 21 := rfl
    rw [e21]
    -- a failed look
    have hfail : ∃ σ', (st_ (va_up (va_up σ 38 (fun _ => σ 38 0 + 1)) 39 (fun _ => (if ps.2.2.1 < nI ps.1 then nI ps.1 else ps.2.2.1))) fun σ2 => (f_M_failAt σ2 (σ2 37 0)).bind fun u2 => some u2) = some σ' ∧ RM_ σ' (unw_ F As ps.1 d nx (ps.1, ps.2.1 + 1, mx_ ps.2.2.1 ps.1, ps.2.2.2)) ∧ Fx_ σ σ' := by
      obtain ⟨r2, z2⟩ := rm_far r1 (mx_ ps.2.2.1 ps.1)
      obtain ⟨σ3, p3, r3, z3⟩ := rm_failAt r2 (a := ps.1) (by omega) (x := (va_up (va_up σ 38 (fun _ => σ 38 0 + 1)) 39 (fun _ => mx_ ps.2.2.1 ps.1)) 37 0) h37
      refine ⟨σ3, ?_, r3, fx_t z1 (fx_t z2 z3)⟩
      show ((f_M_failAt (va_up (va_up σ 38 (fun _ => σ 38 0 + 1)) 39 (fun _ => mx_ ps.2.2.1 ps.1)) ((va_up (va_up σ 38 (fun _ => σ 38 0 + 1)) 39 (fun _ => mx_ ps.2.2.1 ps.1)) 37 0)).bind _) = _
      rw [bd_s p3]
    by_cases q1 : ps.1 < len
    · rw [if_pos q1]
      obtain ⟨t, ht, e2⟩ := hT.2.2 ps.1 q1
      have hne : ¬ σ 21 ps.1 = -1 := by
        rw [e2]
        intro hh
        have := congrArg Int32.toInt hh
        rw [nI_toInt (by omega)] at this
        have h2 : (-1 : Int32).toInt = -1 := by decide
        omega
      rw [if_neg hne]
      by_cases q2 : σ 21 ps.1 < p
      · rw [if_pos q2, if_neg (show ¬ (ps.1 < len ∧ p ≤ σ 21 ps.1 ∧ σ 21 ps.1 ≤ q) from fun hh => Int32.not_le.mpr q2 hh.2.1)]
        exact hfail
      · rw [if_neg q2]
        by_cases q3 : q < σ 21 ps.1
        · rw [if_pos q3, if_neg (show ¬ (ps.1 < len ∧ p ≤ σ 21 ps.1 ∧ σ 21 ps.1 ≤ q) from fun hh => Int32.not_le.mpr q3 hh.2.2)]
          exact hfail
        · rw [if_neg q3, if_pos (show (ps.1 < len ∧ p ≤ σ 21 ps.1 ∧ σ 21 ps.1 ≤ q) from ⟨q1, Int32.not_lt.mp q2, Int32.not_lt.mp q3⟩)]
          obtain ⟨σ2, p2, r2, z2⟩ := rm_give r1 hA (σ 21 ps.1)
          have h37b : σ2 37 0 = nI ps.1 := (rm_4 r2).2.2.1.2.2.2.1.1
          obtain ⟨r3, z3⟩ := rm_place r2 (ps.1 + 1) (by have := hT.2.1; omega) (x := σ2 37 0 + 1) (li_p1 h37b)
          refine ⟨_, ?_, r3, fx_t z1 (fx_t z2 z3)⟩
          rw [bd_s p2]
          rfl
    · rw [if_neg q1, if_pos rfl, if_neg (show ¬ (ps.1 < len ∧ p ≤ σ 21 ps.1 ∧ σ 21 ps.1 ≤ q) from fun hh => q1 hh.1)]
      exact hfail
theorem jn_f (a v w : Int32) : f_S_joined a v w = some (jn_ a v w) := by
  unfold f_S_joined jn_
  repeat' split
  all_goals first | rfl | simp_all
theorem wy_f (a : Int32) : f_S_wayOfSign a = some (wy_ a) := by
  unfold f_S_wayOfSign wy_
  by_cases h1 : a = 42
  · subst h1; rfl
  · by_cases h2 : a = 43
    · subst h2; rfl
    · by_cases h3 : a = 45
      · subst h3; rfl
      · rw [if_neg h1, if_neg h2, if_neg h3, if_neg h2, if_neg h3, if_neg h1]
        split <;> rfl
theorem is_reg {i : Nat} (h : i < 4) : f_S_isRegister (nI i) = some 1 := by
  unfold f_S_isRegister
  rw [if_neg (nI_pos (by omega)), if_neg (show ¬ (4 : Int32) ≤ nI i from fun hh => by have := (li_ge 4 rfl (by omega) (by omega)).mp hh; omega)]
/-- one turn -/
theorem rm_step {σ : MZ_} {F : List Fr_} {As : List Int32} {nx d cs len : Nat} {ps : PS_} (h : RM_ σ (F, As, nx, d, 0, ps)) (hC : CW_ σ cs) (hT : TW_ σ len) (hF : F.length < 640) (hA : As.length < 641) (hx : nx ≤ 561) :
    ∃ σ', (st_ (va_up σ 36 (fun _ => (σ 36 0) + 1)) fun σ3 => (f_C_operation σ3 (σ 36 0)).bind fun r3 => (f_C_p σ3 (σ 36 0)).bind fun r4 => (f_C_q σ3 (σ 36 0)).bind fun r5 => f_M_obey σ3 r3 r4 r5) = some σ' ∧ RM_ σ' (ms_ (cdf_ σ cs) (enf_ σ) (σ 21) len (F, As, nx, d, 0, ps)) ∧ Fx_ σ σ' := by
  have h36 := (rm_4 h).2.2.1.1.1
  obtain ⟨h1, z1⟩ := rm_next h (nx + 1) (by omega) (x := σ 36 0 + 1) (li_p1 h36)
  have hC1 := cw_x hC z1
  have hT1 := tw_x hT z1
  obtain ⟨o1, o2, o3⟩ := co_at (i := nx) hC1 (by omega)
  rw [cdf_x z1] at o1 o2 o3
  show ∃ σ', ((f_C_operation (va_up σ 36 (fun _ => (σ 36 0) + 1)) (σ 36 0)).bind fun r3 => (f_C_p (va_up σ 36 (fun _ => (σ 36 0) + 1)) (σ 36 0)).bind fun r4 => (f_C_q (va_up σ 36 (fun _ => (σ 36 0) + 1)) (σ 36 0)).bind fun r5 => f_M_obey (va_up σ 36 (fun _ => (σ 36 0) + 1)) r3 r4 r5) = some σ' ∧ _ ∧ _
  rw [h36] at h1 z1 hC1 hT1 o1 o2 o3 ⊢
  generalize hs1 : va_up σ 36 (fun _ => nI nx + 1) = s1 at *
  rw [bd_s o1, bd_s o2, bd_s o3]
  -- what stands at nx
  have hop : ∃ o p q, cdf_ σ cs nx = (o, p, q) ∧ o ≤ 14 ∧ (o = 4 → ∃ t, t ≤ 561 ∧ p = nI t) ∧ (o = 5 → ∃ t, t < 6 ∧ p = nI t) ∧ (o = 9 → ∃ m t, 2 ≤ m ∧ m ≤ 5 ∧ t ≤ 561 ∧ p = nI m ∧ q = nI t) ∧ (o = 12 → ∃ t, t ≤ 561 ∧ p = nI t) ∧ (o = 13 → ∃ t, t < 4 ∧ p = nI t) ∧ (o = 14 → ∃ t, t < 4 ∧ p = nI t) := by
    by_cases q : nx < cs
    · obtain ⟨o, ho, e, w⟩ := hC.2.2.1 nx q
      refine ⟨o, σ 16 nx, σ 17 nx, ?_, ho, w⟩
      unfold cdf_
      rw [if_pos q, e, nI_clamp (by omega)]
    · exact ⟨0, 0, 0, if_neg q, by omega, by omega, by omega, by omega, by omega, by omega, by omega⟩
  obtain ⟨o, p, q, ec, ho, w4, w5, w9, w12, w13, w14⟩ := hop
  rw [ec]
  have hno : ∀ k : Nat, k < 2 ^ 31 → o ≠ k → ¬ nI o = nI k := fun k hk hne hh => hne ((nI_eq (by omega) hk).mp hh)
  show ∃ σ', f_M_obey s1 (nI o) p q = some σ' ∧ _ ∧ _
  unfold f_M_obey
  by_cases e1 : o = 1
  · subst e1
    rw [if_pos (show nI 1 = (1 : Int32) from rfl), ms_give ec]
    obtain ⟨σ2, p2, r2, z2⟩ := rm_give h1 (by omega) p
    exact ⟨σ2, by rw [bd_s p2], r2, fx_t z1 z2⟩
  rw [if_neg (show ¬ nI o = (1 : Int32) from hno 1 (by omega) e1)]
  by_cases e2 : o = 2
  · subst e2
    rw [if_pos (show nI 2 = (2 : Int32) from rfl)]
    obtain ⟨σ2, p2, r2, z2⟩ := rm_take h1 hT1 (by omega) p q
    have e21 : s1 21 = σ 21 := z1 21 (by omega)
    rw [e21] at r2
    refine ⟨σ2, by rw [bd_s p2], ?_, fx_t z1 z2⟩
    by_cases k : 1500 ≤ ps.2.1
    · rw [ms_take0 ec k]; rw [if_pos k] at r2; exact r2
    · rw [if_neg k] at r2
      by_cases k2 : lk_ (σ 21) len ps.1 p q
      · have k3 : ps.1 < len ∧ p ≤ σ 21 ps.1 ∧ σ 21 ps.1 ≤ q := k2
        rw [ms_take1 ec k k2]; rw [if_pos k3] at r2; exact r2
      · have k3 : ¬ (ps.1 < len ∧ p ≤ σ 21 ps.1 ∧ σ 21 ps.1 ≤ q) := k2
        rw [ms_take2 ec k k2]; rw [if_neg k3] at r2; exact r2
  rw [if_neg (show ¬ nI o = (2 : Int32) from hno 2 (by omega) e2)]
  by_cases e3 : o = 3
  · subst e3
    rw [if_pos (show nI 3 = (3 : Int32) from rfl), ms_refuse ec]
    have h37 := (rm_4 h1).2.2.1.2.2.2.1
    obtain ⟨σ2, p2, r2, z2⟩ := rm_failAt h1 h37.2 (x := s1 37 0) h37.1
    exact ⟨σ2, by rw [bd_s p2], r2, fx_t z1 z2⟩
  rw [if_neg (show ¬ nI o = (3 : Int32) from hno 3 (by omega) e3)]
  by_cases e4 : o = 4
  · subst e4
    obtain ⟨t, ht, rfl⟩ := w4 rfl
    rw [if_pos (show nI 4 = (4 : Int32) from rfl), ms_call ec, nI_clamp (by omega)]
    have hcb := (rm_4 h1).2.2.2
    obtain ⟨σ2, p2, r2, z2⟩ := rm_push h1 hF (m := 0) (t := nx + 1) (by omega) (by
      have hn : nx < cs := by
        apply Classical.byContradiction
        intro k
        unfold cdf_ at ec
        rw [if_neg k] at ec
        cases ec
      have := hC.2.1
      omega) (by simp only [cb_]; simpa using hcb) (x := 0) (y := s1 36 0) rfl (rm_4 h1).2.2.1.1.1
    obtain ⟨r3, z3⟩ := rm_next r2 t (by omega) (x := nI t) rfl
    refine ⟨_, ?_, r3, fx_t z1 (fx_t z2 z3)⟩
    rw [bd_s p2]
    rfl
  rw [if_neg (show ¬ nI o = (4 : Int32) from hno 4 (by omega) e4)]
  by_cases e5 : o = 5
  · subst e5
    obtain ⟨t, ht, rfl⟩ := w5 rfl
    rw [if_pos (show nI 5 = (5 : Int32) from rfl)]
    obtain ⟨-, ⟨h41, hd40⟩, -, -, -, -, ⟨h40, hb3⟩, -⟩ := (rm_4 h1).2.2.1
    unfold f_M_callBody
    by_cases k1 : 40 ≤ d
    · rw [if_pos (show (40 : Int32) ≤ s1 41 0 from (li_ge 40 h41 (by omega) (by omega)).mpr k1), ms_body0 ec (Or.inl k1)]
      obtain ⟨r3, z3⟩ := rm_state h1 3 (by omega) (x := 3) rfl
      exact ⟨_, rfl, r3, fx_t z1 z3⟩
    rw [if_neg (show ¬ (40 : Int32) ≤ s1 41 0 from fun hh => k1 ((li_ge 40 h41 (by omega) (by omega)).mp hh))]
    by_cases k2 : 300 ≤ ps.2.2.2.1
    · rw [if_neg (show ¬ s1 40 0 < 300 from fun hh => by have := (li_lt 300 h40 (by omega) (by omega)).mp hh; omega), ms_body0 ec (Or.inr k2)]
      obtain ⟨r3, z3⟩ := rm_state h1 3 (by omega) (x := 3) rfl
      exact ⟨_, rfl, r3, fx_t z1 z3⟩
    rw [if_pos (show s1 40 0 < 300 from (li_lt 300 h40 (by omega) (by omega)).mpr (by omega)), ms_body1 ec (by omega), nI_clamp (by omega)]
    have hcb := (rm_4 h1).2.2.2
    obtain ⟨r2, z2⟩ := rm_depth h1 (d + 1) (by omega) (by omega) (x := s1 41 0 + 1) (li_p1 h41)
    obtain ⟨r3, z3⟩ := rm_bodies r2 (ps.2.2.2.1 + 1) (by omega) (x := (va_up s1 41 (fun _ => s1 41 0 + 1)) 40 0 + 1) (li_p1 h40)
    obtain ⟨σ4, p4, r4, z4⟩ := rm_push r3 hF (m := 1) (t := nx + 1) (by omega) (by
      have hn : nx < cs := by
        apply Classical.byContradiction
        intro k
        unfold cdf_ at ec
        rw [if_neg k] at ec
        cases ec
      have := hC.2.1
      omega) (by simp only [cb_, if_true]; omega) (x := 1) rfl (rm_4 r3).2.2.1.1.1
    obtain ⟨t2, ht2, e19⟩ := hC.2.2.2 t ht
    have zz := fx_t z1 (fx_t z2 (fx_t z3 z4))
    have hent : f_C_entry σ4 (nI t) = some (nI t2) := by
      unfold f_C_entry
      rw [if_neg (nI_pos (by omega)), if_neg (show ¬ (6 : Int32) ≤ nI t from fun hh => by have := (li_ge 6 rfl (by omega) (by omega)).mp hh; omega), gd_in (vp_in_nI ht (by omega)), nI_clamp (by omega), zz 19 (by omega), e19]
    obtain ⟨r5, z5⟩ := rm_next r4 t2 (by omega) (x := nI t2) rfl
    have hen : enf_ σ t = t2 := by unfold enf_; rw [e19, nI_clamp (by omega)]
    rw [hen]
    refine ⟨_, ?_, r5, fx_t zz z5⟩
    show ((f_M_pushFrame _ 1 _).bind _).bind _ = _
    rw [bd_s p4, bd_s hent]
    rfl
  rw [if_neg (show ¬ nI o = (5 : Int32) from hno 5 (by omega) e5)]
  by_cases e6 : o = 6
  · subst e6
    rw [if_pos (show nI 6 = (6 : Int32) from rfl)]
    cases F with
    | nil =>
      obtain ⟨hm, ht, -, hp, -⟩ := rf_nil (rm_4 h1).1
      have e9 : ms_ (cdf_ σ cs) (enf_ σ) (σ 21) len ([], As, nx, d, 0, ps) = ([], As, 0, d, 0, ps) := by simp [ms_, ec]
      rw [e9]
      obtain ⟨r2, z2⟩ := rm_next h1 0 (by omega) (x := 0) rfl
      obtain ⟨hm2, -, -, hp2, -⟩ := rf_nil (rm_4 r2).1
      refine ⟨_, ?_, r2, fx_t z1 z2⟩
      unfold f_M_goBack
      rw [bd_s ht]
      show ((f_M_dropFrame _).bind _).bind _ = _
      unfold f_M_dropFrame
      rw [bd_s hm2, if_neg (show ¬ (0 : Int32) = 1 by decide), bd_s hp2]
      rfl
    | cons fr F =>
      obtain ⟨-, ht, -, -⟩ := rf_manner (rm_4 h1).1
      obtain ⟨-, k2, -, -⟩ := (rm_4 h1).1.1.2.1
      rw [ms_ret ec]
      obtain ⟨r2, z2⟩ := rm_next h1 fr.2.1 (by omega) (x := nI fr.2.1) rfl
      obtain ⟨σ3, p3, r3, z3⟩ := rm_drop r2
      refine ⟨σ3, ?_, r3, fx_t z1 (fx_t z2 z3)⟩
      unfold f_M_goBack
      rw [bd_s ht]
      show ((f_M_dropFrame _).bind _).bind _ = _
      rw [bd_s p3]
      rfl
  rw [if_neg (show ¬ nI o = (6 : Int32) from hno 6 (by omega) e6)]
  by_cases e7 : o = 7
  · subst e7
    rw [if_pos (show nI 7 = (7 : Int32) from rfl)]
    obtain ⟨σ2, p2, r2, z2⟩ := rm_with h1
    obtain ⟨σ3, p3, r3, z3⟩ := rm_with r2
    obtain ⟨σ4, p4, r4, z4⟩ := rm_give r3 (by simp only [List.length_tail]; omega) (jn_ p (As.tail.headD 0) (As.headD 0))
    have e9 : ms_ (cdf_ σ cs) (enf_ σ) (σ 21) len (F, As, nx, d, 0, ps) = (F, jn_ p (As.tail.headD 0) (As.headD 0) :: As.tail.tail, nx + 1, d, 0, ps) := by simp [ms_, ec]
    rw [e9]
    refine ⟨σ4, ?_, r4, fx_t z1 (fx_t z2 (fx_t z3 z4))⟩
    unfold f_M_joinLastTwo
    rw [bd_s p2, bd_s p3, bd_s (jn_f _ _ _)]
    show (f_M_give σ3 (jn_ p (As.tail.headD 0) (As.headD 0))).bind _ = _
    rw [bd_s p4]
  rw [if_neg (show ¬ nI o = (7 : Int32) from hno 7 (by omega) e7)]
  by_cases e8 : o = 8
  · subst e8
    rw [if_pos (show nI 8 = (8 : Int32) from rfl)]
    obtain ⟨σ2, p2, r2, z2⟩ := rm_with h1
    obtain ⟨σ3, p3, r3, z3⟩ := rm_with r2
    obtain ⟨σ4, p4, r4, z4⟩ := rm_with r3
    obtain ⟨σ5, p5, r5, z5⟩ := rm_give r4 (by simp only [List.length_tail]; omega) (jn_ (wy_ (As.tail.headD 0)) (As.tail.tail.headD 0) (As.headD 0))
    have e9 : ms_ (cdf_ σ cs) (enf_ σ) (σ 21) len (F, As, nx, d, 0, ps) = (F, jn_ (wy_ (As.tail.headD 0)) (As.tail.tail.headD 0) (As.headD 0) :: As.tail.tail.tail, nx + 1, d, 0, ps) := by simp [ms_, ec]
    rw [e9]
    refine ⟨σ5, ?_, r5, fx_t z1 (fx_t z2 (fx_t z3 (fx_t z4 z5)))⟩
    unfold f_M_linkLastThree
    rw [bd_s p2, bd_s p3, bd_s p4, bd_s (wy_f _), bd_s (jn_f _ _ _)]
    show (f_M_give σ4 (jn_ (wy_ (As.tail.headD 0)) (As.tail.tail.headD 0) (As.headD 0))).bind _ = _
    rw [bd_s p5]
  rw [if_neg (show ¬ nI o = (8 : Int32) from hno 8 (by omega) e8)]
  by_cases e9 : o = 9
  · subst e9
    obtain ⟨m, t, hm1, hm2, ht, rfl, rfl⟩ := w9 rfl
    rw [if_pos (show nI 9 = (9 : Int32) from rfl), ms_guard ec, nI_clamp (by omega), nI_clamp (by omega)]
    have hcb := (rm_4 h1).2.2.2
    obtain ⟨σ2, p2, r2, z2⟩ := rm_push h1 hF (m := m) (t := t) hm2 ht (by simp only [cb_]; rw [if_neg (by omega)]; omega) (x := nI m) (y := nI t) rfl rfl
    exact ⟨σ2, by rw [bd_s p2], r2, fx_t z1 z2⟩
  rw [if_neg (show ¬ nI o = (9 : Int32) from hno 9 (by omega) e9)]
  by_cases e10 : o = 10
  · subst e10
    rw [if_pos (show nI 10 = (10 : Int32) from rfl)]
    cases F with
    | nil =>
      obtain ⟨-, -, -, hp, -⟩ := rf_nil (rm_4 h1).1
      have e9 : ms_ (cdf_ σ cs) (enf_ σ) (σ 21) len ([], As, nx, d, 0, ps) = ([], As, nx + 1, d, 0, ps) := by simp [ms_, ec]
      rw [e9]
      exact ⟨s1, by rw [bd_s hp], h1, z1⟩
    | cons fr F =>
      rw [ms_unguard ec]
      obtain ⟨σ2, p2, r2, z2⟩ := rm_pop h1
      exact ⟨σ2, by rw [bd_s p2], r2, fx_t z1 z2⟩
  rw [if_neg (show ¬ nI o = (10 : Int32) from hno 10 (by omega) e10)]
  by_cases e11 : o = 11
  · subst e11
    rw [if_pos (show nI 11 = (11 : Int32) from rfl)]
    cases F with
    | nil =>
      obtain ⟨-, -, hq, -, -⟩ := rf_nil (rm_4 h1).1
      have e9 : ms_ (cdf_ σ cs) (enf_ σ) (σ 21) len ([], As, nx, d, 0, ps) = ([], As, nx + 1, d, 0, (0, ps.2)) := by simp [ms_, ec]
      rw [e9]
      obtain ⟨r2, z2⟩ := rm_place h1 0 (by omega) (x := 0) rfl
      obtain ⟨-, -, -, hp2, -⟩ := rf_nil (rm_4 r2).1
      refine ⟨_, ?_, r2, fx_t z1 z2⟩
      rw [bd_s hq]
      show (f_F_pop _).bind _ = _
      rw [bd_s hp2]
    | cons fr F =>
      rw [ms_rewind ec]
      obtain ⟨-, -, hp, -⟩ := rf_manner (rm_4 h1).1
      obtain ⟨-, -, k3, -⟩ := (rm_4 h1).1.1.2.1
      obtain ⟨r2, z2⟩ := rm_place h1 fr.2.2.1 k3 (x := nI fr.2.2.1) rfl
      obtain ⟨σ3, p3, r3, z3⟩ := rm_pop r2
      refine ⟨σ3, ?_, r3, fx_t z1 (fx_t z2 z3)⟩
      rw [bd_s hp]
      show (f_F_pop _).bind _ = _
      rw [bd_s p3]
  rw [if_neg (show ¬ nI o = (11 : Int32) from hno 11 (by omega) e11)]
  by_cases e12 : o = 12
  · subst e12
    obtain ⟨t, ht, rfl⟩ := w12 rfl
    rw [if_pos (show nI 12 = (12 : Int32) from rfl)]
    cases F with
    | nil =>
      obtain ⟨-, -, -, -, hv⟩ := rf_nil (rm_4 h1).1
      have e9 : ms_ (cdf_ σ cs) (enf_ σ) (σ 21) len ([], As, nx, d, 0, ps) = ([], As, t, d, 0, ps) := by simp [ms_, ec, nI_clamp (show t < 2 ^ 31 by omega)]
      rw [e9]
      obtain ⟨r3, z3⟩ := rm_next h1 t (by omega) (x := nI t) rfl
      refine ⟨_, ?_, r3, fx_t z1 z3⟩
      rw [bd_s (hv _)]
      rfl
    | cons fr F =>
      rw [ms_again ec, nI_clamp (by omega)]
      obtain ⟨σ2, p2, r2, z2⟩ := rm_move h1
      obtain ⟨r3, z3⟩ := rm_next r2 t (by omega) (x := nI t) rfl
      refine ⟨_, ?_, r3, fx_t z1 (fx_t z2 z3)⟩
      rw [bd_s p2]
      rfl
  rw [if_neg (show ¬ nI o = (12 : Int32) from hno 12 (by omega) e12)]
  by_cases e13 : o = 13
  · subst e13
    obtain ⟨t, ht, rfl⟩ := w13 rfl
    rw [if_pos (show nI 13 = (13 : Int32) from rfl)]
    have e9 : ms_ (cdf_ σ cs) (enf_ σ) (σ 21) len (F, As, nx, d, 0, ps) = (F, As, nx + 1, d, 0, (ps.1, ps.2.1, ps.2.2.1, ps.2.2.2.1, va_up ps.2.2.2.2 t (As.headD 0))) := by simp [ms_, ec, nI_clamp (show t < 2 ^ 31 by omega)]
    rw [e9]
    have hans := ra_ans (rm_4 h1).2.1
    obtain ⟨r2, z2⟩ := rm_reg h1 t (As.headD 0)
    refine ⟨_, ?_, r2, fx_t z1 z2⟩
    unfold f_M_store
    rw [bd_s hans, bd_s (is_reg ht), if_neg (show ¬ (1 : Int32) = 0 by decide), gd_in (vp_in_nI ht (by omega)), nI_clamp (by omega)]
    rfl
  rw [if_neg (show ¬ nI o = (13 : Int32) from hno 13 (by omega) e13)]
  by_cases e14 : o = 14
  · subst e14
    obtain ⟨t, ht, rfl⟩ := w14 rfl
    rw [if_pos (show nI 14 = (14 : Int32) from rfl), ms_fetch ec, nI_clamp (by omega)]
    have hreg := (rm_4 h1).2.2.1.2.2.2.2.2.2.2 t ht
    obtain ⟨σ2, p2, r2, z2⟩ := rm_give h1 (by omega) (ps.2.2.2.2 t)
    refine ⟨σ2, ?_, r2, fx_t z1 z2⟩
    unfold f_M_kept
    rw [bd_s (is_reg ht), if_neg (show ¬ (1 : Int32) = 0 by decide), gd_in (vp_in_nI ht (by omega)), nI_clamp (by omega), hreg]
    show (f_M_give s1 (ps.2.2.2.2 t)).bind _ = _
    rw [bd_s p2]
  rw [if_neg (show ¬ nI o = (14 : Int32) from hno 14 (by omega) e14)]
  have e0 : o = 0 := by omega
  subst e0
  rw [ms_end ec]
  obtain ⟨r2, z2⟩ := rm_state h1 1 (by omega) (x := 1) rfl
  exact ⟨_, rfl, r2, fx_t z1 z2⟩
/-- the next place stays within the code -/
def NX_ (c : MC_) : Prop := (c.2.2.2.2.1 = 0 → c.2.2.1 ≤ 561) ∧ ∀ fr ∈ c.1, fr.2.1 ≤ 561
theorem nx_unw : ∀ {F : List Fr_} {As : List Int32} {a d nx : Nat} {ps : PS_}, (∀ fr ∈ F, fr.2.1 ≤ 561) → NX_ (unw_ F As a d nx ps) := by
  intro F
  induction F with
  | nil => intro As a d nx ps _; exact ⟨fun h => (by cases h), fun fr h => by cases h⟩
  | cons fr F ih =>
    intro As a d nx ps h
    unfold unw_
    split
    · exact ⟨fun _ => h fr List.mem_cons_self, fun f hf => h f (List.mem_cons_of_mem _ hf)⟩
    · exact ih (fun f hf => h f (List.mem_cons_of_mem _ hf))
theorem nx_ms {cd : Nat → Nat × Int32 × Int32} {en : Nat → Nat} {tx : Nat → Int32} {len : Nat} (g0 : ∀ i, (cd i).1 ≠ 0 → i + 1 ≤ 561) (g4 : ∀ i, (cd i).1 = 4 ∨ (cd i).1 = 12 → (cd i).2.1.toNatClampNeg ≤ 561) (g9 : ∀ i, (cd i).1 = 9 → (cd i).2.2.toNatClampNeg ≤ 561) (g5 : ∀ i, (cd i).1 = 5 → en (cd i).2.1.toNatClampNeg ≤ 561)
    {F : List Fr_} {As : List Int32} {nx d : Nat} {ps : PS_} (hF : ∀ fr ∈ F, fr.2.1 ≤ 561) : NX_ (ms_ cd en tx len (F, As, nx, d, 0, ps)) := by
  have ht : ∀ fr ∈ F.tail, fr.2.1 ≤ 561 := fun fr h => hF fr (List.mem_of_mem_tail h)
  have hh : (F.headD (0, 0, 0, 0)).2.1 ≤ 561 := by
    cases F with
    | nil => simp
    | cons fr F => exact hF fr List.mem_cons_self
  have k0 := g0 nx
  unfold ms_
  simp only
  by_cases o1 : (cd nx).1 = 1
  · rw [if_pos o1]; exact ⟨fun _ => k0 (by omega), hF⟩
  rw [if_neg o1]
  by_cases o2 : (cd nx).1 = 2
  · rw [if_pos o2]
    split
    · exact ⟨fun h => (by cases h), hF⟩
    · split
      · exact ⟨fun _ => k0 (by omega), hF⟩
      · exact nx_unw hF
  rw [if_neg o2]
  by_cases o3 : (cd nx).1 = 3
  · rw [if_pos o3]; exact nx_unw hF
  rw [if_neg o3]
  by_cases o4 : (cd nx).1 = 4
  · rw [if_pos o4]
    refine ⟨fun _ => g4 nx (Or.inl o4), fun fr h => ?_⟩
    rcases List.mem_cons.mp h with rfl | h
    · exact k0 (by omega)
    · exact hF fr h
  rw [if_neg o4]
  by_cases o5 : (cd nx).1 = 5
  · rw [if_pos o5]
    split
    · exact ⟨fun h => (by cases h), hF⟩
    · refine ⟨fun _ => g5 nx o5, fun fr h => ?_⟩
      rcases List.mem_cons.mp h with rfl | h
      · exact k0 (by omega)
      · exact hF fr h
  rw [if_neg o5]
  by_cases o6 : (cd nx).1 = 6
  · rw [if_pos o6]; exact ⟨fun _ => hh, ht⟩
  rw [if_neg o6]
  by_cases o7 : (cd nx).1 = 7
  · rw [if_pos o7]; exact ⟨fun _ => k0 (by omega), hF⟩
  rw [if_neg o7]
  by_cases o8 : (cd nx).1 = 8
  · rw [if_pos o8]; exact ⟨fun _ => k0 (by omega), hF⟩
  rw [if_neg o8]
  by_cases o9 : (cd nx).1 = 9
  · rw [if_pos o9]
    refine ⟨fun _ => k0 (by omega), fun fr h => ?_⟩
    rcases List.mem_cons.mp h with rfl | h
    · exact g9 nx o9
    · exact hF fr h
  rw [if_neg o9]
  by_cases o10 : (cd nx).1 = 10
  · rw [if_pos o10]; exact ⟨fun _ => k0 (by omega), ht⟩
  rw [if_neg o10]
  by_cases o11 : (cd nx).1 = 11
  · rw [if_pos o11]; exact ⟨fun _ => k0 (by omega), ht⟩
  rw [if_neg o11]
  by_cases o12 : (cd nx).1 = 12
  · rw [if_pos o12]
    refine ⟨fun _ => g4 nx (Or.inr o12), ?_⟩
    cases F with
    | nil => exact fun fr h => by cases h
    | cons f G =>
      intro fr h
      rcases List.mem_cons.mp h with rfl | h
      · exact hF f List.mem_cons_self
      · exact hF fr (List.mem_cons_of_mem _ h)
  rw [if_neg o12]
  by_cases o13 : (cd nx).1 = 13
  · rw [if_pos o13]; exact ⟨fun _ => k0 (by omega), hF⟩
  rw [if_neg o13]
  by_cases o14 : (cd nx).1 = 14
  · rw [if_pos o14]; exact ⟨fun _ => k0 (by omega), hF⟩
  rw [if_neg o14]
  exact ⟨fun h => (by cases h), hF⟩
theorem cw_nx {σ : MZ_} {cs : Nat} (h : CW_ σ cs) : (∀ i, (cdf_ σ cs i).1 ≠ 0 → i + 1 ≤ 561) ∧ (∀ i, (cdf_ σ cs i).1 = 4 ∨ (cdf_ σ cs i).1 = 12 → (cdf_ σ cs i).2.1.toNatClampNeg ≤ 561) ∧ (∀ i, (cdf_ σ cs i).1 = 9 → (cdf_ σ cs i).2.2.toNatClampNeg ≤ 561) ∧ (∀ i, (cdf_ σ cs i).1 = 5 → enf_ σ (cdf_ σ cs i).2.1.toNatClampNeg ≤ 561) := by
  obtain ⟨h32, hcs, hop, hen⟩ := h
  have out : ∀ i, ¬ i < cs → cdf_ σ cs i = (0, 0, 0) := fun i hi => if_neg hi
  have ins : ∀ i, i < cs → cdf_ σ cs i = ((σ 15 i).toNatClampNeg, σ 16 i, σ 17 i) := fun i hi => if_pos hi
  refine ⟨fun i hi => ?_, fun i hi => ?_, fun i hi => ?_, fun i hi => ?_⟩
  · by_cases q : i < cs
    · omega
    · rw [out i q] at hi; exact absurd rfl hi
  · by_cases q : i < cs
    · rw [ins i q] at hi ⊢
      obtain ⟨o, ho, e, w4, -, -, w12, -⟩ := hop i q
      simp only at hi ⊢
      rw [e, nI_clamp (by omega)] at hi
      rcases hi with hi | hi
      · obtain ⟨t, ht, e2⟩ := w4 hi
        rw [e2, nI_clamp (by omega)]; exact ht
      · obtain ⟨t, ht, e2⟩ := w12 hi
        rw [e2, nI_clamp (by omega)]; exact ht
    · rw [out i q] at hi; simp at hi
  · by_cases q : i < cs
    · rw [ins i q] at hi ⊢
      obtain ⟨o, ho, e, -, -, w9, -⟩ := hop i q
      simp only at hi ⊢
      rw [e, nI_clamp (by omega)] at hi
      obtain ⟨m, t, -, -, ht, -, e2⟩ := w9 hi
      rw [e2, nI_clamp (by omega)]; exact ht
    · rw [out i q] at hi; simp at hi
  · by_cases q : i < cs
    · rw [ins i q] at hi ⊢
      obtain ⟨o, ho, e, -, w5, -⟩ := hop i q
      simp only at hi ⊢
      rw [e, nI_clamp (by omega)] at hi
      obtain ⟨t, ht, e2⟩ := w5 hi
      rw [e2, nI_clamp (by omega)]
      obtain ⟨t2, ht2, e3⟩ := hen t ht
      unfold enf_
      rw [e3, nI_clamp (by omega)]; exact ht2
    · rw [out i q] at hi; simp at hi
/-- many turns -/
theorem rm_go {cs len : Nat} : ∀ (k : Nat) {σ : MZ_} {c c' : MC_} (N n : Nat) (x1 : Int32), RM_ σ c → CW_ σ cs → TW_ σ len → NX_ c → Go_ (cdf_ σ cs) (enf_ σ) (σ 21) len k c c' → n + k ≤ 16777216 → ∃ σ', f_M_run_L11 (N + k) σ x1 (nI n) = f_M_run_L11 N σ' x1 (nI (n + k)) ∧ RM_ σ' c' ∧ Fx_ σ σ' := by
  intro k
  induction k with
  | zero =>
    intro σ c c' N n x1 h _ _ _ hg _
    cases hg
    exact ⟨σ, rfl, h, fun _ _ => rfl⟩
  | succ k ih =>
    intro σ c c' N n x1 h hC hT hX hg hn
    obtain ⟨⟨hst, hF, hA⟩, hg⟩ := hg
    obtain ⟨F, As, nx, d, st, ps⟩ := c
    simp only at hst hF hA
    subst hst
    have hx : nx ≤ 561 := hX.1 rfl
    obtain ⟨g0, g4, g9, g5⟩ := cw_nx hC
    have hX1 : NX_ (ms_ (cdf_ σ cs) (enf_ σ) (σ 21) len (F, As, nx, d, 0, ps)) := nx_ms g0 g4 g9 g5 hX.2
    obtain ⟨σ1, p1, r1, z1⟩ := rm_step h hC hT hF hA hx
    have hC1 := cw_x hC z1
    have hT1 := tw_x hT z1
    have e1 : cdf_ σ1 cs = cdf_ σ cs := cdf_x z1
    have e2 : enf_ σ1 = enf_ σ := enf_x z1
    have e3 : σ1 21 = σ 21 := z1 21 (by omega)
    obtain ⟨σ2, p2, r2, z2⟩ := ih (σ := σ1) (c := ms_ (cdf_ σ cs) (enf_ σ) (σ 21) len (F, As, nx, d, 0, ps)) (c' := c') N (n + 1) x1 r1 hC1 hT1 hX1 (by rw [e1, e2, e3]; exact hg) (by omega)
    refine ⟨σ2, ?_, r2, fx_t z1 z2⟩
    have h35 : σ 35 0 = 0 := (rm_4 h).2.2.1.2.2.1.1
    rw [show N + (k + 1) = (N + k) + 1 by omega, f_M_run_L11]
    rw [if_neg (show ¬ (16777216 : Int32) ≤ nI n from fun hh => by have := (li_ge 16777216 rfl (by omega) (by omega)).mp hh; omega), if_pos h35]
    have q : ∀ σ', (st_ (va_up σ 36 (fun _ => (σ 36 0) + 1)) fun σ3 => (f_C_operation σ3 (σ 36 0)).bind fun r3 => (f_C_p σ3 (σ 36 0)).bind fun r4 => (f_C_q σ3 (σ 36 0)).bind fun r5 => f_M_obey σ3 r3 r4 r5) = some σ' → (st_ (va_up σ 36 (fun _ => (σ 36 0) + 1)) fun σ3 => (f_C_operation σ3 (σ 36 0)).bind fun r3 => (f_C_p σ3 (σ 36 0)).bind fun r4 => (f_C_q σ3 (σ 36 0)).bind fun r5 => (f_M_obey σ3 r3 r4 r5).bind fun u6 => f_M_run_L11 (N + k) u6 x1 (nI n + 1)) = f_M_run_L11 (N + k) σ' x1 (nI n + 1) := by
      intro σ' hh
      obtain ⟨a, ha, hh⟩ := st_some hh
      obtain ⟨r3, h3, hh⟩ := bd_some hh
      obtain ⟨r4, h4, hh⟩ := bd_some hh
      obtain ⟨r5, h5, hh⟩ := bd_some hh
      unfold st_
      rw [← ha]
      show ((f_C_operation a (σ 36 0)).bind _) = _
      rw [bd_s h3, bd_s h4, bd_s h5, bd_s hh]
    rw [q σ1 p1, nI_1, p2, show n + 1 + k = n + (k + 1) by omega]
end STEP
