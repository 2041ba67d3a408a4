/-! the nodes in bodies as the other system finds them; what is wrong, on both sides -/
section FAUL
variable {σ : MZ_} {g : Nat} {kd : Nat → Nat} {ga gb gc : Nat → Int32} {hg : Nat → Nat} {bo : Nat → Option Nat} {E : Nat → Bool}
theorem hf_1 : ∀ k, k < 14 → f_R_hasFirst (nI k) = some (bI (h1_ k)) := by decide +kernel
theorem hf_2 : ∀ k, k < 14 → f_R_hasSecond (nI k) = some (bI (h2_ k)) := by decide +kernel
theorem hf_3 : ∀ k, k < 14 → h2_ k = true → h1_ k = true := by decide +kernel
theorem bI_0 {b : Bool} (h : b = false) : bI b = 0 := by rw [h]; rfl
theorem bI_1 {b : Bool} (h : b = true) : ¬ bI b = 0 := by rw [h]; decide
theorem ri_1 (hW : WF_ g kd ga gb gc hg bo) : ∀ (n N : Nat) (S : Nat → Bool) (σ : MZ_), n ≤ g → n < N → RG_ σ g kd ga gb gc hg bo → MK_ (σ 11) g S → ∃ σ', f_R_findWithin_L67 N σ (nI n - 1) = some σ' ∧ Ox_ 11 σ σ' ∧ MK_ (σ' 11) g (dn_ kd ga gb n S) := by
  have hg80 := hW.1
  intro n
  induction n with
  | zero =>
    intro N S σ h1 h2 hX hM
    obtain ⟨N, rfl⟩ : ∃ M, N = M + 1 := ⟨N - 1, by omega⟩
    rw [f_R_findWithin_L67, if_pos (by decide)]
    exact ⟨σ, rfl, ox_r, hM⟩
  | succ n ih =>
    intro N S σ h1 h2 hX hM
    obtain ⟨N, rfl⟩ : ∃ M, N = M + 1 := ⟨N - 1, by omega⟩
    have hn : n < g := by omega
    obtain ⟨hin, hcl, ek, ea, eb⟩ := rg_a hX hg80 hn
    have e1 : nI n + (-1) = nI n - 1 := (Int32.sub_eq_add_neg _ _).symm
    rw [nI_pred, f_R_findWithin_L67, if_neg (nI_pos (by omega)), gd_in hin, hcl, e1]
    show ∃ σ' : MZ_, _ ∧ _ ∧ MK_ (σ' 11) g (dn_ kd ga gb n (m2_ kd gb n (m1_ kd ga n S)))
    have hSn := hM n hn
    cases hS : S n with
    | false =>
      have z : σ 11 n = 0 := by rw [hSn, hS]; rfl
      have e2 : m2_ kd gb n (m1_ kd ga n S) = S := by
        have q1 : m1_ kd ga n S = S := by unfold m1_; rw [hS]; rfl
        rw [q1]; unfold m2_; rw [hS]; rfl
      rw [e2, if_pos z, gd_in hin, if_pos z]
      exact ih N S σ (by omega) (by omega) hX hM
    | true =>
      have z : ¬ σ 11 n = 0 := by rw [hSn, hS]; decide
      obtain ⟨g1, -, -, g4, g5, -⟩ := hW.2.1 n hn
      rw [if_neg z, gd_in hin, ek, bd_s (hf_1 (kd n) (by omega))]
      cases q1 : h1_ (kd n) with
      | false =>
        have q2 : h2_ (kd n) = false := by
          cases q : h2_ (kd n) with
          | false => rfl
          | true => rw [hf_3 _ (by omega) q] at q1; cases q1
        have e2 : m2_ kd gb n (m1_ kd ga n S) = S := by
          have q1 : m1_ kd ga n S = S := by unfold m1_; rw [q1]; simp
          rw [q1]; unfold m2_; rw [q2]; simp
        rw [e2, if_pos (bI_0 rfl), gd_in hin, if_neg z, gd_in hin, bd_s (hf_2 (kd n) (by omega)), if_pos (bI_0 q2)]
        exact ih N S σ (by omega) (by omega) hX hM
      | true =>
        obtain ⟨x, hx, ex, -⟩ := g4 (of_decide_eq_true q1)
        have q3 : m1_ kd ga n S = va_up S x true := by unfold m1_; rw [q1, hS, ex, nI_clamp (by omega)]; rfl
        rw [if_neg (bI_1 rfl), gd_in hin, ea, ex, gd_in (vp_in_nI (show x < 80 by omega) (by omega)), st_e, gd_in hin, nI_clamp (show x < 2 ^ 31 by omega)]
        have x1 : Ox_ 11 σ (va_up σ 11 (upd (σ 11) x (vp_nar .boolean 1))) := ox_u
        have n1 : MK_ ((va_up σ 11 (upd (σ 11) x (vp_nar .boolean 1))) 11) g (va_up S x true) := by rw [va_up_self]; exact mk_put (b := true) hM
        generalize va_up σ 11 (upd (σ 11) x (vp_nar .boolean 1)) = s1 at x1 n1 ⊢
        have hX1 := rg_x hX x1 (by omega)
        obtain ⟨-, -, ek1, ea1, eb1⟩ := rg_a hX1 hg80 hn
        have z1 : ¬ s1 11 n = 0 := by rw [n1 n hn, va_up_ne _ _ (show n ≠ x by omega), hS]; decide
        rw [if_neg z1, gd_in hin, ek1, bd_s (hf_2 (kd n) (by omega)), q3]
        cases q2 : h2_ (kd n) with
        | false =>
          have e2 : m2_ kd gb n (va_up S x true) = va_up S x true := by unfold m2_; rw [q2]; simp
          rw [e2, if_pos (bI_0 rfl)]
          obtain ⟨s2, p2, x2, n2⟩ := ih N _ s1 (by omega) (by omega) hX1 n1
          exact ⟨s2, p2, ox_t x1 x2, n2⟩
        | true =>
          obtain ⟨y, hy, ey, -⟩ := g5 (of_decide_eq_true q2)
          have e2 : m2_ kd gb n (va_up S x true) = va_up (va_up S x true) y true := by
            unfold m2_
            rw [q2, va_up_ne _ _ (show n ≠ x by omega), hS, ey, nI_clamp (by omega)]; rfl
          rw [e2, if_neg (bI_1 rfl), gd_in hin, eb1, ey, gd_in (vp_in_nI (show y < 80 by omega) (by omega)), st_e, nI_clamp (show y < 2 ^ 31 by omega)]
          have x2 : Ox_ 11 s1 (va_up s1 11 (upd (s1 11) y (vp_nar .boolean 1))) := ox_u
          have n2 : MK_ ((va_up s1 11 (upd (s1 11) y (vp_nar .boolean 1))) 11) g (va_up (va_up S x true) y true) := by rw [va_up_self]; exact mk_put (b := true) n1
          obtain ⟨s3, p3, x3, n3⟩ := ih N _ _ (by omega) (by omega) (rg_x hX1 x2 (by omega)) n2
          exact ⟨s3, p3, ox_t x1 (ox_t x2 x3), n3⟩
theorem ri_2 (hW : WF_ g kd ga gb gc hg bo) : ∀ (j N r : Nat) (σ : MZ_), r + j = 6 → j < N → RG_ σ g kd ga gb gc hg bo → MK_ (σ 11) g (ub_ bo r) → ∃ σ', f_R_findWithin_L25 N σ (nI r) = some σ' ∧ Ox_ 11 σ σ' ∧ MK_ (σ' 11) g (Ib_ g kd ga gb bo) := by
  have hg80 := hW.1
  intro j
  induction j with
  | zero =>
    intro N r σ h1 h2 hX hM
    obtain ⟨N, rfl⟩ : ∃ M, N = M + 1 := ⟨N - 1, by omega⟩
    have e : r = 6 := by omega
    subst e
    rw [f_R_findWithin_L25, if_pos (by decide), hX.1]
    exact ri_1 hW g 100 (ub_ bo 6) σ (Nat.le_refl g) (by omega) hX hM
  | succ j ih =>
    intro N r σ h1 h2 hX hM
    obtain ⟨N, rfl⟩ : ∃ M, N = M + 1 := ⟨N - 1, by omega⟩
    have hr : r < 6 := by omega
    have hin : vp_in (nI r) 6 := vp_in_nI hr (by omega)
    rw [f_R_findWithin_L25, if_neg (show ¬ (6 : Int32) ≤ nI r from fun hh => by have := (le_c (N := 6) (by omega) (by omega)).mp hh; omega), gd_in hin, nI_clamp (show r < 2 ^ 31 by omega), nI_1]
    cases hb : bo r with
    | none =>
      rw [hX.2.2.2 r hr hb, if_pos (by decide)]
      refine ih N (r + 1) σ (by omega) (by omega) hX ?_
      have : ub_ bo (r + 1) = ub_ bo r := by
        show (match bo r with | some b => va_up (ub_ bo r) b true | none => ub_ bo r) = _
        rw [hb]
      rw [this]; exact hM
    | some b =>
      have hbg := hW.2.2 r b hr hb
      rw [hX.2.2.1 r b hr hb, if_neg (show ¬ nI (b + 1) ≤ 0 from fun hh => by have := (li_le 0 rfl (by omega) (by omega)).mp hh; omega), gd_in hin, li_m1 (x := nI (b + 1)) rfl, gd_in (vp_in_nI (show b < 80 by omega) (by omega)), st_e, nI_clamp (show b < 2 ^ 31 by omega)]
      have x1 : Ox_ 11 σ (va_up σ 11 (upd (σ 11) b (vp_nar .boolean 1))) := ox_u
      have n1 : MK_ ((va_up σ 11 (upd (σ 11) b (vp_nar .boolean 1))) 11) g (va_up (ub_ bo r) b true) := by rw [va_up_self]; exact mk_put (b := true) hM
      obtain ⟨s2, p2, x2, n2⟩ := ih N (r + 1) _ (by omega) (by omega) (rg_x hX x1 (by omega)) (by
        have : ub_ bo (r + 1) = va_up (ub_ bo r) b true := by
          show (match bo r with | some b => va_up (ub_ bo r) b true | none => ub_ bo r) = _
          rw [hb]
        rw [this]; exact n1)
      exact ⟨s2, p2, ox_t x1 x2, n2⟩
theorem ri_3 (hW : WF_ g kd ga gb gc hg bo) : ∀ (j N n : Nat) (σ : MZ_), n + j = g → j < N → RG_ σ g kd ga gb gc hg bo → MK_ (σ 11) n (fun _ => false) → ∃ σ', f_R_findWithin_L2 N σ (nI n) = some σ' ∧ Ox_ 11 σ σ' ∧ MK_ (σ' 11) g (Ib_ g kd ga gb bo) := by
  have hg80 := hW.1
  intro j
  induction j with
  | zero =>
    intro N n σ h1 h2 hX hM
    obtain ⟨N, rfl⟩ : ∃ M, N = M + 1 := ⟨N - 1, by omega⟩
    have e : n = g := by omega
    subst e
    rw [f_R_findWithin_L2, hX.1, if_pos ((le_c (by omega) (by omega)).mpr (Nat.le_refl _))]
    exact ri_2 hW 6 100 0 σ (by omega) (by omega) hX hM
  | succ j ih =>
    intro N n σ h1 h2 hX hM
    obtain ⟨N, rfl⟩ : ∃ M, N = M + 1 := ⟨N - 1, by omega⟩
    rw [f_R_findWithin_L2, hX.1, if_neg (fun hh => by have := (le_c (by omega) (by omega)).mp hh; omega), gd_in (vp_in_nI (by omega) (by omega)), st_e, nI_clamp (by omega), nI_1]
    obtain ⟨σ', p, hx, hz⟩ := ih N (n + 1) (va_up σ 11 (upd (σ 11) n (vp_nar .boolean 0))) (by omega) (by omega) (rg_x hX ox_u (by omega)) (by
      intro m hm
      rw [va_up_self]
      by_cases e : m = n
      · subst e; rw [pk_us]; rfl
      · rw [pk_un e]; exact hM m (by omega))
    exact ⟨σ', p, ox_t ox_u hx, hz⟩
theorem ri_all (hW : WF_ g kd ga gb gc hg bo) (hX : RG_ σ g kd ga gb gc hg bo) : ∃ σ', f_R_findWithin σ = some σ' ∧ Ox_ 11 σ σ' ∧ MK_ (σ' 11) g (Ib_ g kd ga gb bo) := ri_3 hW g 100 0 σ (by omega) (by have := hW.1; omega) hX (fun m hm => by omega)
/-! what is wrong -/
def ay_ (P : Nat → Bool) : Nat → Nat → Bool
  | _, 0 => false
  | n, j + 1 => P n || ay_ P (n + 1) j
def p1_ (g : Nat) (kd : Nat → Nat) (ga gb : Nat → Int32) (bo : Nat → Option Nat) (n : Nat) : Bool := Ib_ g kd ga gb bo n && (decide (kd n = 11) && (bo (ga n).toNatClampNeg).isNone)
def rd_ (kd : Nat → Nat) (ga gb : Nat → Int32) (E : Nat → Bool) (n : Nat) : Bool := (decide (kd n = 9) && E (ga n).toNatClampNeg) || (decide (kd n = 10) && (E (ga n).toNatClampNeg && E (gb n).toNatClampNeg))
def p2_ (g : Nat) (kd : Nat → Nat) (ga gb : Nat → Int32) (bo : Nat → Option Nat) (n : Nat) : Bool := Ib_ g kd ga gb bo n && rd_ kd ga gb (Em_ g kd ga gb bo) n
def p3_ (g : Nat) (kd : Nat → Nat) (ga gb : Nat → Int32) (bo : Nat → Option Nat) (r : Nat) : Bool := cl_all 6 (LR_ g kd ga gb bo) r r
def Fa_ (g : Nat) (kd : Nat → Nat) (ga gb : Nat → Int32) (bo : Nat → Option Nat) : Int32 := if ay_ (p1_ g kd ga gb bo) 0 g = true then 1 else if ay_ (p2_ g kd ga gb bo) 0 g = true then 2 else if ay_ (p3_ g kd ga gb bo) 0 6 = true then 3 else 0
theorem xf_1 (hW : WF_ g kd ga gb gc hg bo) (hX : XG_ σ g kd ga gb gc hg bo) (hI : MK_ (σ 11) g (Ib_ g kd ga gb bo)) : ∀ (j N n : Nat), n + j = g → j < N → f_Y_hasRuleWithoutBody_L2 σ N (nI n) = some (bI (ay_ (p1_ g kd ga gb bo) n j)) := by
  have hg80 := hW.1
  intro j
  induction j with
  | zero =>
    intro N n h1 h2
    obtain ⟨N, rfl⟩ : ∃ M, N = M + 1 := ⟨N - 1, by omega⟩
    rw [f_Y_hasRuleWithoutBody_L2, bd_s (show f_G_size σ = some (nI g) by unfold f_G_size; rw [hX.1]), if_pos ((le_c (by omega) (by omega)).mpr (by omega))]
    rfl
  | succ j ih =>
    intro N n h1 h2
    obtain ⟨N, rfl⟩ : ∃ M, N = M + 1 := ⟨N - 1, by omega⟩
    have hn : n < g := by omega
    obtain ⟨ea, eb, -, ek⟩ := xg_a hX hg80 hn
    obtain ⟨g1, -, -, -, -, -, -, g8, -⟩ := hW.2.1 n hn
    rw [f_Y_hasRuleWithoutBody_L2, bd_s (show f_G_size σ = some (nI g) by unfold f_G_size; rw [hX.1]), if_neg (fun hh => by have := (le_c (by omega) (by omega)).mp hh; omega), gd_in (vp_in_nI (by omega) (by omega)), nI_clamp (by omega), nI_1, hI n hn]
    show _ = some (bI (p1_ g kd ga gb bo n || ay_ (p1_ g kd ga gb bo) (n + 1) j))
    rw [ih N (n + 1) (by omega) (by omega)]
    unfold p1_
    cases hq : Ib_ g kd ga gb bo n with
    | false => rw [if_pos (bI_0 rfl)]; simp
    | true =>
      rw [if_neg (bI_1 rfl), bd_s ek]
      by_cases k11 : kd n = 11
      · obtain ⟨r, hr, er⟩ := g8 k11
        have hcr : (nI r).toNatClampNeg = r := nI_clamp (by omega)
        rw [k11, if_pos (show nI 11 = (11 : Int32) from rfl), bd_s ea, er, hcr]
        have hb : f_G_hasBody σ (nI r) = some (bI (bo r).isSome) := by
          unfold f_G_hasBody
          rw [bd_s (xg_rule hr), if_neg (by decide), gd_in (vp_in_nI hr (by omega)), hcr]
          cases hb : bo r with
          | none => rw [hX.2.2.2 r hr hb, if_pos rfl]; rfl
          | some b =>
            have hbg := hW.2.2 r b hr hb
            rw [hX.2.2.1 r b hr hb, if_neg]
            · rfl
            · intro hh
              have := congrArg Int32.toInt hh
              rw [nI_toInt (by omega)] at this
              have h2 : (-1 : Int32).toInt = -1 := by decide
              omega
        rw [bd_s hb]
        cases bo r with
        | none => rw [if_pos (show bI (none : Option Nat).isSome = 0 by decide)]; simp [bI]
        | some b => rw [if_neg (show ¬ bI (some b).isSome = 0 from bI_1 rfl)]; simp
      · rw [if_neg (show ¬ nI (kd n) = (11 : Int32) from fun hh => k11 ((nI_eq (b := 11) (by omega) (by omega)).mp hh))]
        simp [k11]
theorem xm_any (hX : XG_ σ g kd ga gb gc hg bo) (hg80 : g ≤ 80) (v : Int32) : ∃ x, f_Y_marked_9 σ v = some x ∧ (x = 0 ∨ x = 1) := by
  unfold f_Y_marked_9 f_G_isNode
  by_cases q1 : v < 0
  · rw [if_pos q1]; exact ⟨0, rfl, Or.inl rfl⟩
  · rw [if_neg q1]
    by_cases q2 : σ 31 0 ≤ v
    · rw [if_pos q2]; exact ⟨0, rfl, Or.inl rfl⟩
    · rw [if_neg q2]
      have hin : vp_in v 80 := by
        rw [hX.1, Int32.le_iff_toInt_le, nI_toInt (by omega)] at q2
        intro hh
        rcases hh with hh | hh
        · exact q1 hh
        · rw [Int32.toNatClampNeg] at hh; omega
      show ∃ x, (if (1 : Int32) = 0 then some 0 else gd_ v 80 _) = some x ∧ _
      rw [if_neg (by decide), gd_in hin]
      split
      · exact ⟨0, rfl, Or.inl rfl⟩
      · exact ⟨1, rfl, Or.inr rfl⟩
theorem xf_c (hW : WF_ g kd ga gb gc hg bo) (hX : XG_ σ g kd ga gb gc hg bo) (hE : MK_ (σ 9) g E) {n : Nat} (hn : n < g) : f_Y_couldLoop σ (nI n) = some (bI (rd_ kd ga gb E n)) := by
  have hg80 := hW.1
  obtain ⟨ea, eb, -, ek⟩ := xg_a hX hg80 hn
  obtain ⟨g1, -, -, g4, g5, -⟩ := hW.2.1 n hn
  unfold f_Y_couldLoop
  rw [bd_s ea]
  by_cases k9 : kd n = 9
  · obtain ⟨x, hx, ex, -⟩ := g4 (by omega)
    have hf : rd_ kd ga gb E n = E x := by simp [rd_, k9, ex, nI_clamp (show x < 2 ^ 31 by omega)]
    rw [ex, bd_s (xm_9 hX hg80 hE (show x < g by omega)), bd_s ek, k9, if_pos (show nI 9 = (9 : Int32) from rfl), bI_o, hf]
  by_cases k10 : kd n = 10
  · obtain ⟨x, hx, ex, -⟩ := g4 (by omega)
    obtain ⟨y, hy, ey, -⟩ := g5 (by omega)
    have hf : rd_ kd ga gb E n = (E x && E y) := by simp [rd_, k10, ex, ey, nI_clamp (show x < 2 ^ 31 by omega), nI_clamp (show y < 2 ^ 31 by omega)]
    rw [ex, bd_s (xm_9 hX hg80 hE (show x < g by omega)), bd_s ek, k10, if_neg (show ¬ nI 10 = (9 : Int32) by decide), if_pos (show nI 10 = (10 : Int32) from rfl), bd_s eb, ey, bd_s (xm_9 hX hg80 hE (show y < g by omega)), hf]
    cases E x <;> cases E y <;> simp [bI]
  obtain ⟨v, ev, -⟩ := xm_any hX hg80 (ga n)
  have hf : rd_ kd ga gb E n = false := by simp [rd_, k9, k10]
  rw [bd_s ev, bd_s ek, if_neg (show ¬ nI (kd n) = (9 : Int32) from fun hh => k9 ((nI_eq (b := 9) (by omega) (by omega)).mp hh)), if_neg (show ¬ nI (kd n) = (10 : Int32) from fun hh => k10 ((nI_eq (b := 10) (by omega) (by omega)).mp hh)), hf]
  rfl
theorem xf_2 (hW : WF_ g kd ga gb gc hg bo) (hX : XG_ σ g kd ga gb gc hg bo) (hI : MK_ (σ 11) g (Ib_ g kd ga gb bo)) (hE : MK_ (σ 9) g (Em_ g kd ga gb bo)) : ∀ (j N n : Nat), n + j = g → j < N → f_Y_hasEndlessLoop_L2 σ N (nI n) = some (bI (ay_ (p2_ g kd ga gb bo) n j)) := by
  have hg80 := hW.1
  intro j
  induction j with
  | zero =>
    intro N n h1 h2
    obtain ⟨N, rfl⟩ : ∃ M, N = M + 1 := ⟨N - 1, by omega⟩
    rw [f_Y_hasEndlessLoop_L2, bd_s (show f_G_size σ = some (nI g) by unfold f_G_size; rw [hX.1]), if_pos ((le_c (by omega) (by omega)).mpr (by omega))]
    rfl
  | succ j ih =>
    intro N n h1 h2
    obtain ⟨N, rfl⟩ : ∃ M, N = M + 1 := ⟨N - 1, by omega⟩
    have hn : n < g := by omega
    rw [f_Y_hasEndlessLoop_L2, bd_s (show f_G_size σ = some (nI g) by unfold f_G_size; rw [hX.1]), if_neg (fun hh => by have := (le_c (by omega) (by omega)).mp hh; omega), gd_in (vp_in_nI (by omega) (by omega)), nI_clamp (by omega), nI_1, hI n hn, bd_s (xf_c hW hX hE hn), ih N (n + 1) (by omega) (by omega)]
    show _ = some (bI (p2_ g kd ga gb bo n || ay_ (p2_ g kd ga gb bo) (n + 1) j))
    unfold p2_
    cases Ib_ g kd ga gb bo n <;> cases rd_ kd ga gb (Em_ g kd ga gb bo) n <;> simp [bI]
theorem xf_3 (hB : ∀ r, r < 6 → ∀ i, bt_ (σ 13 r) i = cl_all 6 (LR_ g kd ga gb bo) r i) : ∀ (j N n : Nat), n + j = 6 → j < N → f_Y_hasRuleThatLeadsToItself_L2 σ N (nI n) = some (bI (ay_ (p3_ g kd ga gb bo) n j)) := by
  intro j
  induction j with
  | zero =>
    intro N n h1 h2
    obtain ⟨N, rfl⟩ : ∃ M, N = M + 1 := ⟨N - 1, by omega⟩
    rw [f_Y_hasRuleThatLeadsToItself_L2, if_pos (show (6 : Int32) ≤ nI n from (le_c (N := 6) (by omega) (by omega)).mpr (by omega))]
    rfl
  | succ j ih =>
    intro N n h1 h2
    obtain ⟨N, rfl⟩ : ∃ M, N = M + 1 := ⟨N - 1, by omega⟩
    have hn : n < 6 := by omega
    rw [f_Y_hasRuleThatLeadsToItself_L2, if_neg (show ¬ (6 : Int32) ≤ nI n from fun hh => by have := (le_c (N := 6) (by omega) (by omega)).mp hh; omega), gd_in (vp_in_nI hn (by omega)), nI_clamp (by omega), nI_1, ih N (n + 1) (by omega) (by omega)]
    show _ = some (bI (p3_ g kd ga gb bo n || ay_ (p3_ g kd ga gb bo) (n + 1) j))
    have e : p3_ g kd ga gb bo n = bt_ (σ 13 n) n := (hB n hn n).symm
    rw [e]
    cases q : bt_ (σ 13 n) n with
    | true => rw [if_pos ((bt_test hn).mpr q)]; simp [bI]
    | false => rw [if_neg (fun hh => by rw [(bt_test hn).mp hh] at q; cases q)]; simp
theorem xf_all (hW : WF_ g kd ga gb gc hg bo) (hX : XG_ σ g kd ga gb gc hg bo) : ∃ σ', f_Y_fault σ = some (Fa_ g kd ga gb bo, σ') ∧ (∀ k, k ≠ 9 → k ≠ 11 → k ≠ 12 → k ≠ 13 → σ' k = σ k) ∧ MK_ (σ' 9) g (Em_ g kd ga gb bo) ∧ MK_ (σ' 11) g (Ib_ g kd ga gb bo) := by
  obtain ⟨s1, p1, x1, m1⟩ := xi_all hW hX
  have hX1 := xg_x hX x1 (by omega)
  obtain ⟨s2, p2, x2, m2, b2⟩ := xl_all hW hX1
  have hX2 : XG_ s2 g kd ga gb gc hg bo := by
    unfold XG_
    rw [x2 31 (by omega) (by omega) (by omega), x2 2 (by omega) (by omega) (by omega), x2 3 (by omega) (by omega) (by omega), x2 4 (by omega) (by omega) (by omega), x2 5 (by omega) (by omega) (by omega), x2 6 (by omega) (by omega) (by omega), x2 7 (by omega) (by omega) (by omega)]
    exact hX1
  have hI2 : MK_ (s2 11) g (Ib_ g kd ga gb bo) := by rw [x2 11 (by omega) (by omega) (by omega)]; exact m1
  refine ⟨s2, ?_, fun k h9 h11 h12 h13 => (x2 k h9 h12 h13).trans (x1 k h11), m2, hI2⟩
  have e1 : f_Y_hasRuleWithoutBody s2 = _ := xf_1 hW hX2 hI2 g 100 0 (by omega) (by have := hW.1; omega)
  have e2 : f_Y_hasEndlessLoop s2 = _ := xf_2 hW hX2 hI2 m2 g 100 0 (by omega) (by have := hW.1; omega)
  have e3 : f_Y_hasRuleThatLeadsToItself s2 = _ := xf_3 b2 6 100 0 (by omega) (by omega)
  unfold f_Y_fault Fa_
  rw [bd_s p1, bd_s p2, bd_s e1, bd_s e2, bd_s e3]
  cases ay_ (p1_ g kd ga gb bo) 0 g <;> cases ay_ (p2_ g kd ga gb bo) 0 g <;> cases ay_ (p3_ g kd ga gb bo) 0 6 <;> simp [bI]
/-! the other system -/
theorem rf_c (hW : WF_ g kd ga gb gc hg bo) (hX : RG_ σ g kd ga gb gc hg bo) (hE : MK_ (σ 8) g E) {n : Nat} (hn : n < g) : f_R_isRound σ (nI n) = some (bI (rd_ kd ga gb E n)) := by
  have hg80 := hW.1
  obtain ⟨hin, hcl, ek, ea, eb⟩ := rg_a hX hg80 hn
  obtain ⟨g1, -, -, g4, g5, -⟩ := hW.2.1 n hn
  unfold f_R_isRound
  rw [gd_in hin, hcl, ek]
  by_cases k9 : kd n = 9
  · obtain ⟨x, hx, ex, -⟩ := g4 (by omega)
    have hf : rd_ kd ga gb E n = E x := by simp [rd_, k9, ex, nI_clamp (show x < 2 ^ 31 by omega)]
    rw [k9, if_pos (show nI 9 = (9 : Int32) from rfl), gd_in hin, ea, ex, gd_in (vp_in_nI (show x < 80 by omega) (by omega)), nI_clamp (show x < 2 ^ 31 by omega), hE x (by omega), hf]
    rw [gd_in hin, if_neg (show ¬ nI 9 = (10 : Int32) by decide)]
    cases E x <;> simp [bI]
  rw [if_neg (show ¬ nI (kd n) = (9 : Int32) from fun hh => k9 ((nI_eq (b := 9) (by omega) (by omega)).mp hh)), gd_in hin]
  by_cases k10 : kd n = 10
  · obtain ⟨x, hx, ex, -⟩ := g4 (by omega)
    obtain ⟨y, hy, ey, -⟩ := g5 (by omega)
    have hf : rd_ kd ga gb E n = (E x && E y) := by simp [rd_, k10, ex, ey, nI_clamp (show x < 2 ^ 31 by omega), nI_clamp (show y < 2 ^ 31 by omega)]
    rw [k10, if_pos (show nI 10 = (10 : Int32) from rfl), gd_in hin, ea, ex, gd_in (vp_in_nI (show x < 80 by omega) (by omega)), nI_clamp (show x < 2 ^ 31 by omega), hE x (by omega), gd_in hin, eb, ey, gd_in (vp_in_nI (show y < 80 by omega) (by omega)), nI_clamp (show y < 2 ^ 31 by omega), hE y (by omega), hf]
    cases E x <;> cases E y <;> simp [bI]
  have hf : rd_ kd ga gb E n = false := by simp [rd_, k9, k10]
  rw [if_neg (show ¬ nI (kd n) = (10 : Int32) from fun hh => k10 ((nI_eq (b := 10) (by omega) (by omega)).mp hh)), hf]
  rfl
theorem rf_3 (hW : WF_ g kd ga gb gc hg bo) : ∀ (j N n : Nat) (σ : MZ_), n + j = 6 → j < N → RG_ σ g kd ga gb gc hg bo → ∃ σ', f_R_fault_L97 N σ (nI n) = some ((if ay_ (p3_ g kd ga gb bo) n j = true then 3 else 0), σ') ∧ (∀ k, k ≠ 8 → k ≠ 10 → σ' k = σ k) := by
  intro j
  induction j with
  | zero =>
    intro N n σ h1 h2 hX
    obtain ⟨N, rfl⟩ : ∃ M, N = M + 1 := ⟨N - 1, by omega⟩
    rw [f_R_fault_L97, if_pos (show (6 : Int32) ≤ nI n from (le_c (N := 6) (by omega) (by omega)).mpr (by omega))]
    exact ⟨σ, rfl, fun _ _ _ => rfl⟩
  | succ j ih =>
    intro N n σ h1 h2 hX
    obtain ⟨N, rfl⟩ : ∃ M, N = M + 1 := ⟨N - 1, by omega⟩
    have hn : n < 6 := by omega
    obtain ⟨m, s1, p1, x1, -, b1⟩ := rl_all hW hX hn
    have hX1 : RG_ s1 g kd ga gb gc hg bo := by
      unfold RG_
      rw [x1 31 (by omega) (by omega), x1 1 (by omega) (by omega), x1 2 (by omega) (by omega), x1 3 (by omega) (by omega), x1 4 (by omega) (by omega), x1 5 (by omega) (by omega), x1 6 (by omega) (by omega)]
      exact hX
    rw [f_R_fault_L97, if_neg (show ¬ (6 : Int32) ≤ nI n from fun hh => by have := (le_c (N := 6) (by omega) (by omega)).mp hh; omega), bd_s p1, nI_1]
    have e : p3_ g kd ga gb bo n = bt_ m n := (b1 n).symm
    show ∃ σ', (if ((m >>> (nI n &&& 31)) &&& 1) = 1 then some (3, s1) else f_R_fault_L97 N s1 (nI (n + 1))) = some ((if (p3_ g kd ga gb bo n || ay_ (p3_ g kd ga gb bo) (n + 1) j) = true then 3 else 0), σ') ∧ _
    rw [e]
    cases q : bt_ m n with
    | true =>
      rw [if_pos ((bt_test hn).mpr q)]
      exact ⟨s1, by simp, x1⟩
    | false =>
      rw [if_neg (fun hh => by rw [(bt_test hn).mp hh] at q; cases q), Bool.false_or]
      obtain ⟨s2, p2, x2⟩ := ih N (n + 1) s1 (by omega) (by omega) hX1
      exact ⟨s2, p2, fun k h8 h10 => (x2 k h8 h10).trans (x1 k h8 h10)⟩
theorem rf_2 (hW : WF_ g kd ga gb gc hg bo) (hX : RG_ σ g kd ga gb gc hg bo) (hI : MK_ (σ 11) g (Ib_ g kd ga gb bo)) (hE : MK_ (σ 8) g (Em_ g kd ga gb bo)) : ∀ (j N n : Nat), n + j = g → j < N → f_R_fault_L62 N σ (nI n) = if ay_ (p2_ g kd ga gb bo) n j = true then some (2, σ) else f_R_fault_L97 100 σ (nI 0) := by
  have hg80 := hW.1
  intro j
  induction j with
  | zero =>
    intro N n h1 h2
    obtain ⟨N, rfl⟩ : ∃ M, N = M + 1 := ⟨N - 1, by omega⟩
    rw [f_R_fault_L62, hX.1, if_pos ((le_c (by omega) (by omega)).mpr (by omega))]
    rfl
  | succ j ih =>
    intro N n h1 h2
    obtain ⟨N, rfl⟩ : ∃ M, N = M + 1 := ⟨N - 1, by omega⟩
    have hn : n < g := by omega
    rw [f_R_fault_L62, hX.1, if_neg (fun hh => by have := (le_c (by omega) (by omega)).mp hh; omega), gd_in (vp_in_nI (by omega) (by omega)), nI_clamp (by omega), nI_1, hI n hn, bd_s (rf_c hW hX hE hn), ih N (n + 1) (by omega) (by omega)]
    show _ = if (p2_ g kd ga gb bo n || ay_ (p2_ g kd ga gb bo) (n + 1) j) = true then _ else _
    unfold p2_
    cases Ib_ g kd ga gb bo n <;> cases rd_ kd ga gb (Em_ g kd ga gb bo) n <;> simp [bI]
theorem rf_1 (hW : WF_ g kd ga gb gc hg bo) (hX : RG_ σ g kd ga gb gc hg bo) (hI : MK_ (σ 11) g (Ib_ g kd ga gb bo)) : ∀ (j N n : Nat), n + j = g → j < N → f_R_fault_L10 N σ (nI n) = if ay_ (p1_ g kd ga gb bo) n j = true then some (1, σ) else f_R_fault_L62 100 σ (nI 0) := by
  have hg80 := hW.1
  intro j
  induction j with
  | zero =>
    intro N n h1 h2
    obtain ⟨N, rfl⟩ : ∃ M, N = M + 1 := ⟨N - 1, by omega⟩
    rw [f_R_fault_L10, hX.1, if_pos ((le_c (by omega) (by omega)).mpr (by omega))]
    rfl
  | succ j ih =>
    intro N n h1 h2
    obtain ⟨N, rfl⟩ : ∃ M, N = M + 1 := ⟨N - 1, by omega⟩
    have hn : n < g := by omega
    obtain ⟨hin, hcl, ek, ea, eb⟩ := rg_a hX hg80 hn
    obtain ⟨g1, -, -, -, -, -, -, g8, -⟩ := hW.2.1 n hn
    rw [f_R_fault_L10, hX.1, if_neg (fun hh => by have := (le_c (by omega) (by omega)).mp hh; omega), gd_in hin, hcl, nI_1, hI n hn, ih N (n + 1) (by omega) (by omega)]
    show _ = if (p1_ g kd ga gb bo n || ay_ (p1_ g kd ga gb bo) (n + 1) j) = true then _ else _
    unfold p1_
    cases hq : Ib_ g kd ga gb bo n with
    | false => rw [if_pos (bI_0 rfl)]; simp
    | true =>
      rw [if_neg (bI_1 rfl), gd_in hin, ek]
      by_cases k11 : kd n = 11
      · obtain ⟨r, hr, er⟩ := g8 k11
        have hcr : (nI r).toNatClampNeg = r := nI_clamp (by omega)
        rw [k11, if_pos (show nI 11 = (11 : Int32) from rfl), gd_in hin, ea, er, gd_in (vp_in_nI hr (by omega)), hcr]
        cases hb : bo r with
        | none => rw [hX.2.2.2 r hr hb, if_pos rfl]; simp
        | some b =>
          have hbg := hW.2.2 r b hr hb
          rw [hX.2.2.1 r b hr hb, if_neg (show ¬ nI (b + 1) = 0 from fun hh => by have := (li_eq 0 (x := nI (b + 1)) rfl (by omega) (by omega)).mp hh; omega)]; simp
      · rw [if_neg (show ¬ nI (kd n) = (11 : Int32) from fun hh => k11 ((nI_eq (b := 11) (by omega) (by omega)).mp hh))]
        simp [k11]
theorem rf_all (hW : WF_ g kd ga gb gc hg bo) (hX : RG_ σ g kd ga gb gc hg bo) : ∃ σ', f_R_fault σ = some (Fa_ g kd ga gb bo, σ') ∧ (∀ k, k ≠ 8 → k ≠ 10 → k ≠ 11 → σ' k = σ k) := by
  obtain ⟨s1, p1, x1, m1⟩ := ri_all hW hX
  have hX1 := rg_x hX x1 (by omega)
  obtain ⟨s2, p2, x2, m2⟩ := re_all hW hX1
  have hX2 := rg_x hX1 x2 (by omega)
  have hI2 : MK_ (s2 11) g (Ib_ g kd ga gb bo) := by rw [x2 11 (by omega)]; exact m1
  obtain ⟨s3, p3, x3⟩ := rf_3 hW 6 100 0 s2 (by omega) (by omega) hX2
  have e1 := rf_1 hW hX2 hI2 g 100 0 (by omega) (by have := hW.1; omega)
  have e2 := rf_2 hW hX2 hI2 m2 g 100 0 (by omega) (by have := hW.1; omega)
  have k12 : ∀ k, k ≠ 8 → k ≠ 10 → k ≠ 11 → s2 k = σ k := fun k h8 h10 h11 => (x2 k h8).trans (x1 k h11)
  have e0 : f_R_fault σ = f_R_fault_L10 100 s2 (nI 0) := by
    unfold f_R_fault
    rw [bd_s p1, bd_s p2]
    rfl
  rw [e0, e1, e2, p3]
  unfold Fa_
  cases ay_ (p1_ g kd ga gb bo) 0 g with
  | true => exact ⟨s2, by simp, k12⟩
  | false =>
    cases ay_ (p2_ g kd ga gb bo) 0 g with
    | true => exact ⟨s2, by simp, k12⟩
    | false => exact ⟨s3, by simp, fun k h8 h10 h11 => (x3 k h8 h10).trans (k12 k h8 h10 h11)⟩
end FAUL
