/-! the nodes in bodies, and what is wrong with a grammar -/
section INBO
def h1_ (k : Nat) : Bool := decide ((4 ≤ k ∧ k ≤ 10) ∨ k = 12)
def h2_ (k : Nat) : Bool := decide (k = 4 ∨ k = 5 ∨ k = 10)
def m1_ (kd : Nat → Nat) (ga : Nat → Int32) (n : Nat) (S : Nat → Bool) : Nat → Bool := if S n && h1_ (kd n) then va_up S (ga n).toNatClampNeg true else S
def m2_ (kd : Nat → Nat) (gb : Nat → Int32) (n : Nat) (S : Nat → Bool) : Nat → Bool := if S n && h2_ (kd n) then va_up S (gb n).toNatClampNeg true else S
/-- the parts of the nodes below n, from the last one down -/
def dn_ (kd : Nat → Nat) (ga gb : Nat → Int32) : Nat → (Nat → Bool) → (Nat → Bool)
  | 0, S => S
  | n + 1, S => dn_ kd ga gb n (m2_ kd gb n (m1_ kd ga n S))
def ub_ (bo : Nat → Option Nat) : Nat → (Nat → Bool)
  | 0 => fun _ => false
  | r + 1 => match bo r with | some b => va_up (ub_ bo r) b true | none => ub_ bo r
def Ib_ (g : Nat) (kd : Nat → Nat) (ga gb : Nat → Int32) (bo : Nat → Option Nat) : Nat → Bool := dn_ kd ga gb g (ub_ bo 6)
variable {σ : MZ_} {g : Nat} {kd : Nat → Nat} {ga gb gc : Nat → Int32} {hg : Nat → Nat} {bo : Nat → Option Nat} {E : Nat → Bool}
theorem m1_sub {n m : Nat} {S : Nat → Bool} (h : S m = true) : m1_ kd ga n S m = true := by
  unfold m1_
  split
  · by_cases e : m = (ga n).toNatClampNeg
    · rw [e, va_up_self]
    · rw [va_up_ne _ _ e]; exact h
  · exact h
theorem m2_sub {n m : Nat} {S : Nat → Bool} (h : S m = true) : m2_ kd gb n S m = true := by
  unfold m2_
  split
  · by_cases e : m = (gb n).toNatClampNeg
    · rw [e, va_up_self]
    · rw [va_up_ne _ _ e]; exact h
  · exact h
theorem dn_sub : ∀ (n : Nat) {m : Nat} {S : Nat → Bool}, S m = true → dn_ kd ga gb n S m = true := by
  intro n
  induction n with
  | zero => intro m S h; exact h
  | succ n ih => intro m S h; exact ih (m2_sub (m1_sub h))
theorem m_same (hW : WF_ g kd ga gb gc hg bo) {n m : Nat} (hn : n < g) (hm : n ≤ m) (S : Nat → Bool) : m2_ kd gb n (m1_ kd ga n S) m = S m := by
  have h1 : ∀ S : Nat → Bool, m1_ kd ga n S m = S m := fun S => by
    unfold m1_
    split
    · next q =>
      have : h1_ (kd n) = true := by simp at q; exact q.2
      obtain ⟨x, hx, ex, -⟩ := (hW.2.1 n hn).2.2.2.1 (of_decide_eq_true this)
      rw [ex, nI_clamp (by have := hW.1; omega), va_up_ne _ _ (by omega)]
    · rfl
  have h2 : ∀ S : Nat → Bool, m2_ kd gb n S m = S m := fun S => by
    unfold m2_
    split
    · next q =>
      have : h2_ (kd n) = true := by simp at q; exact q.2
      obtain ⟨x, hx, ex, -⟩ := (hW.2.1 n hn).2.2.2.2.1 (of_decide_eq_true this)
      rw [ex, nI_clamp (by have := hW.1; omega), va_up_ne _ _ (by omega)]
    · rfl
  rw [h2, h1]
theorem dn_same (hW : WF_ g kd ga gb gc hg bo) : ∀ (n : Nat) {m : Nat} (S : Nat → Bool), n ≤ g → n ≤ m → dn_ kd ga gb n S m = S m := by
  intro n
  induction n with
  | zero => intro m S _ _; rfl
  | succ n ih =>
    intro m S h1 h2
    show dn_ kd ga gb n _ m = _
    rw [ih _ (by omega) (by omega), m_same hW (by omega) (by omega)]
/-- what is in a body has its parts in it -/
theorem dn_parts (hW : WF_ g kd ga gb gc hg bo) : ∀ (k : Nat) {n : Nat} (S : Nat → Bool), k ≤ g → n < k → dn_ kd ga gb k S n = true → (h1_ (kd n) = true → dn_ kd ga gb k S (ga n).toNatClampNeg = true) ∧ (h2_ (kd n) = true → dn_ kd ga gb k S (gb n).toNatClampNeg = true) := by
  intro k
  induction k with
  | zero => intro n S _ h; omega
  | succ k ih =>
    intro n S hk hn h
    by_cases e : n = k
    · subst e
      have h' : dn_ kd ga gb n (m2_ kd gb n (m1_ kd ga n S)) n = true := h
      rw [dn_same hW n _ (by omega) (Nat.le_refl n), m_same hW (by omega) (Nat.le_refl n)] at h'
      refine ⟨fun q => ?_, fun q => ?_⟩
      · refine dn_sub n (m2_sub ?_)
        unfold m1_
        rw [if_pos (by rw [h', q]; rfl), va_up_self]
      · refine dn_sub n ?_
        unfold m2_
        rw [if_pos (by rw [m1_sub h', q]; rfl), va_up_self]
    · exact ih _ (by omega) (by omega) h
theorem ub_has : ∀ (k : Nat) {r b : Nat}, r < k → bo r = some b → ub_ bo k b = true := by
  intro k
  induction k with
  | zero => intro r b h; omega
  | succ k ih =>
    intro r b h hb
    unfold ub_
    by_cases e : r = k
    · subst e; rw [hb]; exact va_up_self _ _ _
    · cases hk : bo k with
      | none => exact ih (by omega) hb
      | some c =>
        show va_up (ub_ bo k) c true b = true
        by_cases e2 : b = c
        · rw [e2, va_up_self]
        · rw [va_up_ne _ _ e2]; exact ih (by omega) hb
theorem ub_lt (hW : WF_ g kd ga gb gc hg bo) : ∀ (k : Nat) {m : Nat}, k ≤ 6 → ub_ bo k m = true → m < g := by
  intro k
  induction k with
  | zero => intro m _ h; cases h
  | succ k ih =>
    intro m hk h
    unfold ub_ at h
    cases hb : bo k with
    | none => rw [hb] at h; exact ih (by omega) h
    | some c =>
      rw [hb] at h
      by_cases e2 : m = c
      · rw [e2]; exact hW.2.2 k c (by omega) hb
      · have h : va_up (ub_ bo k) c true m = true := h
        rw [va_up_ne _ _ e2] at h; exact ih (by omega) h
theorem dn_lt (hW : WF_ g kd ga gb gc hg bo) : ∀ (k : Nat) {m : Nat} (S : Nat → Bool), k ≤ g → (S m = true → m < g) → dn_ kd ga gb k S m = true → m < g := by
  intro k
  induction k with
  | zero => intro m S _ h q; exact h q
  | succ k ih =>
    intro m S hk h q
    by_cases e : m < g
    · exact e
    · rw [dn_same hW (k + 1) S hk (by omega)] at q; exact h q
theorem ib_lt (hW : WF_ g kd ga gb gc hg bo) {n : Nat} (h : Ib_ g kd ga gb bo n = true) : n < g := dn_lt hW g _ (Nat.le_refl g) (fun q => ub_lt hW 6 (Nat.le_refl 6) q) h
theorem ib_body {r b : Nat} (hr : r < 6) (hb : bo r = some b) : Ib_ g kd ga gb bo b = true := dn_sub g (ub_has 6 hr hb)
theorem ib_parts (hW : WF_ g kd ga gb gc hg bo) {n : Nat} (h : Ib_ g kd ga gb bo n = true) : (h1_ (kd n) = true → Ib_ g kd ga gb bo (ga n).toNatClampNeg = true) ∧ (h2_ (kd n) = true → Ib_ g kd ga gb bo (gb n).toNatClampNeg = true) := dn_parts hW g _ (Nat.le_refl g) (ib_lt hW h) h
/-! the class marks them -/
theorem xi_mark (hX : XG_ σ g kd ga gb gc hg bo) (hg80 : g ≤ 80) {S : Nat → Bool} (hM : MK_ (σ 11) g S) {n : Nat} (hn : n < g) : ∃ σ', f_Y_markInBodies σ (nI n) = some σ' ∧ Ox_ 11 σ σ' ∧ MK_ (σ' 11) g (va_up S n true) := by
  unfold f_Y_markInBodies
  rw [bd_s (xg_node hX hg80 hn), if_neg (by decide), gd_in (vp_in_nI (by omega) (by omega)), st_e, nI_clamp (by omega)]
  exact ⟨_, rfl, ox_u, by rw [va_up_self]; exact mk_put (b := true) hM⟩
theorem xi_no : f_Y_markInBodies σ (-1) = some σ := by
  unfold f_Y_markInBodies
  rw [bd_s (xg_no (-1) (by decide)), if_pos rfl]
theorem nI_dn (n : Nat) : nI (n + 1) + (-1) = nI n := by
  rw [← nI_1]
  have : nI n + 1 + -1 = nI n + (1 + -1) := Int32.add_assoc _ _ _
  rw [this]
  exact Int32.add_zero _
theorem xi_1 (hW : WF_ g kd ga gb gc hg bo) : ∀ (n N : Nat) (S : Nat → Bool) (σ : MZ_), n ≤ g → n < N → XG_ σ g kd ga gb gc hg bo → MK_ (σ 11) g S → ∃ σ', f_Y_findNodesInBodies_L44 N σ (nI n - 1) = some σ' ∧ Ox_ 11 σ σ' ∧ MK_ (σ' 11) g (dn_ kd ga gb n S) := by
  have hg80 := hW.1
  intro n
  induction n with
  | zero =>
    intro N S σ h1 h2 hX hM
    obtain ⟨N, rfl⟩ : ∃ M, N = M + 1 := ⟨N - 1, by omega⟩
    rw [f_Y_findNodesInBodies_L44, if_pos (by decide)]
    exact ⟨σ, rfl, ox_r, hM⟩
  | succ n ih =>
    intro N S σ h1 h2 hX hM
    obtain ⟨N, rfl⟩ : ∃ M, N = M + 1 := ⟨N - 1, by omega⟩
    have hn : n < g := by omega
    have hin : vp_in (nI n) 80 := vp_in_nI (by omega) (by omega)
    have hcl : (nI n).toNatClampNeg = n := nI_clamp (by omega)
    have e1 : nI n + (-1) = nI n - 1 := (Int32.sub_eq_add_neg _ _).symm
    rw [nI_pred, f_Y_findNodesInBodies_L44, if_neg (nI_pos (by omega)), gd_in hin, hcl, hM n hn, e1]
    show ∃ σ' : MZ_, _ ∧ _ ∧ MK_ (σ' 11) g (dn_ kd ga gb n (m2_ kd gb n (m1_ kd ga n S)))
    cases hS : S n with
    | false =>
      have e2 : m2_ kd gb n (m1_ kd ga n S) = S := by
        have q1 : m1_ kd ga n S = S := by unfold m1_; rw [hS]; rfl
        rw [q1]; unfold m2_; rw [hS]; rfl
      rw [e2, if_pos (by decide), if_pos (by decide), if_pos (by decide)]
      exact ih N S σ (by omega) (by omega) hX hM
    | true =>
      obtain ⟨ea, eb, -, ek⟩ := xg_a hX hg80 hn
      obtain ⟨g1, -, -, g4, g5, -⟩ := hW.2.1 n hn
      rw [if_neg (by decide), bd_s ek]
      have z0 : h1_ (kd n) = false → h2_ (kd n) = false → ∃ σ', f_Y_findNodesInBodies_L44 N σ (nI n - 1) = some σ' ∧ Ox_ 11 σ σ' ∧ MK_ (σ' 11) g (dn_ kd ga gb n (m2_ kd gb n (m1_ kd ga n S))) := by
        intro q1 q2
        have e2 : m2_ kd gb n (m1_ kd ga n S) = S := by
          have q1 : m1_ kd ga n S = S := by unfold m1_; rw [q1]; simp
          rw [q1]; unfold m2_; rw [q2]; simp
        rw [e2]
        exact ih N S σ (by omega) (by omega) hX hM
      have z1 : h1_ (kd n) = true → h2_ (kd n) = false → ∃ σ', ((f_G_a σ (nI n)).bind fun r14 => (f_Y_markInBodies σ r14).bind fun u15 => f_Y_findNodesInBodies_L44 N u15 (nI n - 1)) = some σ' ∧ Ox_ 11 σ σ' ∧ MK_ (σ' 11) g (dn_ kd ga gb n (m2_ kd gb n (m1_ kd ga n S))) := by
        intro q1 q2
        obtain ⟨x, hx, ex, -⟩ := g4 (of_decide_eq_true q1)
        have e2 : m2_ kd gb n (m1_ kd ga n S) = va_up S x true := by
          have q3 : m1_ kd ga n S = va_up S x true := by unfold m1_; rw [q1, hS, ex, nI_clamp (by omega)]; rfl
          rw [q3]; unfold m2_; rw [q2]; simp
        rw [e2, bd_s ea, ex]
        obtain ⟨s1, p1, x1, n1⟩ := xi_mark hX hg80 hM (show x < g by omega)
        rw [bd_s p1]
        obtain ⟨s2, p2, x2, n2⟩ := ih N _ s1 (by omega) (by omega) (xg_x hX x1 (by omega)) n1
        exact ⟨s2, p2, ox_t x1 x2, n2⟩
      have z2 : h1_ (kd n) = true → h2_ (kd n) = true → ∃ σ', ((f_G_a σ (nI n)).bind fun r14 => (f_Y_markInBodies σ r14).bind fun u15 => (f_G_b u15 (nI n)).bind fun r16 => (f_Y_markInBodies u15 r16).bind fun u17 => f_Y_findNodesInBodies_L44 N u17 (nI n - 1)) = some σ' ∧ Ox_ 11 σ σ' ∧ MK_ (σ' 11) g (dn_ kd ga gb n (m2_ kd gb n (m1_ kd ga n S))) := by
        intro q1 q2
        obtain ⟨x, hx, ex, -⟩ := g4 (of_decide_eq_true q1)
        obtain ⟨y, hy, ey, -⟩ := g5 (of_decide_eq_true q2)
        have e2 : m2_ kd gb n (m1_ kd ga n S) = va_up (va_up S x true) y true := by
          have q3 : m1_ kd ga n S = va_up S x true := by unfold m1_; rw [q1, hS, ex, nI_clamp (by omega)]; rfl
          rw [q3]; unfold m2_
          rw [q2, va_up_ne _ _ (show n ≠ x by omega), hS, ey, nI_clamp (by omega)]; rfl
        rw [e2, bd_s ea, ex]
        obtain ⟨s1, p1, x1, n1⟩ := xi_mark hX hg80 hM (show x < g by omega)
        have hX1 := xg_x hX x1 (by omega)
        rw [bd_s p1, bd_s (xg_a hX1 hg80 hn).2.1, ey]
        obtain ⟨s2, p2, x2, n2⟩ := xi_mark hX1 hg80 n1 (show y < g by omega)
        rw [bd_s p2]
        obtain ⟨s3, p3, x3, n3⟩ := ih N _ s2 (by omega) (by omega) (xg_x hX1 x2 (by omega)) n2
        exact ⟨s3, p3, ox_t x1 (ox_t x2 x3), n3⟩
      by_cases k0 : kd n = 0
      · rw [k0, gd_in (show vp_in (nI 0) 14 from vp_in_nI (by omega) (by omega))]
        rw [k0] at z0 z1 z2
        rw [if_pos (by decide), if_pos (by decide)]
        exact z0 rfl rfl
      by_cases k1 : kd n = 1
      · rw [k1, gd_in (show vp_in (nI 1) 14 from vp_in_nI (by omega) (by omega))]
        rw [k1] at z0 z1 z2
        rw [if_pos (by decide), if_pos (by decide)]
        exact z0 rfl rfl
      by_cases k2 : kd n = 2
      · rw [k2, gd_in (show vp_in (nI 2) 14 from vp_in_nI (by omega) (by omega))]
        rw [k2] at z0 z1 z2
        rw [if_pos (by decide), if_pos (by decide)]
        exact z0 rfl rfl
      by_cases k3 : kd n = 3
      · rw [k3, gd_in (show vp_in (nI 3) 14 from vp_in_nI (by omega) (by omega))]
        rw [k3] at z0 z1 z2
        rw [if_pos (by decide), if_pos (by decide)]
        exact z0 rfl rfl
      by_cases k4 : kd n = 4
      · rw [k4, gd_in (show vp_in (nI 4) 14 from vp_in_nI (by omega) (by omega))]
        rw [k4] at z0 z1 z2
        rw [if_neg (by decide)]
        simp only [if_neg (show ¬ PT_ (nI 4).toNatClampNeg < 2 by decide)]
        exact z2 rfl rfl
      by_cases k5 : kd n = 5
      · rw [k5, gd_in (show vp_in (nI 5) 14 from vp_in_nI (by omega) (by omega))]
        rw [k5] at z0 z1 z2
        rw [if_neg (by decide)]
        simp only [if_neg (show ¬ PT_ (nI 5).toNatClampNeg < 2 by decide)]
        exact z2 rfl rfl
      by_cases k6 : kd n = 6
      · rw [k6, gd_in (show vp_in (nI 6) 14 from vp_in_nI (by omega) (by omega))]
        rw [k6] at z0 z1 z2
        rw [if_neg (by decide)]
        simp only [if_pos (show PT_ (nI 6).toNatClampNeg < 2 by decide)]
        exact z1 rfl rfl
      by_cases k7 : kd n = 7
      · rw [k7, gd_in (show vp_in (nI 7) 14 from vp_in_nI (by omega) (by omega))]
        rw [k7] at z0 z1 z2
        rw [if_neg (by decide)]
        simp only [if_pos (show PT_ (nI 7).toNatClampNeg < 2 by decide)]
        exact z1 rfl rfl
      by_cases k8 : kd n = 8
      · rw [k8, gd_in (show vp_in (nI 8) 14 from vp_in_nI (by omega) (by omega))]
        rw [k8] at z0 z1 z2
        rw [if_neg (by decide)]
        simp only [if_pos (show PT_ (nI 8).toNatClampNeg < 2 by decide)]
        exact z1 rfl rfl
      by_cases k9 : kd n = 9
      · rw [k9, gd_in (show vp_in (nI 9) 14 from vp_in_nI (by omega) (by omega))]
        rw [k9] at z0 z1 z2
        rw [if_neg (by decide)]
        simp only [if_pos (show PT_ (nI 9).toNatClampNeg < 2 by decide)]
        exact z1 rfl rfl
      by_cases k10 : kd n = 10
      · rw [k10, gd_in (show vp_in (nI 10) 14 from vp_in_nI (by omega) (by omega))]
        rw [k10] at z0 z1 z2
        rw [if_neg (by decide)]
        simp only [if_neg (show ¬ PT_ (nI 10).toNatClampNeg < 2 by decide)]
        exact z2 rfl rfl
      by_cases k11 : kd n = 11
      · rw [k11, gd_in (show vp_in (nI 11) 14 from vp_in_nI (by omega) (by omega))]
        rw [k11] at z0 z1 z2
        rw [if_pos (by decide), if_pos (by decide)]
        exact z0 rfl rfl
      by_cases k12 : kd n = 12
      · rw [k12, gd_in (show vp_in (nI 12) 14 from vp_in_nI (by omega) (by omega))]
        rw [k12] at z0 z1 z2
        rw [if_neg (by decide)]
        simp only [if_pos (show PT_ (nI 12).toNatClampNeg < 2 by decide)]
        exact z1 rfl rfl
      by_cases k13 : kd n = 13
      · rw [k13, gd_in (show vp_in (nI 13) 14 from vp_in_nI (by omega) (by omega))]
        rw [k13] at z0 z1 z2
        rw [if_pos (by decide), if_pos (by decide)]
        exact z0 rfl rfl
      omega
theorem xi_2 (hW : WF_ g kd ga gb gc hg bo) : ∀ (j N r : Nat) (σ : MZ_), r + j = 6 → j < N → XG_ σ g kd ga gb gc hg bo → MK_ (σ 11) g (ub_ bo r) → ∃ σ', f_Y_findNodesInBodies_L10 N σ (nI r) = some σ' ∧ Ox_ 11 σ σ' ∧ MK_ (σ' 11) g (Ib_ g kd ga gb bo) := by
  have hg80 := hW.1
  intro j
  induction j with
  | zero =>
    intro N r σ h1 h2 hX hM
    obtain ⟨N, rfl⟩ : ∃ M, N = M + 1 := ⟨N - 1, by omega⟩
    have e : r = 6 := by omega
    subst e
    rw [f_Y_findNodesInBodies_L10, if_pos (by decide), bd_s (show f_G_size σ = some (nI g) by unfold f_G_size; rw [hX.1])]
    exact xi_1 hW g 100 (ub_ bo 6) σ (Nat.le_refl g) (by omega) hX hM
  | succ j ih =>
    intro N r σ h1 h2 hX hM
    obtain ⟨N, rfl⟩ : ∃ M, N = M + 1 := ⟨N - 1, by omega⟩
    have e := xg_body hX (show r < 6 by omega)
    rw [f_Y_findNodesInBodies_L10, if_neg (show ¬ (6 : Int32) ≤ nI r from fun hh => by have := (le_c (N := 6) (by omega) (by omega)).mp hh; omega), nI_1]
    cases hb : bo r with
    | none =>
      rw [hb] at e
      rw [bd_s e, bd_s xi_no]
      refine ih N (r + 1) σ (by omega) (by omega) hX ?_
      have : ub_ bo (r + 1) = ub_ bo r := by
        show (match bo r with | some b => va_up (ub_ bo r) b true | none => ub_ bo r) = _
        rw [hb]
      rw [this]; exact hM
    | some b =>
      rw [hb] at e
      have hbg := hW.2.2 r b (by omega) hb
      obtain ⟨s1, p1, x1, n1⟩ := xi_mark hX hg80 hM hbg
      have e' : f_G_body σ (nI r) = some (nI b) := e
      rw [bd_s e', bd_s p1]
      obtain ⟨s2, p2, x2, n2⟩ := ih N (r + 1) s1 (by omega) (by omega) (xg_x hX x1 (by omega)) (by
        have : ub_ bo (r + 1) = va_up (ub_ bo r) b true := by
          show (match bo r with | some b => va_up (ub_ bo r) b true | none => ub_ bo r) = _
          rw [hb]
        rw [this]; exact n1)
      exact ⟨s2, p2, ox_t x1 x2, n2⟩
theorem xi_all (hW : WF_ g kd ga gb gc hg bo) (hX : XG_ σ g kd ga gb gc hg bo) : ∃ σ', f_Y_findNodesInBodies σ = some σ' ∧ Ox_ 11 σ σ' ∧ MK_ (σ' 11) g (Ib_ g kd ga gb bo) := by
  obtain ⟨s1, p1, x1, m1⟩ := un_11 (g := g) σ hW.1
  obtain ⟨s2, p2, x2, m2⟩ := xi_2 hW 6 100 0 s1 (by omega) (by omega) (xg_x hX x1 (by omega)) m1
  exact ⟨s2, by unfold f_Y_findNodesInBodies; rw [bd_s p1]; exact p2, ox_t x1 x2, m2⟩
end INBO
