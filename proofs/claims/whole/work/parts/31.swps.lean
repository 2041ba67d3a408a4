/-! the sweeps of both systems reach the same marks -/
section SWPS
def Ox_ (c : Nat) (σ σ' : MZ_) : Prop := ∀ k, k ≠ c → σ' k = σ k
theorem ox_t {c : Nat} {a b d : MZ_} (h1 : Ox_ c a b) (h2 : Ox_ c b d) : Ox_ c a d := fun k hk => (h2 k hk).trans (h1 k hk)
theorem ox_r {c : Nat} {a : MZ_} : Ox_ c a a := fun _ _ => rfl
theorem ox_u {c : Nat} {a : MZ_} {f : Nat → Int32} : Ox_ c a (va_up a c f) := fun _ hk => va_up_ne _ _ hk
variable {σ : MZ_} {g : Nat} {kd : Nat → Nat} {ga gb gc : Nat → Int32} {hg : Nat → Nat} {bo : Nat → Option Nat}
theorem xg_x {c : Nat} {σ' : MZ_} (h : XG_ σ g kd ga gb gc hg bo) (hx : Ox_ c σ σ') (hc : ¬ (c = 31 ∨ (2 ≤ c ∧ c ≤ 7))) : XG_ σ' g kd ga gb gc hg bo := by
  unfold XG_
  rw [hx 31 (by omega), hx 2 (by omega), hx 3 (by omega), hx 4 (by omega), hx 5 (by omega), hx 6 (by omega), hx 7 (by omega)]
  exact h
theorem rg_x {c : Nat} {σ' : MZ_} (h : RG_ σ g kd ga gb gc hg bo) (hx : Ox_ c σ σ') (hc : ¬ (c = 31 ∨ (1 ≤ c ∧ c ≤ 6))) : RG_ σ' g kd ga gb gc hg bo := by
  unfold RG_
  rw [hx 31 (by omega), hx 1 (by omega), hx 2 (by omega), hx 3 (by omega), hx 4 (by omega), hx 5 (by omega), hx 6 (by omega)]
  exact h
theorem mk_put {f : Nat → Int32} {S : Nat → Bool} {n : Nat} {b : Bool} (h : MK_ f g S) : MK_ (upd f n (bI b)) g (va_up S n b) := by
  intro m hm
  by_cases e : m = n
  · subst e; rw [pk_us, va_up_self]
  · rw [pk_un e, va_up_ne _ _ e]; exact h m hm
/-! the rules of the marks are monotone, and look only at earlier nodes and at bodies -/
theorem fe_mono (S S' : Nat → Bool) (h : ∀ m, S m = true → S' m = true) (n : Nat) (hf : fE_ kd ga gb bo S n = true) : fE_ kd ga gb bo S' n = true := by
  unfold fE_ sb_ at *
  by_cases k0 : kd n = 0
  · rw [if_pos k0]
  rw [if_neg k0] at hf ⊢
  by_cases k4 : kd n = 4
  · rw [if_pos k4] at hf ⊢
    rw [Bool.and_eq_true] at hf ⊢
    exact ⟨h _ hf.1, h _ hf.2⟩
  rw [if_neg k4] at hf ⊢
  by_cases k5 : kd n = 5
  · rw [if_pos k5] at hf ⊢
    rw [Bool.or_eq_true] at hf ⊢
    exact hf.imp (h _) (h _)
  rw [if_neg k5] at hf ⊢
  by_cases k7 : kd n = 7 ∨ kd n = 8 ∨ kd n = 9 ∨ kd n = 13
  · rw [if_pos k7]
  rw [if_neg k7] at hf ⊢
  by_cases k6 : kd n = 6 ∨ kd n = 10 ∨ kd n = 12
  · rw [if_pos k6] at hf ⊢; exact h _ hf
  rw [if_neg k6] at hf ⊢
  by_cases k11 : kd n = 11
  · rw [if_pos k11] at hf ⊢
    cases hb : bo (ga n).toNatClampNeg with
    | none => rw [hb] at hf; cases hf
    | some b => rw [hb] at hf; exact h _ hf
  rw [if_neg k11] at hf
  cases hf
theorem fb_mono {E : Nat → Bool} {c : Int32} (S S' : Nat → Bool) (h : ∀ m, S m = true → S' m = true) (n : Nat) (hf : fB_ kd ga gb bo E c S n = true) : fB_ kd ga gb bo E c S' n = true := by
  unfold fB_ sb_ at *
  by_cases k1 : kd n = 1
  · rw [if_pos k1] at hf ⊢; exact hf
  rw [if_neg k1] at hf ⊢
  by_cases k2 : kd n = 2
  · rw [if_pos k2] at hf ⊢; exact hf
  rw [if_neg k2] at hf ⊢
  by_cases k4 : kd n = 4 ∨ kd n = 10
  · rw [if_pos k4] at hf ⊢
    rw [Bool.or_eq_true, Bool.and_eq_true] at hf ⊢
    exact hf.imp (h _) (fun q => ⟨q.1, h _ q.2⟩)
  rw [if_neg k4] at hf ⊢
  by_cases k5 : kd n = 5
  · rw [if_pos k5] at hf ⊢
    rw [Bool.or_eq_true] at hf ⊢
    exact hf.imp (h _) (h _)
  rw [if_neg k5] at hf ⊢
  by_cases k6 : kd n = 6 ∨ kd n = 9 ∨ kd n = 12
  · rw [if_pos k6] at hf ⊢; exact h _ hf
  rw [if_neg k6] at hf ⊢
  by_cases k11 : kd n = 11
  · rw [if_pos k11] at hf ⊢
    cases hb : bo (ga n).toNatClampNeg with
    | none => rw [hb] at hf; cases hf
    | some b => rw [hb] at hf; exact h _ hf
  rw [if_neg k11] at hf
  cases hf
theorem wf_x (hW : WF_ g kd ga gb gc hg bo) {n : Nat} (hn : n < g) (S S' : Nat → Bool) (h : ∀ m, m < n → S m = S' m) (hk : (4 ≤ kd n ∧ kd n ≤ 10) ∨ kd n = 12) : S (ga n).toNatClampNeg = S' (ga n).toNatClampNeg := by
  obtain ⟨x, hx, ex, -⟩ := (hW.2.1 n hn).2.2.2.1 hk
  rw [ex, nI_clamp (by have := hW.1; omega)]
  exact h x hx
theorem wf_y (hW : WF_ g kd ga gb gc hg bo) {n : Nat} (hn : n < g) (S S' : Nat → Bool) (h : ∀ m, m < n → S m = S' m) (hk : kd n = 4 ∨ kd n = 5 ∨ kd n = 10) : S (gb n).toNatClampNeg = S' (gb n).toNatClampNeg := by
  obtain ⟨x, hx, ex, -⟩ := (hW.2.1 n hn).2.2.2.2.1 hk
  rw [ex, nI_clamp (by have := hW.1; omega)]
  exact h x hx
theorem wf_b (hW : WF_ g kd ga gb gc hg bo) {n : Nat} (hn : n < g) (S S' : Nat → Bool) (h : ∀ r b, r < 6 → bo r = some b → S b = S' b) (hk : kd n = 11) : sb_ bo S (ga n).toNatClampNeg = sb_ bo S' (ga n).toNatClampNeg := by
  obtain ⟨x, hx, ex⟩ := (hW.2.1 n hn).2.2.2.2.2.2.2.1 hk
  rw [ex, nI_clamp (by omega)]
  unfold sb_
  cases hb : bo x with
  | none => rfl
  | some b => exact h x b hx hb
theorem fe_loc (hW : WF_ g kd ga gb gc hg bo) (S S' : Nat → Bool) (n : Nat) (hn : n < g) (h : ∀ m, m < n → S m = S' m) (hb : ∀ r b, r < 6 → bo r = some b → S b = S' b) : fE_ kd ga gb bo S n = fE_ kd ga gb bo S' n := by
  unfold fE_
  by_cases k0 : kd n = 0
  · rw [if_pos k0, if_pos k0]
  rw [if_neg k0, if_neg k0]
  by_cases k4 : kd n = 4
  · rw [if_pos k4, if_pos k4, wf_x hW hn S S' h (by omega), wf_y hW hn S S' h (by omega)]
  rw [if_neg k4, if_neg k4]
  by_cases k5 : kd n = 5
  · rw [if_pos k5, if_pos k5, wf_x hW hn S S' h (by omega), wf_y hW hn S S' h (by omega)]
  rw [if_neg k5, if_neg k5]
  by_cases k7 : kd n = 7 ∨ kd n = 8 ∨ kd n = 9 ∨ kd n = 13
  · rw [if_pos k7, if_pos k7]
  rw [if_neg k7, if_neg k7]
  by_cases k6 : kd n = 6 ∨ kd n = 10 ∨ kd n = 12
  · rw [if_pos k6, if_pos k6, wf_x hW hn S S' h (by omega)]
  rw [if_neg k6, if_neg k6]
  by_cases k11 : kd n = 11
  · rw [if_pos k11, if_pos k11, wf_b hW hn S S' hb k11]
  rw [if_neg k11, if_neg k11]
theorem fb_loc {E : Nat → Bool} {c : Int32} (hW : WF_ g kd ga gb gc hg bo) (S S' : Nat → Bool) (n : Nat) (hn : n < g) (h : ∀ m, m < n → S m = S' m) (hb : ∀ r b, r < 6 → bo r = some b → S b = S' b) : fB_ kd ga gb bo E c S n = fB_ kd ga gb bo E c S' n := by
  unfold fB_
  by_cases k1 : kd n = 1
  · rw [if_pos k1, if_pos k1]
  rw [if_neg k1, if_neg k1]
  by_cases k2 : kd n = 2
  · rw [if_pos k2, if_pos k2]
  rw [if_neg k2, if_neg k2]
  by_cases k4 : kd n = 4 ∨ kd n = 10
  · rw [if_pos k4, if_pos k4, wf_x hW hn S S' h (by omega), wf_y hW hn S S' h (by omega)]
  rw [if_neg k4, if_neg k4]
  by_cases k5 : kd n = 5
  · rw [if_pos k5, if_pos k5, wf_x hW hn S S' h (by omega), wf_y hW hn S S' h (by omega)]
  rw [if_neg k5, if_neg k5]
  by_cases k6 : kd n = 6 ∨ kd n = 9 ∨ kd n = 12
  · rw [if_pos k6, if_pos k6, wf_x hW hn S S' h (by omega)]
  rw [if_neg k6, if_neg k6]
  by_cases k11 : kd n = 11
  · rw [if_pos k11, if_pos k11, wf_b hW hn S S' hb k11]
  rw [if_neg k11, if_neg k11]
def Em_ (g : Nat) (kd : Nat → Nat) (ga gb : Nat → Int32) (bo : Nat → Option Nat) : Nat → Bool := sw_it (fE_ kd ga gb bo) g 7
def Bg_ (g : Nat) (kd : Nat → Nat) (ga gb : Nat → Int32) (bo : Nat → Option Nat) (c : Int32) : Nat → Bool := sw_it (fB_ kd ga gb bo (Em_ g kd ga gb bo) c) g 7
theorem em_fix (hW : WF_ g kd ga gb gc hg bo) : ∀ m, sw_it (fE_ kd ga gb bo) g 8 m = sw_it (fE_ kd ga gb bo) g 7 m := sw_seven bo (fun S S' h n hf => fe_mono S S' h n hf) (fun S S' n hn h hb => fe_loc hW S S' n hn h hb)
theorem bg_fix {c : Int32} {E : Nat → Bool} (hW : WF_ g kd ga gb gc hg bo) : ∀ m, sw_it (fB_ kd ga gb bo E c) g 8 m = sw_it (fB_ kd ga gb bo E c) g 7 m := sw_seven bo (fun S S' h n hf => fb_mono S S' h n hf) (fun S S' n hn h hb => fb_loc hW S S' n hn h hb)
theorem em_one (hW : WF_ g kd ga gb gc hg bo) {n : Nat} (hn : n < g) : Em_ g kd ga gb bo n = fE_ kd ga gb bo (Em_ g kd ga gb bo) n := sw_fix (fun m => em_fix hW m) hn
theorem le_c {n N : Nat} (hn : n < 2 ^ 31) (hN : N < 2 ^ 31) : nI N ≤ nI n ↔ N ≤ n := nI_leI hN hn
theorem un_9L : ∀ (j N n : Nat) (σ : MZ_), n + j = 80 → j < N → (∀ m, m < n → σ 9 m = 0) → ∃ σ', f_Y_unmark_9_L2 N σ (nI n) = some σ' ∧ Ox_ 9 σ σ' ∧ ∀ m, m < 80 → σ' 9 m = 0 := by
  intro j
  induction j with
  | zero =>
    intro N n σ h1 h2 h3
    obtain ⟨N, rfl⟩ : ∃ M, N = M + 1 := ⟨N - 1, by omega⟩
    rw [f_Y_unmark_9_L2, if_pos (show (80 : Int32) ≤ nI n from (le_c (N := 80) (by omega) (by omega)).mpr (by omega))]
    exact ⟨σ, rfl, ox_r, fun m hm => h3 m (by omega)⟩
  | succ j ih =>
    intro N n σ h1 h2 h3
    obtain ⟨N, rfl⟩ : ∃ M, N = M + 1 := ⟨N - 1, by omega⟩
    rw [f_Y_unmark_9_L2, if_neg (show ¬ (80 : Int32) ≤ nI n from fun hh => by have := (le_c (N := 80) (by omega) (by omega)).mp hh; omega), gd_in (vp_in_nI (by omega) (by omega)), st_e, nI_clamp (by omega), nI_1]
    obtain ⟨σ', p, hx, hz⟩ := ih N (n + 1) (va_up σ 9 (upd (σ 9) n (vp_nar .boolean 0))) (by omega) (by omega) (by
      intro m hm
      rw [va_up_self]
      by_cases e : m = n
      · subst e; rw [pk_us]; rfl
      · rw [pk_un e]; exact h3 m (by omega))
    exact ⟨σ', p, ox_t ox_u hx, hz⟩
theorem un_9 (σ : MZ_) (hg80 : g ≤ 80) : ∃ σ', f_Y_unmark_9 σ = some σ' ∧ Ox_ 9 σ σ' ∧ MK_ (σ' 9) g (fun _ => false) := by
  obtain ⟨σ', p, hx, hz⟩ := un_9L 80 100 0 σ (by omega) (by omega) (by omega)
  exact ⟨σ', p, hx, fun m hm => hz m (by omega)⟩
theorem un_10L : ∀ (j N n : Nat) (σ : MZ_), n + j = 80 → j < N → (∀ m, m < n → σ 10 m = 0) → ∃ σ', f_Y_unmark_10_L2 N σ (nI n) = some σ' ∧ Ox_ 10 σ σ' ∧ ∀ m, m < 80 → σ' 10 m = 0 := by
  intro j
  induction j with
  | zero =>
    intro N n σ h1 h2 h3
    obtain ⟨N, rfl⟩ : ∃ M, N = M + 1 := ⟨N - 1, by omega⟩
    rw [f_Y_unmark_10_L2, if_pos (show (80 : Int32) ≤ nI n from (le_c (N := 80) (by omega) (by omega)).mpr (by omega))]
    exact ⟨σ, rfl, ox_r, fun m hm => h3 m (by omega)⟩
  | succ j ih =>
    intro N n σ h1 h2 h3
    obtain ⟨N, rfl⟩ : ∃ M, N = M + 1 := ⟨N - 1, by omega⟩
    rw [f_Y_unmark_10_L2, if_neg (show ¬ (80 : Int32) ≤ nI n from fun hh => by have := (le_c (N := 80) (by omega) (by omega)).mp hh; omega), gd_in (vp_in_nI (by omega) (by omega)), st_e, nI_clamp (by omega), nI_1]
    obtain ⟨σ', p, hx, hz⟩ := ih N (n + 1) (va_up σ 10 (upd (σ 10) n (vp_nar .boolean 0))) (by omega) (by omega) (by
      intro m hm
      rw [va_up_self]
      by_cases e : m = n
      · subst e; rw [pk_us]; rfl
      · rw [pk_un e]; exact h3 m (by omega))
    exact ⟨σ', p, ox_t ox_u hx, hz⟩
theorem un_10 (σ : MZ_) (hg80 : g ≤ 80) : ∃ σ', f_Y_unmark_10 σ = some σ' ∧ Ox_ 10 σ σ' ∧ MK_ (σ' 10) g (fun _ => false) := by
  obtain ⟨σ', p, hx, hz⟩ := un_10L 80 100 0 σ (by omega) (by omega) (by omega)
  exact ⟨σ', p, hx, fun m hm => hz m (by omega)⟩
theorem un_11L : ∀ (j N n : Nat) (σ : MZ_), n + j = 80 → j < N → (∀ m, m < n → σ 11 m = 0) → ∃ σ', f_Y_unmark_11_L2 N σ (nI n) = some σ' ∧ Ox_ 11 σ σ' ∧ ∀ m, m < 80 → σ' 11 m = 0 := by
  intro j
  induction j with
  | zero =>
    intro N n σ h1 h2 h3
    obtain ⟨N, rfl⟩ : ∃ M, N = M + 1 := ⟨N - 1, by omega⟩
    rw [f_Y_unmark_11_L2, if_pos (show (80 : Int32) ≤ nI n from (le_c (N := 80) (by omega) (by omega)).mpr (by omega))]
    exact ⟨σ, rfl, ox_r, fun m hm => h3 m (by omega)⟩
  | succ j ih =>
    intro N n σ h1 h2 h3
    obtain ⟨N, rfl⟩ : ∃ M, N = M + 1 := ⟨N - 1, by omega⟩
    rw [f_Y_unmark_11_L2, if_neg (show ¬ (80 : Int32) ≤ nI n from fun hh => by have := (le_c (N := 80) (by omega) (by omega)).mp hh; omega), gd_in (vp_in_nI (by omega) (by omega)), st_e, nI_clamp (by omega), nI_1]
    obtain ⟨σ', p, hx, hz⟩ := ih N (n + 1) (va_up σ 11 (upd (σ 11) n (vp_nar .boolean 0))) (by omega) (by omega) (by
      intro m hm
      rw [va_up_self]
      by_cases e : m = n
      · subst e; rw [pk_us]; rfl
      · rw [pk_un e]; exact h3 m (by omega))
    exact ⟨σ', p, ox_t ox_u hx, hz⟩
theorem un_11 (σ : MZ_) (hg80 : g ≤ 80) : ∃ σ', f_Y_unmark_11 σ = some σ' ∧ Ox_ 11 σ σ' ∧ MK_ (σ' 11) g (fun _ => false) := by
  obtain ⟨σ', p, hx, hz⟩ := un_11L 80 100 0 σ (by omega) (by omega) (by omega)
  exact ⟨σ', p, hx, fun m hm => hz m (by omega)⟩
theorem xe_sw (hW : WF_ g kd ga gb gc hg bo) (k : MZ_ → Int32 → Option MZ_) (S : Nat → Bool) (x : Int32) : ∀ (j N n : Nat) (σ : MZ_), n + j = g → j < N → XG_ σ g kd ga gb gc hg bo → MK_ (σ 9) g (sw_ (fE_ kd ga gb bo) n S) → ∃ σ', f_Y_findEmptyNodes_L18 k N σ x (nI n) = k σ' (x + 1) ∧ Ox_ 9 σ σ' ∧ MK_ (σ' 9) g (sw_ (fE_ kd ga gb bo) g S) := by
  have hg80 := hW.1
  intro j
  induction j with
  | zero =>
    intro N n σ h1 h2 hX hM
    obtain ⟨N, rfl⟩ : ∃ M, N = M + 1 := ⟨N - 1, by omega⟩
    have e : n = g := by omega
    subst e
    rw [f_Y_findEmptyNodes_L18, bd_s (show f_G_size σ = some (nI n) by unfold f_G_size; rw [hX.1]), if_pos ((le_c (by omega) (by omega)).mpr (Nat.le_refl _))]
    exact ⟨σ, rfl, ox_r, hM⟩
  | succ j ih =>
    intro N n σ h1 h2 hX hM
    obtain ⟨N, rfl⟩ : ∃ M, N = M + 1 := ⟨N - 1, by omega⟩
    rw [f_Y_findEmptyNodes_L18, bd_s (show f_G_size σ = some (nI g) by unfold f_G_size; rw [hX.1]), if_neg (fun hh => by have := (le_c (by omega) (by omega)).mp hh; omega), bd_s (xe_now hX hW hM (show n < g by omega)), gd_in (vp_in_nI (by omega) (by omega)), st_e, nI_clamp (by omega), nI_1, bI_n]
    obtain ⟨σ', p, hx, hz⟩ := ih N (n + 1) (va_up σ 9 (upd (σ 9) n (bI ((fE_ kd ga gb bo) (sw_ (fE_ kd ga gb bo) n S) n)))) (by omega) (by omega) (xg_x hX ox_u (by omega)) (by rw [va_up_self]; exact mk_put hM)
    exact ⟨σ', p, ox_t ox_u hx, hz⟩
theorem xe_it (hW : WF_ g kd ga gb gc hg bo) : ∀ (j N i : Nat) (σ : MZ_), i + j = 7 → j < N → XG_ σ g kd ga gb gc hg bo → MK_ (σ 9) g (sw_it (fE_ kd ga gb bo) g i) → ∃ σ', f_Y_findEmptyNodes_L10 N σ (nI i) = some σ' ∧ Ox_ 9 σ σ' ∧ MK_ (σ' 9) g (sw_it (fE_ kd ga gb bo) g 7) := by
  have hg80 := hW.1
  intro j
  induction j with
  | zero =>
    intro N i σ h1 h2 hX hM
    obtain ⟨N, rfl⟩ : ∃ M, N = M + 1 := ⟨N - 1, by omega⟩
    have e : i = 7 := by omega
    subst e
    rw [f_Y_findEmptyNodes_L10, if_pos (by decide)]
    exact ⟨σ, rfl, ox_r, hM⟩
  | succ j ih =>
    intro N i σ h1 h2 hX hM
    obtain ⟨N, rfl⟩ : ∃ M, N = M + 1 := ⟨N - 1, by omega⟩
    rw [f_Y_findEmptyNodes_L10, if_neg (show ¬ (6 : Int32) < nI i from fun hh => by have := (nI_ltI (a := 6) (b := i) (by omega) (by omega)).mp hh; omega)]
    obtain ⟨σ1, p1, hx, hz⟩ := xe_sw hW (fun σ x1 => f_Y_findEmptyNodes_L10 N σ x1) (sw_it (fE_ kd ga gb bo) g i) (nI i) g 100 0 σ (by omega) (by omega) hX hM
    obtain ⟨σ2, p2, hx2, hz2⟩ := ih N (i + 1) σ1 (by omega) (by omega) (xg_x hX hx (by omega)) hz
    refine ⟨σ2, ?_, ox_t hx hx2, hz2⟩
    rw [show (0 : Int32) = nI 0 from rfl, p1, nI_1]
    exact p2
theorem xb_sw {E : Nat → Bool} {c : Int32} (hW : WF_ g kd ga gb gc hg bo) (k : MZ_ → Int32 → Int32 → Option MZ_) (S : Nat → Bool) (x : Int32) : ∀ (j N n : Nat) (σ : MZ_), n + j = g → j < N → XG_ σ g kd ga gb gc hg bo → MK_ (σ 9) g E → MK_ (σ 10) g (sw_ (fB_ kd ga gb bo E c) n S) → ∃ σ', f_Y_findBeginners_L18 k N σ c x (nI n) = k σ' c (x + 1) ∧ Ox_ 10 σ σ' ∧ MK_ (σ' 10) g (sw_ (fB_ kd ga gb bo E c) g S) := by
  have hg80 := hW.1
  intro j
  induction j with
  | zero =>
    intro N n σ h1 h2 hX hE hM
    obtain ⟨N, rfl⟩ : ∃ M, N = M + 1 := ⟨N - 1, by omega⟩
    have e : n = g := by omega
    subst e
    rw [f_Y_findBeginners_L18, bd_s (show f_G_size σ = some (nI n) by unfold f_G_size; rw [hX.1]), if_pos ((le_c (by omega) (by omega)).mpr (Nat.le_refl _))]
    exact ⟨σ, rfl, ox_r, hM⟩
  | succ j ih =>
    intro N n σ h1 h2 hX hE hM
    obtain ⟨N, rfl⟩ : ∃ M, N = M + 1 := ⟨N - 1, by omega⟩
    rw [f_Y_findBeginners_L18, bd_s (show f_G_size σ = some (nI g) by unfold f_G_size; rw [hX.1]), if_neg (fun hh => by have := (le_c (by omega) (by omega)).mp hh; omega), bd_s (xb_now hX hW hE hM (show n < g by omega)), gd_in (vp_in_nI (by omega) (by omega)), st_e, nI_clamp (by omega), nI_1, bI_n]
    obtain ⟨σ', p, hx, hz⟩ := ih N (n + 1) (va_up σ 10 (upd (σ 10) n (bI ((fB_ kd ga gb bo E c) (sw_ (fB_ kd ga gb bo E c) n S) n)))) (by omega) (by omega) (xg_x hX ox_u (by omega)) (by rw [ox_u (c := 10) 9 (by omega)]; exact hE) (by rw [va_up_self]; exact mk_put hM)
    exact ⟨σ', p, ox_t ox_u hx, hz⟩
theorem xb_it {E : Nat → Bool} {c : Int32} (hW : WF_ g kd ga gb gc hg bo) : ∀ (j N i : Nat) (σ : MZ_), i + j = 7 → j < N → XG_ σ g kd ga gb gc hg bo → MK_ (σ 9) g E → MK_ (σ 10) g (sw_it (fB_ kd ga gb bo E c) g i) → ∃ σ', f_Y_findBeginners_L10 N σ c (nI i) = some σ' ∧ Ox_ 10 σ σ' ∧ MK_ (σ' 10) g (sw_it (fB_ kd ga gb bo E c) g 7) := by
  have hg80 := hW.1
  intro j
  induction j with
  | zero =>
    intro N i σ h1 h2 hX hE hM
    obtain ⟨N, rfl⟩ : ∃ M, N = M + 1 := ⟨N - 1, by omega⟩
    have e : i = 7 := by omega
    subst e
    rw [f_Y_findBeginners_L10, if_pos (by decide)]
    exact ⟨σ, rfl, ox_r, hM⟩
  | succ j ih =>
    intro N i σ h1 h2 hX hE hM
    obtain ⟨N, rfl⟩ : ∃ M, N = M + 1 := ⟨N - 1, by omega⟩
    rw [f_Y_findBeginners_L10, if_neg (show ¬ (6 : Int32) < nI i from fun hh => by have := (nI_ltI (a := 6) (b := i) (by omega) (by omega)).mp hh; omega)]
    obtain ⟨σ1, p1, hx, hz⟩ := xb_sw hW (fun σ x1 x2 => f_Y_findBeginners_L10 N σ x1 x2) (sw_it (fB_ kd ga gb bo E c) g i) (nI i) g 100 0 σ (by omega) (by omega) hX hE hM
    obtain ⟨σ2, p2, hx2, hz2⟩ := ih N (i + 1) σ1 (by omega) (by omega) (xg_x hX hx (by omega)) (by rw [hx 9 (by omega)]; exact hE) hz
    refine ⟨σ2, ?_, ox_t hx hx2, hz2⟩
    rw [show (0 : Int32) = nI 0 from rfl, p1, nI_1]
    exact p2
theorem xe_all (hW : WF_ g kd ga gb gc hg bo) (hX : XG_ σ g kd ga gb gc hg bo) : ∃ σ', f_Y_findEmptyNodes σ = some σ' ∧ Ox_ 9 σ σ' ∧ MK_ (σ' 9) g (Em_ g kd ga gb bo) := by
  obtain ⟨s1, p1, x1, m1⟩ := un_9 (g := g) σ hW.1
  obtain ⟨s2, p2, x2, m2⟩ := xe_it hW 7 100 0 s1 (by omega) (by omega) (xg_x hX x1 (by omega)) m1
  exact ⟨s2, by unfold f_Y_findEmptyNodes; rw [bd_s p1]; exact p2, ox_t x1 x2, m2⟩
theorem xb_all {c : Int32} (hW : WF_ g kd ga gb gc hg bo) (hX : XG_ σ g kd ga gb gc hg bo) (hE : MK_ (σ 9) g (Em_ g kd ga gb bo)) : ∃ σ', f_Y_findBeginners σ c = some σ' ∧ Ox_ 10 σ σ' ∧ MK_ (σ' 10) g (Bg_ g kd ga gb bo c) := by
  obtain ⟨s1, p1, x1, m1⟩ := un_10 (g := g) σ hW.1
  obtain ⟨s2, p2, x2, m2⟩ := xb_it (c := c) hW 7 100 0 s1 (by omega) (by omega) (xg_x hX x1 (by omega)) (by rw [x1 9 (by omega)]; exact hE) m1
  exact ⟨s2, by unfold f_Y_findBeginners; rw [bd_s p1]; exact p2, ox_t x1 x2, m2⟩
theorem re_sw (hW : WF_ g kd ga gb gc hg bo) (k : MZ_ → Int32 → Option MZ_) (S : Nat → Bool) : ∀ (j N n : Nat) (fl : Bool) (σ : MZ_), n + j = g → j < N → RG_ σ g kd ga gb gc hg bo → MK_ (σ 8) g (sw_ (fE_ kd ga gb bo) n S) → (fl = false ↔ ∀ m, m < n → sw_ (fE_ kd ga gb bo) n S m = S m) → ∃ σ' fl', f_R_findEmpty_L33 k N σ (bI fl) (nI n) = k σ' (bI fl') ∧ Ox_ 8 σ σ' ∧ MK_ (σ' 8) g (sw_ (fE_ kd ga gb bo) g S) ∧ (fl' = false ↔ ∀ m, m < g → sw_ (fE_ kd ga gb bo) g S m = S m) := by
  have hg80 := hW.1
  intro j
  induction j with
  | zero =>
    intro N n fl σ h1 h2 hX hM hF
    obtain ⟨N, rfl⟩ : ∃ M, N = M + 1 := ⟨N - 1, by omega⟩
    have e : n = g := by omega
    subst e
    rw [f_R_findEmpty_L33, hX.1, if_pos ((le_c (by omega) (by omega)).mpr (Nat.le_refl _))]
    exact ⟨σ, fl, rfl, ox_r, hM, hF⟩
  | succ j ih =>
    intro N n fl σ h1 h2 hX hM hF
    obtain ⟨N, rfl⟩ : ∃ M, N = M + 1 := ⟨N - 1, by omega⟩
    rw [f_R_findEmpty_L33, hX.1, if_neg (fun hh => by have := (le_c (by omega) (by omega)).mp hh; omega), bd_s (re_now hX hW hM (show n < g by omega))]
    have hin : vp_in (nI n) 80 := vp_in_nI (by omega) (by omega)
    have hcl : (nI n).toNatClampNeg = n := nI_clamp (by omega)
    have old : σ 8 n = bI (S n) := by rw [hM n (by omega), sw_ge (Nat.le_refl n)]
    have step := ih N (n + 1) (fl || ((fE_ kd ga gb bo) (sw_ (fE_ kd ga gb bo) n S) n != S n)) (va_up σ 8 (upd (σ 8) n (bI ((fE_ kd ga gb bo) (sw_ (fE_ kd ga gb bo) n S) n)))) (by omega) (by omega) (rg_x hX ox_u (by omega)) (by rw [va_up_self]; exact mk_put hM) (by
      rw [Bool.or_eq_false_iff, hF]
      constructor
      · intro hh m hm
        have h2 : (fE_ kd ga gb bo) (sw_ (fE_ kd ga gb bo) n S) n = S n := by simpa using hh.2
        by_cases e : m = n
        · subst e; rw [sw_lt (by omega)]; exact h2
        · rw [sw_cut (show m < n + 1 by omega) (show m < n by omega)]; exact hh.1 m (by omega)
      · intro hh
        refine ⟨fun m hm => ?_, ?_⟩
        · rw [sw_cut (show m < n by omega) (show m < n + 1 by omega)]; exact hh m (by omega)
        · have := hh n (by omega)
          rw [sw_lt (by omega)] at this
          simp [this])
    obtain ⟨σ', fl', p, hx, hz, hf⟩ := step
    refine ⟨σ', fl', ?_, ox_t ox_u hx, hz, hf⟩
    rw [← p]
    cases fl with
    | true =>
      rw [if_neg (show ¬ bI true = 0 by decide), gd_in hin, st_e, hcl, nI_1, bI_n, Bool.true_or]
      rfl
    | false =>
      rw [if_pos (show bI false = 0 by decide), gd_in hin, gd_in hin, gd_in hin, st_e, st_e, hcl, nI_1, bI_n, old, Bool.false_or]
      cases (fE_ kd ga gb bo) (sw_ (fE_ kd ga gb bo) n S) n <;> cases S n <;> rfl
theorem re_it (hW : WF_ g kd ga gb gc hg bo) : ∀ (j N i : Nat) (σ : MZ_), i + j = 7 → j + 2 < N → RG_ σ g kd ga gb gc hg bo → MK_ (σ 8) g (sw_it (fE_ kd ga gb bo) g i) → ∃ σ', f_R_findEmpty_L25 N σ 1 = some σ' ∧ Ox_ 8 σ σ' ∧ MK_ (σ' 8) g (sw_it (fE_ kd ga gb bo) g 7) := by
  have hg80 := hW.1
  intro j
  induction j with
  | zero =>
    intro N i σ h1 h2 hX hM
    obtain ⟨N, rfl⟩ : ∃ M, N = M + 1 + 1 := ⟨N - 2, by omega⟩
    have e : i = 7 := by omega
    subst e
    rw [f_R_findEmpty_L25, if_neg (by decide)]
    obtain ⟨σ1, fl, p1, hx, hz, hf⟩ := re_sw hW (fun σ x1 => f_R_findEmpty_L25 (N + 1) σ x1) (sw_it (fE_ kd ga gb bo) g 7) g 100 0 false σ (by omega) (by omega) hX hM (by simp)
    have : fl = false := hf.mpr (fun m _ => em_fix hW m)
    subst this
    refine ⟨σ1, ?_, hx, fun m hm => by rw [hz m hm]; exact congrArg bI (em_fix hW m)⟩
    rw [show (0 : Int32) = nI 0 from rfl]
    refine Eq.trans p1 ?_
    show f_R_findEmpty_L25 (N + 1) σ1 (bI false) = _
    rw [f_R_findEmpty_L25, if_pos (by decide)]
  | succ j ih =>
    intro N i σ h1 h2 hX hM
    obtain ⟨N, rfl⟩ : ∃ M, N = M + 1 + 1 := ⟨N - 2, by omega⟩
    rw [f_R_findEmpty_L25, if_neg (by decide)]
    obtain ⟨σ1, fl, p1, hx, hz, hf⟩ := re_sw hW (fun σ x1 => f_R_findEmpty_L25 (N + 1) σ x1) (sw_it (fE_ kd ga gb bo) g i) g 100 0 false σ (by omega) (by omega) hX hM (by simp)
    cases fl with
    | false =>
      have hst : ∀ m, sw_it (fE_ kd ga gb bo) g (i + 1) m = sw_it (fE_ kd ga gb bo) g i m := fun m => by
        by_cases hm : m < g
        · exact hf.mp rfl m hm
        · exact sw_ge (by omega)
      have h7 : ∀ m, sw_it (fE_ kd ga gb bo) g 7 m = sw_it (fE_ kd ga gb bo) g (i + 1) m := fun m => by
        have := sw_const hst (7 - i) m
        rw [show i + (7 - i) = 7 by omega] at this
        rw [this, hst]
      refine ⟨σ1, ?_, hx, fun m hm => by rw [h7]; exact hz m hm⟩
      rw [show (0 : Int32) = nI 0 from rfl]
      refine Eq.trans p1 ?_
      show f_R_findEmpty_L25 (N + 1) σ1 (bI false) = _
      rw [f_R_findEmpty_L25, if_pos (by decide)]
    | true =>
      obtain ⟨σ2, p2, hx2, hz2⟩ := ih (N + 1) (i + 1) σ1 (by omega) (by omega) (rg_x hX hx (by omega)) hz
      refine ⟨σ2, ?_, ox_t hx hx2, hz2⟩
      rw [show (0 : Int32) = nI 0 from rfl]
      exact Eq.trans p1 p2
theorem re_un (hW : WF_ g kd ga gb gc hg bo) : ∀ (j N n : Nat) (σ : MZ_), n + j = g → j < N → RG_ σ g kd ga gb gc hg bo → MK_ (σ 8) n (fun _ => false) → ∃ σ', f_R_findEmpty_L2 N σ (nI n) = some σ' ∧ Ox_ 8 σ σ' ∧ MK_ (σ' 8) g (sw_it (fE_ kd ga gb bo) g 7) := by
  have hg80 := hW.1
  intro j
  induction j with
  | zero =>
    intro N n σ h1 h2 hX hM
    obtain ⟨N, rfl⟩ : ∃ M, N = M + 1 := ⟨N - 1, by omega⟩
    have e : n = g := by omega
    subst e
    rw [f_R_findEmpty_L2, hX.1, if_pos ((le_c (by omega) (by omega)).mpr (Nat.le_refl _))]
    exact re_it hW 7 100 0 σ (by omega) (by omega) hX hM
  | succ j ih =>
    intro N n σ h1 h2 hX hM
    obtain ⟨N, rfl⟩ : ∃ M, N = M + 1 := ⟨N - 1, by omega⟩
    rw [f_R_findEmpty_L2, hX.1, if_neg (fun hh => by have := (le_c (by omega) (by omega)).mp hh; omega), gd_in (vp_in_nI (by omega) (by omega)), st_e, nI_clamp (by omega), nI_1]
    obtain ⟨σ', p, hx, hz⟩ := ih N (n + 1) (va_up σ 8 (upd (σ 8) n (vp_nar .boolean 0))) (by omega) (by omega) (rg_x hX ox_u (by omega)) (by
      intro m hm
      rw [va_up_self]
      by_cases e : m = n
      · subst e; rw [pk_us]; rfl
      · rw [pk_un e]; exact hM m (by omega))
    exact ⟨σ', p, ox_t ox_u hx, hz⟩
theorem rb_sw {E : Nat → Bool} {c : Int32} (hW : WF_ g kd ga gb gc hg bo) (k : MZ_ → Int32 → Int32 → Option MZ_) (S : Nat → Bool) : ∀ (j N n : Nat) (fl : Bool) (σ : MZ_), n + j = g → j < N → RG_ σ g kd ga gb gc hg bo → MK_ (σ 8) g E → MK_ (σ 9) g (sw_ (fB_ kd ga gb bo E c) n S) → (fl = false ↔ ∀ m, m < n → sw_ (fB_ kd ga gb bo E c) n S m = S m) → ∃ σ' fl', f_R_findBeginning_L37 k N σ c (bI fl) (nI n) = k σ' c (bI fl') ∧ Ox_ 9 σ σ' ∧ MK_ (σ' 9) g (sw_ (fB_ kd ga gb bo E c) g S) ∧ (fl' = false ↔ ∀ m, m < g → sw_ (fB_ kd ga gb bo E c) g S m = S m) := by
  have hg80 := hW.1
  intro j
  induction j with
  | zero =>
    intro N n fl σ h1 h2 hX hE hM hF
    obtain ⟨N, rfl⟩ : ∃ M, N = M + 1 := ⟨N - 1, by omega⟩
    have e : n = g := by omega
    subst e
    rw [f_R_findBeginning_L37, hX.1, if_pos ((le_c (by omega) (by omega)).mpr (Nat.le_refl _))]
    exact ⟨σ, fl, rfl, ox_r, hM, hF⟩
  | succ j ih =>
    intro N n fl σ h1 h2 hX hE hM hF
    obtain ⟨N, rfl⟩ : ∃ M, N = M + 1 := ⟨N - 1, by omega⟩
    rw [f_R_findBeginning_L37, hX.1, if_neg (fun hh => by have := (le_c (by omega) (by omega)).mp hh; omega), bd_s (rb_now hX hW hE hM (show n < g by omega))]
    have hin : vp_in (nI n) 80 := vp_in_nI (by omega) (by omega)
    have hcl : (nI n).toNatClampNeg = n := nI_clamp (by omega)
    have old : σ 9 n = bI (S n) := by rw [hM n (by omega), sw_ge (Nat.le_refl n)]
    have step := ih N (n + 1) (fl || ((fB_ kd ga gb bo E c) (sw_ (fB_ kd ga gb bo E c) n S) n != S n)) (va_up σ 9 (upd (σ 9) n (bI ((fB_ kd ga gb bo E c) (sw_ (fB_ kd ga gb bo E c) n S) n)))) (by omega) (by omega) (rg_x hX ox_u (by omega)) (by rw [ox_u (c := 9) 8 (by omega)]; exact hE) (by rw [va_up_self]; exact mk_put hM) (by
      rw [Bool.or_eq_false_iff, hF]
      constructor
      · intro hh m hm
        have h2 : (fB_ kd ga gb bo E c) (sw_ (fB_ kd ga gb bo E c) n S) n = S n := by simpa using hh.2
        by_cases e : m = n
        · subst e; rw [sw_lt (by omega)]; exact h2
        · rw [sw_cut (show m < n + 1 by omega) (show m < n by omega)]; exact hh.1 m (by omega)
      · intro hh
        refine ⟨fun m hm => ?_, ?_⟩
        · rw [sw_cut (show m < n by omega) (show m < n + 1 by omega)]; exact hh m (by omega)
        · have := hh n (by omega)
          rw [sw_lt (by omega)] at this
          simp [this])
    obtain ⟨σ', fl', p, hx, hz, hf⟩ := step
    refine ⟨σ', fl', ?_, ox_t ox_u hx, hz, hf⟩
    rw [← p]
    cases fl with
    | true =>
      rw [if_neg (show ¬ bI true = 0 by decide), gd_in hin, st_e, hcl, nI_1, bI_n, Bool.true_or]
      rfl
    | false =>
      rw [if_pos (show bI false = 0 by decide), gd_in hin, gd_in hin, gd_in hin, st_e, st_e, hcl, nI_1, bI_n, old, Bool.false_or]
      cases (fB_ kd ga gb bo E c) (sw_ (fB_ kd ga gb bo E c) n S) n <;> cases S n <;> rfl
theorem rb_it {E : Nat → Bool} {c : Int32} (hW : WF_ g kd ga gb gc hg bo) : ∀ (j N i : Nat) (σ : MZ_), i + j = 7 → j + 2 < N → RG_ σ g kd ga gb gc hg bo → MK_ (σ 8) g E → MK_ (σ 9) g (sw_it (fB_ kd ga gb bo E c) g i) → ∃ σ', f_R_findBeginning_L29 N σ c 1 = some σ' ∧ Ox_ 9 σ σ' ∧ MK_ (σ' 9) g (sw_it (fB_ kd ga gb bo E c) g 7) := by
  have hg80 := hW.1
  intro j
  induction j with
  | zero =>
    intro N i σ h1 h2 hX hE hM
    obtain ⟨N, rfl⟩ : ∃ M, N = M + 1 + 1 := ⟨N - 2, by omega⟩
    have e : i = 7 := by omega
    subst e
    rw [f_R_findBeginning_L29, if_neg (by decide)]
    obtain ⟨σ1, fl, p1, hx, hz, hf⟩ := rb_sw hW (fun σ x1 x2 => f_R_findBeginning_L29 (N + 1) σ x1 x2) (sw_it (fB_ kd ga gb bo E c) g 7) g 100 0 false σ (by omega) (by omega) hX hE hM (by simp)
    have : fl = false := hf.mpr (fun m _ => bg_fix hW m)
    subst this
    refine ⟨σ1, ?_, hx, fun m hm => by rw [hz m hm]; exact congrArg bI (bg_fix hW m)⟩
    rw [show (0 : Int32) = nI 0 from rfl]
    refine Eq.trans p1 ?_
    show f_R_findBeginning_L29 (N + 1) σ1 c (bI false) = _
    rw [f_R_findBeginning_L29, if_pos (by decide)]
  | succ j ih =>
    intro N i σ h1 h2 hX hE hM
    obtain ⟨N, rfl⟩ : ∃ M, N = M + 1 + 1 := ⟨N - 2, by omega⟩
    rw [f_R_findBeginning_L29, if_neg (by decide)]
    obtain ⟨σ1, fl, p1, hx, hz, hf⟩ := rb_sw hW (fun σ x1 x2 => f_R_findBeginning_L29 (N + 1) σ x1 x2) (sw_it (fB_ kd ga gb bo E c) g i) g 100 0 false σ (by omega) (by omega) hX hE hM (by simp)
    cases fl with
    | false =>
      have hst : ∀ m, sw_it (fB_ kd ga gb bo E c) g (i + 1) m = sw_it (fB_ kd ga gb bo E c) g i m := fun m => by
        by_cases hm : m < g
        · exact hf.mp rfl m hm
        · exact sw_ge (by omega)
      have h7 : ∀ m, sw_it (fB_ kd ga gb bo E c) g 7 m = sw_it (fB_ kd ga gb bo E c) g (i + 1) m := fun m => by
        have := sw_const hst (7 - i) m
        rw [show i + (7 - i) = 7 by omega] at this
        rw [this, hst]
      refine ⟨σ1, ?_, hx, fun m hm => by rw [h7]; exact hz m hm⟩
      rw [show (0 : Int32) = nI 0 from rfl]
      refine Eq.trans p1 ?_
      show f_R_findBeginning_L29 (N + 1) σ1 c (bI false) = _
      rw [f_R_findBeginning_L29, if_pos (by decide)]
    | true =>
      obtain ⟨σ2, p2, hx2, hz2⟩ := ih (N + 1) (i + 1) σ1 (by omega) (by omega) (rg_x hX hx (by omega)) (by rw [hx 8 (by omega)]; exact hE) hz
      refine ⟨σ2, ?_, ox_t hx hx2, hz2⟩
      rw [show (0 : Int32) = nI 0 from rfl]
      exact Eq.trans p1 p2
theorem rb_un {E : Nat → Bool} {c : Int32} (hW : WF_ g kd ga gb gc hg bo) : ∀ (j N n : Nat) (σ : MZ_), n + j = g → j < N → RG_ σ g kd ga gb gc hg bo → MK_ (σ 8) g E → MK_ (σ 9) n (fun _ => false) → ∃ σ', f_R_findBeginning_L6 N σ c (nI n) = some σ' ∧ Ox_ 9 σ σ' ∧ MK_ (σ' 9) g (sw_it (fB_ kd ga gb bo E c) g 7) := by
  have hg80 := hW.1
  intro j
  induction j with
  | zero =>
    intro N n σ h1 h2 hX hE hM
    obtain ⟨N, rfl⟩ : ∃ M, N = M + 1 := ⟨N - 1, by omega⟩
    have e : n = g := by omega
    subst e
    rw [f_R_findBeginning_L6, hX.1, if_pos ((le_c (by omega) (by omega)).mpr (Nat.le_refl _))]
    exact rb_it hW 7 100 0 σ (by omega) (by omega) hX hE hM
  | succ j ih =>
    intro N n σ h1 h2 hX hE hM
    obtain ⟨N, rfl⟩ : ∃ M, N = M + 1 := ⟨N - 1, by omega⟩
    rw [f_R_findBeginning_L6, hX.1, if_neg (fun hh => by have := (le_c (by omega) (by omega)).mp hh; omega), gd_in (vp_in_nI (by omega) (by omega)), st_e, nI_clamp (by omega), nI_1]
    obtain ⟨σ', p, hx, hz⟩ := ih N (n + 1) (va_up σ 9 (upd (σ 9) n (vp_nar .boolean 0))) (by omega) (by omega) (rg_x hX ox_u (by omega)) (by rw [ox_u (c := 9) 8 (by omega)]; exact hE) (by
      intro m hm
      rw [va_up_self]
      by_cases e : m = n
      · subst e; rw [pk_us]; rfl
      · rw [pk_un e]; exact hM m (by omega))
    exact ⟨σ', p, ox_t ox_u hx, hz⟩
theorem re_all (hW : WF_ g kd ga gb gc hg bo) (hX : RG_ σ g kd ga gb gc hg bo) : ∃ σ', f_R_findEmpty σ = some σ' ∧ Ox_ 8 σ σ' ∧ MK_ (σ' 8) g (Em_ g kd ga gb bo) := re_un hW g 100 0 σ (by omega) (by have := hW.1; omega) hX (fun m hm => by omega)
theorem rb_all {c : Int32} (hW : WF_ g kd ga gb gc hg bo) (hX : RG_ σ g kd ga gb gc hg bo) : ∃ σ', f_R_findBeginning σ c = some σ' ∧ (∀ k, k ≠ 8 → k ≠ 9 → σ' k = σ k) ∧ MK_ (σ' 8) g (Em_ g kd ga gb bo) ∧ MK_ (σ' 9) g (Bg_ g kd ga gb bo c) := by
  obtain ⟨s1, p1, x1, m1⟩ := re_all hW hX
  obtain ⟨s2, p2, x2, m2⟩ := rb_un (c := c) hW g 100 0 s1 (by omega) (by have := hW.1; omega) (rg_x hX x1 (by omega)) m1 (fun m hm => by omega)
  exact ⟨s2, by unfold f_R_findBeginning; rw [bd_s p1]; exact p2, fun k h8 h9 => (x2 k h9).trans (x1 k h8), by rw [x2 8 (by omega)]; exact m1, m2⟩
end SWPS
