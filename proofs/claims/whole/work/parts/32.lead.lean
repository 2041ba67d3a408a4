/-! which rules a rule leads to: masks, closed in two ways -/
section LEAD
def bt_ (x : Int32) (i : Nat) : Bool := x.toBitVec.getLsbD i
theorem bt_ext {x y : Int32} (h : ∀ i, bt_ x i = bt_ y i) : x = y := Int32.toBitVec_inj.mp (BitVec.eq_of_getLsbD_eq (fun i _ => h i))
theorem bt_or (x y : Int32) (i : Nat) : bt_ (x ||| y) i = (bt_ x i || bt_ y i) := by unfold bt_; rw [Int32.toBitVec_or, BitVec.getLsbD_or]
theorem bt_0 (i : Nat) : bt_ 0 i = false := BitVec.getLsbD_zero
theorem bt_big {x : Int32} {i : Nat} (h : 32 ≤ i) : bt_ x i = false := BitVec.getLsbD_of_ge _ _ h
theorem bt_t1 (v : BitVec 32) : v &&& 1#32 = 1#32 ↔ v.getLsbD 0 = true := by
  constructor
  · intro h
    have := congrArg (fun q : BitVec 32 => q.getLsbD 0) h
    simpa using this
  · intro h
    apply BitVec.eq_of_getLsbD_eq
    intro i hi
    rw [BitVec.getLsbD_and]
    by_cases e : i = 0
    · subst e; rw [h]; rfl
    · have : (1#32).getLsbD i = false := by
        rw [BitVec.getLsbD_one]; simp [e]
      rw [this, Bool.and_false]
theorem bt_sh : ∀ n, n < 6 → ((nI n &&& 31).toBitVec.smod 32).toNat = n := by decide +kernel
theorem bt_test {m : Int32} {i : Nat} (hi : i < 6) : ((m >>> (nI i &&& 31)) &&& 1) = 1 ↔ bt_ m i = true := by
  rw [← Int32.toBitVec_inj, Int32.toBitVec_and, Int32.toBitVec_shiftRight]
  show (m.toBitVec.sshiftRight ((nI i &&& 31).toBitVec.smod 32).toNat) &&& 1#32 = 1#32 ↔ _
  rw [bt_sh i hi, bt_t1, BitVec.getLsbD_sshiftRight]
  have h1 : i + 0 < 32 := by omega
  simp only [h1, if_true, Nat.add_zero]
  unfold bt_
  simp
  intro h
  omega
theorem bt_one {r : Nat} (hr : r < 6) (k : Nat) (h : bt_ (1 <<< (nI r &&& 31)) k = true) : k < 6 := by
  by_cases hk : k < 32
  · have : ∀ r, r < 6 → ∀ k, k < 32 → bt_ (1 <<< (nI r &&& 31)) k = true → k < 6 := by decide +kernel
    exact this r hr k hk h
  · rw [bt_big (by omega)] at h; cases h
variable {σ : MZ_} {g : Nat} {kd : Nat → Nat} {ga gb gc : Nat → Int32} {hg : Nat → Nat} {bo : Nat → Option Nat} {E : Nat → Bool} {L : Nat → Int32}
def Rm_ (bo : Nat → Option Nat) (L : Nat → Int32) (r : Nat) : Int32 := match bo r with | some b => L b | none => 0
def lv_ (kd : Nat → Nat) (ga gb : Nat → Int32) (E : Nat → Bool) : Nat → (Nat → Int32)
  | 0 => fun _ => 0
  | n + 1 => va_up (lv_ kd ga gb E n) n (fL_ kd ga gb E (lv_ kd ga gb E n) n)
theorem lv_6 (hW : WF_ g kd ga gb gc hg bo) : ∀ n, n ≤ g → ∀ i k, bt_ (lv_ kd ga gb E n i) k = true → k < 6 := by
  intro n
  induction n with
  | zero => intro _ i k h; unfold lv_ at h; rw [bt_0] at h; cases h
  | succ n ih =>
    intro hn i k h
    have ih := ih (by omega)
    unfold lv_ at h
    by_cases e : i = n
    · subst e
      rw [va_up_self] at h
      unfold fL_ at h
      have or2 : ∀ x y : Int32, (bt_ x k = true → k < 6) → (bt_ y k = true → k < 6) → bt_ (x ||| y) k = true → k < 6 := fun x y hx hy h => by
        rw [bt_or, Bool.or_eq_true] at h
        exact h.elim hx hy
      by_cases k4 : kd i = 4 ∨ kd i = 10
      · rw [if_pos k4] at h
        split at h
        · exact or2 _ _ (ih _ k) (ih _ k) h
        · exact ih _ k h
      rw [if_neg k4] at h
      by_cases k5 : kd i = 5
      · rw [if_pos k5] at h
        exact or2 _ _ (ih _ k) (ih _ k) h
      rw [if_neg k5] at h
      by_cases k6 : kd i = 6 ∨ kd i = 7 ∨ kd i = 8 ∨ kd i = 9 ∨ kd i = 12
      · rw [if_pos k6] at h; exact ih _ k h
      rw [if_neg k6] at h
      by_cases k11 : kd i = 11
      · rw [if_pos k11] at h
        obtain ⟨r, hr, er⟩ := (hW.2.1 i (by omega)).2.2.2.2.2.2.2.1 k11
        rw [er] at h
        exact bt_one hr k h
      rw [if_neg k11, bt_0] at h
      cases h
    · rw [va_up_ne _ _ e] at h
      exact ih i k h
def Ld_ (g : Nat) (kd : Nat → Nat) (ga gb : Nat → Int32) (bo : Nat → Option Nat) : Nat → Int32 := lv_ kd ga gb (Em_ g kd ga gb bo) g
/-- which rule's body can lead to which rule at once -/
def LR_ (g : Nat) (kd : Nat → Nat) (ga gb : Nat → Int32) (bo : Nat → Option Nat) (r k : Nat) : Bool := bt_ (Rm_ bo (Ld_ g kd ga gb bo) r) k
theorem lr_6 (hW : WF_ g kd ga gb gc hg bo) (r k : Nat) (h : LR_ g kd ga gb bo r k = true) : k < 6 := by
  unfold LR_ Rm_ at h
  cases hb : bo r with
  | none => rw [hb] at h; rw [bt_0] at h; cases h
  | some b => rw [hb] at h; exact lv_6 hW g (Nat.le_refl g) b k h
theorem lv_put {f : Nat → Int32} {n : Nat} (h : ∀ i, i < n → f i = lv_ kd ga gb E n i) : ∀ i, i < n + 1 → upd f n (fL_ kd ga gb E (lv_ kd ga gb E n) n) i = lv_ kd ga gb E (n + 1) i := by
  intro i hi
  show _ = va_up (lv_ kd ga gb E n) n (fL_ kd ga gb E (lv_ kd ga gb E n) n) i
  by_cases e : i = n
  · subst e; rw [pk_us, va_up_self]
  · rw [pk_un e, va_up_ne _ _ e]; exact h i (by omega)
/-! the class -/
theorem xl_1 (hW : WF_ g kd ga gb gc hg bo) : ∀ (j N n : Nat) (σ : MZ_), n + j = g → j < N → XG_ σ g kd ga gb gc hg bo → MK_ (σ 9) g E → (∀ i, i < n → σ 12 i = lv_ kd ga gb E n i) → ∃ σ', f_Y_findLeads_L6 N σ (nI n) = f_Y_findLeads_L36 100 σ' (nI 0) ∧ Ox_ 12 σ σ' ∧ (∀ i, i < g → σ' 12 i = lv_ kd ga gb E g i) := by
  have hg80 := hW.1
  intro j
  induction j with
  | zero =>
    intro N n σ h1 h2 hX hE hM
    obtain ⟨N, rfl⟩ : ∃ M, N = M + 1 := ⟨N - 1, by omega⟩
    have e : n = g := by omega
    subst e
    rw [f_Y_findLeads_L6, bd_s (show f_G_size σ = some (nI n) by unfold f_G_size; rw [hX.1]), if_pos ((le_c (by omega) (by omega)).mpr (Nat.le_refl _))]
    exact ⟨σ, rfl, ox_r, hM⟩
  | succ j ih =>
    intro N n σ h1 h2 hX hE hM
    obtain ⟨N, rfl⟩ : ∃ M, N = M + 1 := ⟨N - 1, by omega⟩
    rw [f_Y_findLeads_L6, bd_s (show f_G_size σ = some (nI g) by unfold f_G_size; rw [hX.1]), if_neg (fun hh => by have := (le_c (by omega) (by omega)).mp hh; omega), bd_s (xl_now hX hW hE (show n < g by omega) hM), gd_in (vp_in_nI (by omega) (by omega)), st_e, nI_clamp (by omega), nI_1]
    obtain ⟨σ', p, hx, hz⟩ := ih N (n + 1) (va_up σ 12 (upd (σ 12) n (fL_ kd ga gb E (lv_ kd ga gb E n) n))) (by omega) (by omega) (xg_x hX ox_u (by omega)) (by rw [ox_u (c := 12) 9 (by omega)]; exact hE) (by rw [va_up_self]; exact lv_put hM)
    exact ⟨σ', p, ox_t ox_u hx, hz⟩
theorem xl_2 (hW : WF_ g kd ga gb gc hg bo) : ∀ (j N r : Nat) (σ : MZ_), r + j = 6 → j < N → XG_ σ g kd ga gb gc hg bo → (∀ i, i < g → σ 12 i = L i) → (∀ i, i < r → σ 13 i = Rm_ bo L i) → ∃ σ', f_Y_findLeads_L36 N σ (nI r) = f_Y_findLeads_L68 100 σ' (nI 0) ∧ Ox_ 13 σ σ' ∧ (∀ i, i < 6 → σ' 13 i = Rm_ bo L i) := by
  have hg80 := hW.1
  intro j
  induction j with
  | zero =>
    intro N r σ h1 h2 hX hL hM
    obtain ⟨N, rfl⟩ : ∃ M, N = M + 1 := ⟨N - 1, by omega⟩
    have e : r = 6 := by omega
    subst e
    rw [f_Y_findLeads_L36, if_pos (by decide)]
    exact ⟨σ, rfl, ox_r, hM⟩
  | succ j ih =>
    intro N r σ h1 h2 hX hL hM
    obtain ⟨N, rfl⟩ : ∃ M, N = M + 1 := ⟨N - 1, by omega⟩
    obtain ⟨y, ey, ly⟩ : ∃ y, f_G_body σ (nI r) = some y ∧ f_Y_leadsOf σ y = some (Rm_ bo L r) := by
      have e := xg_body hX (show r < 6 by omega)
      unfold Rm_
      cases hb : bo r with
      | none => rw [hb] at e; exact ⟨-1, e, xl_no⟩
      | some b => rw [hb] at e; exact ⟨nI b, e, xl_of hX hg80 hL (hW.2.2 r b (by omega) hb) (hW.2.2 r b (by omega) hb)⟩
    rw [f_Y_findLeads_L36, if_neg (show ¬ (6 : Int32) ≤ nI r from fun hh => by have := (le_c (N := 6) (by omega) (by omega)).mp hh; omega), bd_s ey, bd_s ly, gd_in (vp_in_nI (by omega) (by omega)), st_e, nI_clamp (by omega), nI_1]
    obtain ⟨σ', p, hx, hz⟩ := ih N (r + 1) (va_up σ 13 (upd (σ 13) r (Rm_ bo L r))) (by omega) (by omega) (xg_x hX ox_u (by omega)) (by rw [ox_u (c := 13) 12 (by omega)]; exact hL) (by
      rw [va_up_self]
      intro i hi
      by_cases e : i = r
      · subst e; rw [pk_us]
      · rw [pk_un e]; exact hM i (by omega))
    exact ⟨σ', p, ox_t ox_u hx, hz⟩
theorem xl_3 (k : MZ_ → Int32 → Option MZ_) (R : Nat → Nat → Bool) {w : Nat} (hw : w < 6) : ∀ (j N n : Nat) (σ : MZ_), n + j = 6 → j < N → (∀ r, r < 6 → ∀ i, bt_ (σ 13 r) i = cl_row w n R r i) → ∃ σ', f_Y_findLeads_L76 k N σ (nI w) (nI n) = k σ' (nI (w + 1)) ∧ Ox_ 13 σ σ' ∧ (∀ r, r < 6 → ∀ i, bt_ (σ' 13 r) i = cl_row w 6 R r i) := by
  intro j
  induction j with
  | zero =>
    intro N n σ h1 h2 hM
    obtain ⟨N, rfl⟩ : ∃ M, N = M + 1 := ⟨N - 1, by omega⟩
    have e : n = 6 := by omega
    subst e
    rw [f_Y_findLeads_L76, if_pos (by decide), nI_1]
    exact ⟨σ, rfl, ox_r, hM⟩
  | succ j ih =>
    intro N n σ h1 h2 hM
    obtain ⟨N, rfl⟩ : ∃ M, N = M + 1 := ⟨N - 1, by omega⟩
    have hin : vp_in (nI n) 6 := vp_in_nI (by omega) (by omega)
    have hcl : (nI n).toNatClampNeg = n := nI_clamp (by omega)
    rw [f_Y_findLeads_L76, if_neg (show ¬ (6 : Int32) ≤ nI n from fun hh => by have := (le_c (N := 6) (by omega) (by omega)).mp hh; omega), gd_in hin, hcl]
    by_cases q : bt_ (σ 13 n) w = true
    · rw [if_pos ((bt_test hw).mpr q), gd_in hin, gd_in (vp_in_nI hw (by omega)), gd_in hin, st_e, nI_1, nI_clamp (show w < 2 ^ 31 by omega)]
      obtain ⟨σ', p, hx, hz⟩ := ih N (n + 1) (va_up σ 13 (upd (σ 13) n (σ 13 n ||| σ 13 w))) (by omega) (by omega) (by
        rw [va_up_self]
        intro r hr i
        unfold cl_row
        by_cases e : r = n
        · subst e
          rw [pk_us, va_up_self, bt_or, hM r hr, hM w hw, if_pos (by rw [← hM r hr]; exact q)]
        · rw [pk_un e, va_up_ne _ _ e]; exact hM r hr i)
      exact ⟨σ', p, ox_t ox_u hx, hz⟩
    · rw [if_neg (fun hh => q ((bt_test hw).mp hh)), nI_1]
      refine ih N (n + 1) σ (by omega) (by omega) (fun r hr i => ?_)
      unfold cl_row
      by_cases e : r = n
      · subst e
        rw [va_up_self, if_neg (by rw [← hM r hr]; exact q)]; exact hM r hr i
      · rw [va_up_ne _ _ e]; exact hM r hr i
theorem xl_4 (R : Nat → Nat → Bool) : ∀ (j N w : Nat) (σ : MZ_), w + j = 6 → j < N → (∀ r, r < 6 → ∀ i, bt_ (σ 13 r) i = cl_all w R r i) → ∃ σ', f_Y_findLeads_L68 N σ (nI w) = some σ' ∧ Ox_ 13 σ σ' ∧ (∀ r, r < 6 → ∀ i, bt_ (σ' 13 r) i = cl_all 6 R r i) := by
  intro j
  induction j with
  | zero =>
    intro N n σ h1 h2 hM
    obtain ⟨N, rfl⟩ : ∃ M, N = M + 1 := ⟨N - 1, by omega⟩
    have e : n = 6 := by omega
    subst e
    rw [f_Y_findLeads_L68, if_pos (by decide)]
    exact ⟨σ, rfl, ox_r, hM⟩
  | succ j ih =>
    intro N w σ h1 h2 hM
    obtain ⟨N, rfl⟩ : ∃ M, N = M + 1 := ⟨N - 1, by omega⟩
    rw [f_Y_findLeads_L68, if_neg (show ¬ (6 : Int32) ≤ nI w from fun hh => by have := (le_c (N := 6) (by omega) (by omega)).mp hh; omega)]
    obtain ⟨σ1, p1, x1, m1⟩ := xl_3 (fun σ x1 => f_Y_findLeads_L68 N σ x1) (cl_all w R) (show w < 6 by omega) 6 100 0 σ (by omega) (by omega) hM
    obtain ⟨σ2, p2, x2, m2⟩ := ih N (w + 1) σ1 (by omega) (by omega) m1
    refine ⟨σ2, ?_, ox_t x1 x2, m2⟩
    exact Eq.trans p1 p2
theorem xl_all (hW : WF_ g kd ga gb gc hg bo) (hX : XG_ σ g kd ga gb gc hg bo) : ∃ σ', f_Y_findLeads σ = some σ' ∧ (∀ k, k ≠ 9 → k ≠ 12 → k ≠ 13 → σ' k = σ k) ∧ MK_ (σ' 9) g (Em_ g kd ga gb bo) ∧ (∀ r, r < 6 → ∀ i, bt_ (σ' 13 r) i = cl_all 6 (LR_ g kd ga gb bo) r i) := by
  obtain ⟨s1, p1, x1, m1⟩ := xe_all hW hX
  obtain ⟨s2, p2, x2, m2⟩ := xl_1 hW g 100 0 s1 (by omega) (by have := hW.1; omega) (xg_x hX x1 (by omega)) m1 (fun i hi => by omega)
  obtain ⟨s3, p3, x3, m3⟩ := xl_2 hW 6 100 0 s2 (by omega) (by omega) (xg_x (xg_x hX x1 (by omega)) x2 (by omega)) m2 (fun i hi => by omega)
  obtain ⟨s4, p4, x4, m4⟩ := xl_4 (LR_ g kd ga gb bo) 6 100 0 s3 (by omega) (by omega) (fun r hr i => by rw [m3 r hr]; rfl)
  refine ⟨s4, ?_, fun k h9 h12 h13 => (x4 k h13).trans ((x3 k h13).trans ((x2 k h12).trans (x1 k h9))), ?_, m4⟩
  · unfold f_Y_findLeads
    rw [bd_s p1]
    exact Eq.trans p2 (Eq.trans p3 p4)
  · rw [x4 9 (by omega), x3 9 (by omega), x2 9 (by omega)]; exact m1
/-! the other system -/
theorem rl_3 (k : MZ_ → Int32 → Int32 → Int32 → Option (Int32 × MZ_)) (s : Nat → Bool) (hW : WF_ g kd ga gb gc hg bo) (hX : RG_ σ g kd ga gb gc hg bo) (hL : ∀ i, i < g → σ 10 i = L i) (x1 x3 : Int32) : ∀ (j N n : Nat) (m : Int32), n + j = 6 → j < N → (∀ i, bt_ m i = cl_rd (fun r i => bt_ (Rm_ bo L r) i) n s i) → ∃ m', f_R_allLeads_L69 k N σ x1 m x3 (nI n) = k σ x1 m' (x3 + 1) ∧ (∀ i, bt_ m' i = cl_rd (fun r i => bt_ (Rm_ bo L r) i) 6 s i) := by
  have hg80 := hW.1
  intro j
  induction j with
  | zero =>
    intro N n m h1 h2 hM
    obtain ⟨N, rfl⟩ : ∃ M, N = M + 1 := ⟨N - 1, by omega⟩
    have e : n = 6 := by omega
    subst e
    rw [f_R_allLeads_L69, if_pos (by decide)]
    exact ⟨m, rfl, hM⟩
  | succ j ih =>
    intro N n m h1 h2 hM
    obtain ⟨N, rfl⟩ : ∃ M, N = M + 1 := ⟨N - 1, by omega⟩
    have hn6 : n < 6 := by omega
    have hin : vp_in (nI n) 6 := vp_in_nI hn6 (by omega)
    have hcl : (nI n).toNatClampNeg = n := nI_clamp (by omega)
    rw [f_R_allLeads_L69, if_neg (show ¬ (6 : Int32) ≤ nI n from fun hh => by have := (le_c (N := 6) (by omega) (by omega)).mp hh; omega)]
    by_cases q : bt_ m n = true
    · rw [if_pos ((bt_test hn6).mpr q), gd_in hin, hcl, nI_1]
      have hq : cl_rd (fun r i => bt_ (Rm_ bo L r) i) n s n = true := by rw [← hM]; exact q
      cases hb : bo n with
      | none =>
        rw [hX.2.2.2 n hn6 hb, if_pos (by decide)]
        refine ih N (n + 1) m (by omega) (by omega) (fun i => ?_)
        unfold cl_rd
        rw [if_pos hq, hM i]
        have : bt_ (Rm_ bo L n) i = false := by unfold Rm_; rw [hb]; exact bt_0 i
        rw [this, Bool.or_false]
      | some b =>
        have hbg := hW.2.2 n b hn6 hb
        rw [hX.2.2.1 n b hn6 hb, if_neg (show ¬ nI (b + 1) ≤ 0 from fun hh => by have := (li_le 0 rfl (by omega) (by omega)).mp hh; omega), gd_in hin, li_m1 (x := nI (b + 1)) rfl, gd_in (vp_in_nI (show b < 80 by omega) (by omega)), nI_clamp (show b < 2 ^ 31 by omega), hL b hbg]
        refine ih N (n + 1) (m ||| L b) (by omega) (by omega) (fun i => ?_)
        unfold cl_rd
        rw [if_pos hq, bt_or, hM i]
        have : bt_ (Rm_ bo L n) i = bt_ (L b) i := by unfold Rm_; rw [hb]
        rw [this]
    · rw [if_neg (fun hh => q ((bt_test hn6).mp hh)), nI_1]
      refine ih N (n + 1) m (by omega) (by omega) (fun i => ?_)
      unfold cl_rd
      rw [if_neg (by rw [← hM]; exact q)]
      exact hM i
theorem rl_4 (s : Nat → Bool) (hW : WF_ g kd ga gb gc hg bo) (hX : RG_ σ g kd ga gb gc hg bo) (hL : ∀ i, i < g → σ 10 i = L i) (x1 : Int32) : ∀ (j N n : Nat) (m : Int32), n + j = 6 → j < N → (∀ i, bt_ m i = cl_rds (fun r i => bt_ (Rm_ bo L r) i) s n i) → ∃ m', f_R_allLeads_L60 N σ x1 m (nI n) = some (m', σ) ∧ (∀ i, bt_ m' i = cl_rds (fun r i => bt_ (Rm_ bo L r) i) s 6 i) := by
  intro j
  induction j with
  | zero =>
    intro N n m h1 h2 hM
    obtain ⟨N, rfl⟩ : ∃ M, N = M + 1 := ⟨N - 1, by omega⟩
    have e : n = 6 := by omega
    subst e
    rw [f_R_allLeads_L60, if_pos (by decide)]
    exact ⟨m, rfl, hM⟩
  | succ j ih =>
    intro N n m h1 h2 hM
    obtain ⟨N, rfl⟩ : ∃ M, N = M + 1 := ⟨N - 1, by omega⟩
    rw [f_R_allLeads_L60, if_neg (show ¬ (6 : Int32) ≤ nI n from fun hh => by have := (le_c (N := 6) (by omega) (by omega)).mp hh; omega)]
    obtain ⟨m1, p1, q1⟩ := rl_3 (fun σ x1 x2 x3 => f_R_allLeads_L60 N σ x1 x2 x3) (cl_rds (fun r i => bt_ (Rm_ bo L r) i) s n) hW hX hL x1 (nI n) 6 100 0 m (by omega) (by omega) hM
    obtain ⟨m2, p2, q2⟩ := ih N (n + 1) m1 (by omega) (by omega) q1
    refine ⟨m2, ?_, q2⟩
    refine Eq.trans p1 ?_
    show f_R_allLeads_L60 N σ x1 m1 (nI n + 1) = _
    rw [nI_1]
    exact p2
theorem rl_1 (hW : WF_ g kd ga gb gc hg bo) {r : Nat} (hr : r < 6) : ∀ (j N n : Nat) (σ : MZ_), n + j = g → j < N → RG_ σ g kd ga gb gc hg bo → MK_ (σ 8) g E → (∀ i, i < n → σ 10 i = lv_ kd ga gb E n i) → ∃ σ', f_R_allLeads_L6 N σ (nI r) (nI n) = f_R_allLeads_L60 100 σ' (nI r) (Rm_ bo (lv_ kd ga gb E g) r) (nI 0) ∧ Ox_ 10 σ σ' ∧ (∀ i, i < g → σ' 10 i = lv_ kd ga gb E g i) := by
  have hg80 := hW.1
  intro j
  induction j with
  | zero =>
    intro N n σ h1 h2 hX hE hM
    obtain ⟨N, rfl⟩ : ∃ M, N = M + 1 := ⟨N - 1, by omega⟩
    have e : n = g := by omega
    subst e
    have hin : vp_in (nI r) 6 := vp_in_nI hr (by omega)
    rw [f_R_allLeads_L6, hX.1, if_pos ((le_c (by omega) (by omega)).mpr (Nat.le_refl _)), gd_in hin, nI_clamp (by omega)]
    refine ⟨σ, ?_, ox_r, hM⟩
    unfold Rm_
    cases hb : bo r with
    | none => rw [hX.2.2.2 r hr hb, if_pos (by decide)]; rfl
    | some b =>
      have hbg := hW.2.2 r b hr hb
      rw [hX.2.2.1 r b hr hb, if_neg (show ¬ nI (b + 1) ≤ 0 from fun hh => by have := (li_le 0 rfl (by omega) (by omega)).mp hh; omega), gd_in hin, li_m1 (x := nI (b + 1)) rfl, gd_in (vp_in_nI (show b < 80 by omega) (by omega)), nI_clamp (show b < 2 ^ 31 by omega), hM b hbg]
      rfl
  | succ j ih =>
    intro N n σ h1 h2 hX hE hM
    obtain ⟨N, rfl⟩ : ∃ M, N = M + 1 := ⟨N - 1, by omega⟩
    rw [f_R_allLeads_L6, hX.1, if_neg (fun hh => by have := (le_c (by omega) (by omega)).mp hh; omega), bd_s (rl_now hX hW hE (show n < g by omega) hM), gd_in (vp_in_nI (by omega) (by omega)), st_e, nI_clamp (show n < 2 ^ 31 by omega), nI_1]
    obtain ⟨σ', p, hx, hz⟩ := ih N (n + 1) (va_up σ 10 (upd (σ 10) n (fL_ kd ga gb E (lv_ kd ga gb E n) n))) (by omega) (by omega) (rg_x hX ox_u (by omega)) (by rw [ox_u (c := 10) 8 (by omega)]; exact hE) (by rw [va_up_self]; exact lv_put hM)
    exact ⟨σ', p, ox_t ox_u hx, hz⟩
theorem rl_all (hW : WF_ g kd ga gb gc hg bo) (hX : RG_ σ g kd ga gb gc hg bo) {r : Nat} (hr : r < 6) : ∃ m σ', f_R_allLeads σ (nI r) = some (m, σ') ∧ (∀ k, k ≠ 8 → k ≠ 10 → σ' k = σ k) ∧ MK_ (σ' 8) g (Em_ g kd ga gb bo) ∧ (∀ i, bt_ m i = cl_all 6 (LR_ g kd ga gb bo) r i) := by
  obtain ⟨s1, p1, x1, m1⟩ := re_all hW hX
  obtain ⟨s2, p2, x2, m2⟩ := rl_1 hW hr g 100 0 s1 (by omega) (by have := hW.1; omega) (rg_x hX x1 (by omega)) m1 (fun i hi => by omega)
  obtain ⟨m, p3, q3⟩ := rl_4 (LR_ g kd ga gb bo r) hW (rg_x (rg_x hX x1 (by omega)) x2 (by omega)) m2 (nI r) 6 100 0 (Rm_ bo (Ld_ g kd ga gb bo) r) (by omega) (by omega) (fun i => rfl)
  refine ⟨m, s2, ?_, fun k h8 h10 => (x2 k h10).trans (x1 k h8), by rw [x2 8 (by omega)]; exact m1, fun i => ?_⟩
  · unfold f_R_allLeads
    rw [bd_s p1]
    exact Eq.trans p2 p3
  · rw [q3 i]
    exact (cl_eq (LR_ g kd ga gb bo) (fun j k h => lr_6 hW j k h) hr i).symm
end LEAD
