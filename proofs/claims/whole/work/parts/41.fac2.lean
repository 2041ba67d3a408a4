/-! more calls: register, count, begins, leads, parse -/
section FAC2
variable {σ μ : MZ_}
theorem vn_register (h : Vn_ σ μ) (a : Int32) : ∃ x, f_S_register σ a = some x ∧ f_R_register μ a = some (x, va_up μ 30 (fun _ => 0)) := by
  obtain ⟨g, h1, h2, h3, h4, h5⟩ := vn_30 h (fun _ => 0)
  obtain ⟨h6, -⟩ := h5
  unfold f_S_register f_R_register
  rw [st_e, bd_s (in_f _ _ _)]
  generalize va_up μ 30 (fun _ => (0 : Int32)) = m at h6 ⊢
  have hreg : f_S_isRegister a = some (if 0 ≤ a ∧ a ≤ 3 then 1 else 0) := by
    unfold f_S_isRegister
    by_cases q1 : a < 0
    · rw [if_pos q1, if_neg (show ¬ (0 ≤ a ∧ a ≤ 3) from fun hh => Int32.not_le.mpr q1 hh.1)]
    · rw [if_neg q1]
      by_cases q2 : 4 ≤ a
      · rw [if_pos q2, if_neg (show ¬ (0 ≤ a ∧ a ≤ 3) from fun hh => absurd (Int32.le_trans q2 hh.2) (by decide))]
      · have q1 : 0 ≤ a := Int32.not_lt.mp q1
        obtain ⟨n, hn, rfl⟩ := nI_back (g := 4) (by omega) q1 q2
        rw [if_neg q2, if_pos ⟨q1, (show nI n ≤ nI 3 from (le_c (by omega) (by omega)).mpr (by omega))⟩]
  unfold f_M_kept
  by_cases q : 0 ≤ a ∧ a ≤ 3
  · rw [if_pos q] at hreg ⊢
    obtain ⟨n, hn, rfl⟩ := nI_back (g := 4) (by omega) q.1 (fun hh => absurd (Int32.le_trans hh q.2) (by decide))
    rw [bd_s hreg, if_neg (show ¬ (1 : Int32) = 0 by decide), bd_s hreg, if_neg (show ¬ (1 : Int32) = 0 by decide), if_neg (show ¬ (1 : Int32) = 0 by decide), gd_in (vp_in_nI hn (by omega)), gd_in (vp_in_nI hn (by omega)), nI_clamp (by omega), h6 n hn]
    exact ⟨_, rfl, rfl⟩
  · rw [if_neg q] at hreg ⊢
    rw [bd_s hreg, if_pos rfl, if_pos rfl]
    exact ⟨0, rfl, rfl⟩
theorem hb_is {g : Nat} {kd : Nat → Nat} {ga gb gc : Nat → Int32} {hg : Nat → Nat} {bo : Nat → Option Nat} (hW : WF_ g kd ga gb gc hg bo) (hX : XG_ σ g kd ga gb gc hg bo) {r : Nat} (hr : r < 6) : f_G_hasBody σ (nI r) = some (bI (bo r).isSome) := by
  have hg80 := hW.1
  unfold f_G_hasBody
  rw [bd_s (xg_rule hr), if_neg (by decide), gd_in (vp_in_nI hr (by omega)), nI_clamp (by omega)]
  cases hb : bo r with
  | none => rw [hX.2.2.2 r hr hb, if_pos rfl]; rfl
  | some b =>
    have hbg := hW.2.2 r b hr hb
    rw [hX.2.2.1 r b hr hb, if_neg]
    · rfl
    · intro hh
      have := congrArg Int32.toInt hh
      rw [nI_toInt (by omega)] at this
      have h2 : (-1 : Int32).toInt = -1 := by decide
      omega
theorem bd_both {g : Nat} (h : GR_ σ μ g) : ∀ (j N r : Nat) (x : Int32), r + j = 6 → j < N → ∃ y, f_G_bodies_L4 σ N x (nI r) = some y ∧ f_R_bodied_L4 μ N x (nI r) = some y := by
  obtain ⟨kd, ga, gb, gc, hg, bo, hW, hX, hR⟩ := h
  have hg80 := hW.1
  intro j
  induction j with
  | zero =>
    intro N r x h1 h2
    obtain ⟨N, rfl⟩ : ∃ M, N = M + 1 := ⟨N - 1, by omega⟩
    have e : r = 6 := by omega
    subst e
    rw [f_G_bodies_L4, f_R_bodied_L4, if_pos (by decide), if_pos (by decide)]
    exact ⟨x, rfl, rfl⟩
  | succ j ih =>
    intro N r x h1 h2
    obtain ⟨N, rfl⟩ : ∃ M, N = M + 1 := ⟨N - 1, by omega⟩
    have hr : r < 6 := by omega
    have hn : ¬ (6 : Int32) ≤ nI r := fun hh => by have := (le_c (N := 6) (by omega) (by omega)).mp hh; omega
    rw [f_G_bodies_L4, f_R_bodied_L4, if_neg hn, if_neg hn, bd_s (hb_is hW hX hr), gd_in (vp_in_nI hr (by omega)), nI_clamp (by omega), nI_1, Int32.add_zero]
    cases hb : bo r with
    | none =>
      rw [hR.2.2.2 r hr hb, if_pos (show bI (none : Option Nat).isSome = 0 by decide), if_pos (by decide)]
      exact ih N (r + 1) x (by omega) (by omega)
    | some b =>
      have hbg := hW.2.2 r b hr hb
      rw [hR.2.2.1 r b hr hb, if_neg (show ¬ bI (some b).isSome = 0 from bI_1 rfl), if_neg (show ¬ nI (b + 1) ≤ 0 from fun hh => by have := (li_le 0 rfl (by omega) (by omega)).mp hh; omega)]
      exact ih N (r + 1) (x + 1) (by omega) (by omega)
theorem vn_count (h : Vn_ σ μ) (a : Int32) : ∃ x, f_S_count σ a = some x ∧ f_R_count μ a = some (x, va_up μ 30 (fun _ => 0)) := by
  obtain ⟨g, h1, ⟨len, ht, hr, -⟩, h3, h4, h5⟩ := vn_30 h (fun _ => 0)
  unfold f_S_count f_R_count f_G_size f_T_size
  rw [st_e]
  generalize va_up μ 30 (fun _ => (0 : Int32)) = m at h1 ht hr h3 ⊢
  by_cases a0 : a = 0
  · rw [if_pos a0, if_pos a0]
    obtain ⟨kd, ga, gb, gc, hg, bo, hW, hX, hR⟩ := h1
    rw [hX.1, hR.1]
    exact ⟨_, rfl, rfl⟩
  rw [if_neg a0, if_neg a0]
  by_cases a1 : a = 1
  · rw [if_pos a1, if_pos a1]
    obtain ⟨y, e1, e2⟩ := bd_both h1 6 100 0 0 (by omega) (by omega)
    rw [bd_s (show f_G_bodies σ = some y from e1), bd_s (show f_R_bodied m = some y from e2)]
    exact ⟨y, rfl, rfl⟩
  rw [if_neg a1, if_neg a1]
  by_cases a2 : a = 2
  · rw [if_pos a2, if_pos a2]
    rcases h3 with ⟨e1, e2⟩ | ⟨e1, e2, -⟩
    · rw [e1, e2]; exact ⟨0, rfl, rfl⟩
    · rw [e1, e2]; exact ⟨1, rfl, rfl⟩
  rw [if_neg a2, if_neg a2]
  by_cases a3 : a = 3
  · rw [if_pos a3, if_pos a3, ht.1, hr.1]; exact ⟨_, rfl, rfl⟩
  rw [if_neg a3, if_neg a3]
  exact ⟨-1, rfl, rfl⟩
theorem vn_begins {g n : Nat} {c : Int32} (h : Vn_ σ μ) (hg : GR_ σ μ g) (hn : n < g) (hc : 0 ≤ c ∧ c ≤ 255) : ∃ x σ' μ', f_Y_canBegin σ (nI n) c = some (x, σ') ∧ f_R_begins μ (nI n) c = some (x, μ') ∧ Vn_ σ' μ' ∧ μ' 30 0 = 0 := by
  have hv := vn_30 h (fun _ => 0)
  have hG2 : GR_ σ (va_up μ 30 (fun _ => 0)) g := gr_c hg (fun _ _ => rfl) (fun k hk => va_up_ne _ _ (by omega))
  have t0 : (va_up μ 30 (fun _ => (0 : Int32))) 30 0 = 0 := by rw [va_up_self]
  obtain ⟨b, nb1, nb2, nb3⟩ := nd_both hG2 (nI n)
  obtain ⟨kd, ga, gb, gc, hgt, bo, hW, hX, hR⟩ := hG2
  unfold f_Y_canBegin f_R_begins
  rw [st_e]
  generalize va_up μ 30 (fun _ => (0 : Int32)) = m at hv hR t0 nb2 ⊢
  obtain ⟨s1, p1, x1, m1⟩ := xe_all hW hX
  have hX1 := xg_x hX x1 (by omega)
  obtain ⟨s2, p3, x3, m3⟩ := xb_all (c := c) hW hX1 m1
  obtain ⟨m2, p2, x2, -, e2⟩ := rb_all (c := c) hW hR
  have hb : b = true := by
    rw [xg_node hX hW.1 hn] at nb1
    cases b with
    | true => rfl
    | false => exact absurd (Option.some.inj nb1) (by decide)
  subst hb
  rw [bd_s p1, bd_s p3, bd_s (xm_10 (xg_x hX1 x3 (by omega)) hW.1 m3 hn), bI_o, bd_s nb2, if_neg (bI_1 rfl), bd_s (in_f _ _ _), if_pos hc, if_neg (show ¬ (1 : Int32) = 0 by decide), bd_s p2, gd_in (vp_in_nI (by have := hW.1; omega) (by omega)), nI_clamp (by have := hW.1; omega), e2 n hn, bI_o]
  exact ⟨_, s2, m2, rfl, rfl, vn_c hv (fun k hk => (x3 k (by omega)).trans (x1 k (by omega))) (fun k hk => x2 k (by omega) (by omega)), by rw [x2 30 (by omega) (by omega)]; exact t0⟩
theorem vn_leads {r : Nat} (h : Vn_ σ μ) (hr : r < 6) : ∃ x σ' μ', f_Y_ledTo σ (nI r) = some (x, σ') ∧ f_R_leads μ (nI r) = some (x, μ') ∧ Vn_ σ' μ' ∧ μ' 30 0 = 0 := by
  have hv := vn_30 h (fun _ => 0)
  have t0 : (va_up μ 30 (fun _ => (0 : Int32))) 30 0 = 0 := by rw [va_up_self]
  unfold f_Y_ledTo f_R_leads
  rw [st_e]
  generalize va_up μ 30 (fun _ => (0 : Int32)) = m at hv t0 ⊢
  obtain ⟨g, ⟨kd, ga, gb, gc, hgt, bo, hW, hX, hR⟩, -⟩ := id hv
  obtain ⟨s1, p1, x1, -, b1⟩ := xl_all hW hX
  obtain ⟨y, m2, p2, x2, -, b2⟩ := rl_all hW hR hr
  have e : s1 13 r = y := bt_ext (fun i => by rw [b1 r hr i, b2 i])
  rw [bd_s p1, if_neg (nI_pos (by omega)), if_neg (show ¬ (6 : Int32) ≤ nI r from fun hh => by have := (le_c (N := 6) (by omega) (by omega)).mp hh; omega), gd_in (vp_in_nI hr (by omega)), nI_clamp (by omega), e, bd_s (in_f _ _ _), if_pos (show 0 ≤ nI r ∧ nI r ≤ 5 from ⟨Int32.not_lt.mp (nI_pos (by omega)), (show nI r ≤ nI 5 from (le_c (by omega) (by omega)).mpr (by omega))⟩), if_neg (show ¬ (1 : Int32) = 0 by decide), bd_s p2]
  exact ⟨y, s1, m2, rfl, rfl, vn_c hv (fun k hk => x1 k (by omega) (by omega) (by omega)) (fun k hk => x2 k (by omega) (by omega)), by rw [x2 30 (by omega) (by omega)]; exact t0⟩
end FAC2
