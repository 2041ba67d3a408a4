/-! type and rule over both memories -/
section RULE
variable {σ μ : MZ_}
theorem nar_c : ∀ t, t < 256 → vp_nar .char (nI t) = nI t := by decide +kernel
theorem vn_type {t : Nat} (h : Vn_ σ μ) (ht : t ≤ 255) (hl : σ 33 0 < 40) : ∃ σ' μ', f_T_append σ (nI t) = some σ' ∧ f_R_type μ (nI t) = some (σ' 33 0, μ') ∧ Vn_ σ' μ' ∧ μ' 30 0 = 0 := by
  have hv := vn_30 h (fun _ => 0)
  have t0 : (va_up μ 30 (fun _ => (0 : Int32))) 30 0 = 0 := by rw [va_up_self]
  unfold f_T_append f_R_type
  rw [st_e]
  generalize va_up μ 30 (fun _ => (0 : Int32)) = m at hv t0 ⊢
  obtain ⟨g, hG, ⟨len, hw, hr, hq⟩, h3, h4, h5⟩ := hv
  have hlen : len < 40 := (li_lt 40 hw.1 (by have := hw.2.1; omega) (by omega)).mp hl
  have hin : vp_in (nI len) 40 := vp_in_nI hlen (by omega)
  have hcl : (nI len).toNatClampNeg = len := nI_clamp (by omega)
  rw [if_neg (show ¬ (40 : Int32) ≤ σ 33 0 from Int32.not_le.mpr hl), hw.1, gd_in hin, st_e, st_e, hcl, nar_c t (by omega), if_pos (show nI t ≤ 255 from (le_c (N := t) (n := 255) (by omega) (by omega)).mpr (by omega)), hr.1, if_neg (show ¬ nI len = 40 from fun hh => by have := (li_eq 40 (x := nI len) rfl (by omega) (by omega)).mp hh; omega), gd_in hin, st_e, st_e, hcl]
  have e1 : (va_up σ 21 (upd (σ 21) len (nI t))) 33 0 = nI len := hw.1
  have e2 : (va_up m 7 (upd (m 7) len (nI t))) 33 0 = nI len := hr.1
  rw [e1, e2, nI_1]
  have ks : ∀ k, k ≠ 21 → k ≠ 33 → (va_up (va_up σ 21 (upd (σ 21) len (nI t))) 33 (fun _ => nI (len + 1))) k = σ k := fun k a b => by rw [va_up_ne _ _ b, va_up_ne _ _ a]
  have km : ∀ k, k ≠ 7 → k ≠ 33 → (va_up (va_up m 7 (upd (m 7) len (nI t))) 33 (fun _ => nI (len + 1))) k = m k := fun k a b => by rw [va_up_ne _ _ b, va_up_ne _ _ a]
  refine ⟨_, _, rfl, rfl, ⟨g, gr_c hG (fun k hk => ks k (by omega) (by omega)) (fun k hk => km k (by omega) (by omega)), ⟨len + 1, ⟨rfl, by omega, fun i hi => ?_⟩, ⟨rfl, by omega⟩, fun i hi => ?_⟩, ?_, ?_, lt_c h5 (fun k hk => ks k (by omega) (by omega)) (fun k hk => km k (by omega) (by omega))⟩, ?_⟩
  · show ∃ t', t' ≤ 255 ∧ upd (σ 21) len (nI t) i = nI t'
    by_cases e : i = len
    · subst e; exact ⟨t, ht, pk_us⟩
    · rw [pk_un e]; exact hw.2.2 i (by omega)
  · show upd (σ 21) len (nI t) i = upd (m 7) len (nI t) i
    by_cases e : i = len
    · subst e; rw [pk_us, pk_us]
    · rw [pk_un e, pk_un e]; exact hq i (by omega)
  · rw [ks 30 (by omega) (by omega), km 32 (by omega) (by omega)]
    rcases h3 with h3 | ⟨a, b, c⟩
    · exact Or.inl h3
    · exact Or.inr ⟨a, b, sg_c c (fun k hk => ks k (by omega) (by omega)) (fun k hk => km k (by omega) (by omega))⟩
  · rw [km 35 (by omega) (by omega)]; exact h4
  · rw [km 30 (by omega) (by omega)]; exact t0
theorem vn_rule {g r n : Nat} (h : Vn_ σ μ) (hg : GR_ σ μ g) (hr : r < 6) (hn : n < g) : ∃ x σ1 μ', f_G_setBody σ (nI r) (nI n) = some σ1 ∧ f_G_bodies (va_up σ1 30 (fun _ => 0)) = some x ∧ f_R_rule μ (nI r) (nI n) = some (x, μ') ∧ Vn_ (va_up σ1 30 (fun _ => 0)) μ' ∧ μ' 30 0 = 0 := by
  have hv := vn_30 h (fun _ => 0)
  have hG2 : GR_ σ (va_up μ 30 (fun _ => 0)) g := gr_c hg (fun _ _ => rfl) (fun k hk => va_up_ne _ _ (by omega))
  have t0 : (va_up μ 30 (fun _ => (0 : Int32))) 30 0 = 0 := by rw [va_up_self]
  obtain ⟨b, nb1, nb2, nb3⟩ := nd_both hG2 (nI n)
  unfold f_G_setBody f_R_rule
  rw [st_e]
  generalize va_up μ 30 (fun _ => (0 : Int32)) = m at hv hG2 t0 nb2 ⊢
  obtain ⟨-, -, hTX, -, h4, h5⟩ := hv
  obtain ⟨kd, ga, gb, gc, hgt, bo, hW, hX, hR⟩ := hG2
  have hg80 := hW.1
  have hb : b = true := by
    rw [xg_node hX hg80 hn] at nb1
    cases b with
    | true => rfl
    | false => exact absurd (Option.some.inj nb1) (by decide)
  subst hb
  have hin : vp_in (nI r) 6 := vp_in_nI hr (by omega)
  have hcl : (nI r).toNatClampNeg = r := nI_clamp (by omega)
  have ks : ∀ k, k ≠ 7 → k ≠ 30 → (va_up (va_up σ 7 (upd (σ 7) r (nI n))) 30 (fun _ => (0 : Int32))) k = σ k := fun k a b => by rw [va_up_ne _ _ b, va_up_ne _ _ a]
  have km : ∀ k, k ≠ 6 → k ≠ 32 → (va_up (va_up m 6 (upd (m 6) r (nI (n + 1)))) 32 (fun _ => (0 : Int32))) k = m k := fun k a b => by rw [va_up_ne _ _ b, va_up_ne _ _ a]
  have hG3 : GR_ (va_up (va_up σ 7 (upd (σ 7) r (nI n))) 30 (fun _ => (0 : Int32))) (va_up (va_up m 6 (upd (m 6) r (nI (n + 1)))) 32 (fun _ => (0 : Int32))) g := by
    refine ⟨kd, ga, gb, gc, hgt, va_up bo r (some n), ⟨hW.1, hW.2.1, fun q b hq hb => ?_⟩, ⟨?_, ?_, fun q b hq hb => ?_, fun q hq hb => ?_⟩, ⟨?_, ?_, fun q b hq hb => ?_, fun q hq hb => ?_⟩⟩
    · by_cases e : q = r
      · subst e; rw [va_up_self] at hb; cases hb; exact hn
      · rw [va_up_ne _ _ e] at hb; exact hW.2.2 q b hq hb
    · rw [ks 31 (by omega) (by omega)]; exact hX.1
    · rw [ks 2 (by omega) (by omega), ks 3 (by omega) (by omega), ks 4 (by omega) (by omega), ks 5 (by omega) (by omega), ks 6 (by omega) (by omega)]; exact hX.2.1
    · show upd (σ 7) r (nI n) q = nI b
      by_cases e : q = r
      · subst e; rw [va_up_self] at hb; cases hb; rw [pk_us]
      · rw [va_up_ne _ _ e] at hb; rw [pk_un e]; exact hX.2.2.1 q b hq hb
    · show upd (σ 7) r (nI n) q = -1
      by_cases e : q = r
      · subst e; rw [va_up_self] at hb; cases hb
      · rw [va_up_ne _ _ e] at hb; rw [pk_un e]; exact hX.2.2.2 q hq hb
    · rw [km 31 (by omega) (by omega)]; exact hR.1
    · rw [km 1 (by omega) (by omega), km 2 (by omega) (by omega), km 3 (by omega) (by omega), km 4 (by omega) (by omega), km 5 (by omega) (by omega)]; exact hR.2.1
    · show upd (m 6) r (nI (n + 1)) q = nI (b + 1)
      by_cases e : q = r
      · subst e; rw [va_up_self] at hb; cases hb; rw [pk_us]
      · rw [va_up_ne _ _ e] at hb; rw [pk_un e]; exact hR.2.2.1 q b hq hb
    · show upd (m 6) r (nI (n + 1)) q = 0
      by_cases e : q = r
      · subst e; rw [va_up_self] at hb; cases hb
      · rw [va_up_ne _ _ e] at hb; rw [pk_un e]; exact hR.2.2.2 q hq hb
  obtain ⟨x, b1, b2⟩ := bd_both hG3 6 100 0 0 (by omega) (by omega)
  rw [bd_s (xg_rule hr), if_neg (show ¬ (1 : Int32) = 0 by decide), bd_s nb1, if_neg (bI_1 rfl), gd_in hin, st_e, hcl, bd_s (in_f _ _ _), if_pos (show 0 ≤ nI r ∧ nI r ≤ 5 from ⟨Int32.not_lt.mp (nI_pos (by omega)), (show nI r ≤ nI 5 from (le_c (by omega) (by omega)).mpr (by omega))⟩), if_neg (show ¬ (1 : Int32) = 0 by decide), bd_s nb2, if_neg (bI_1 rfl), gd_in hin, st_e, st_e, nI_1]
  refine ⟨x, _, _, rfl, b1, by rw [bd_s (show f_R_bodied _ = some x from b2)], ⟨g, hG3, tx_c hTX (fun k hk => ks k (by omega) (by omega)) (fun k hk => km k (by omega) (by omega)), Or.inl ⟨rfl, rfl⟩, ?_, lt_c h5 (fun k hk => ks k (by omega) (by omega)) (fun k hk => km k (by omega) (by omega))⟩, ?_⟩
  · rw [km 35 (by omega) (by omega)]; exact h4
  · rw [km 30 (by omega) (by omega)]; exact t0
end RULE
