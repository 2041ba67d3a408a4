/-! node over both memories -/
section NOD9
variable {σ μ : MZ_} {a b c : Int32}
theorem pt_0 : ∀ n, n < 14 → h1_ n = false → PT_ (nI n).toNatClampNeg = 0 ∧ f_R_hasFirst (nI n) = some 0 ∧ f_R_hasSecond (nI n) = some 0 := by decide +kernel
theorem pt_1 : ∀ n, n < 14 → h1_ n = true → h2_ n = false → PT_ (nI n).toNatClampNeg = 1 ∧ f_R_hasFirst (nI n) = some 1 ∧ f_R_hasSecond (nI n) = some 0 := by decide +kernel
theorem pt_2 : ∀ n, n < 14 → h1_ n = true → h2_ n = true → PT_ (nI n).toNatClampNeg = 2 ∧ f_R_hasFirst (nI n) = some 1 ∧ f_R_hasSecond (nI n) = some 1 := by decide +kernel
theorem vn_node {n : Nat} (h : Vn_ σ μ) (hn : n ≤ 13) (hal : f_G_allows σ (nI n) a b c = some 1) : (σ 31 0 = 80 ∧ ∃ μ', f_R_node μ (nI n) a b c = some (0, μ') ∧ Vn_ σ μ' ∧ μ' 30 0 = 2) ∨ (σ 31 0 < 80 ∧ ∃ x σ' μ', f_G_add σ (nI n) a b c = some (x, σ') ∧ f_R_node μ (nI n) a b c = some (x, μ') ∧ Vn_ σ' μ' ∧ μ' 30 0 = 0) := by
  have hv := vn_30 h (fun _ => 0)
  obtain ⟨g, ⟨kd, ga, gb, gc, hg, bo, hW, hX, hR⟩, hT, h3, h4, h5⟩ := id hv
  have hg80 := hW.1
  obtain ⟨ok, o1, -, o3⟩ := nf_all (a := a) (b := b) (c := c) hn hW hX hR
  have hok : ok = true := by
    rw [hal] at o1
    cases ok with
    | true => rfl
    | false => exact absurd (Option.some.inj o1) (by decide)
  obtain ⟨f1, hh, f2, l1, l8, hK⟩ := o3 hok
  by_cases hgg : g = 80
  · subst hgg
    exact Or.inl ⟨hX.1, _, rn_full rfl hR.1 f1 f2 l8, vn_30 hv _, rfl⟩
  · have hlt : g < 80 := by omega
    refine Or.inr ⟨(li_lt 80 hX.1 (by omega) (by omega)).mpr hlt, ?_⟩
    have fin : ∀ σ' v, f_G_add σ (nI n) a b c = some (nI g, σ') → Nx_ σ σ' g (nI n) a b c v → nI hh = v → ∃ x σ' μ', f_G_add σ (nI n) a b c = some (x, σ') ∧ f_R_node μ (nI n) a b c = some (x, μ') ∧ Vn_ σ' μ' ∧ μ' 30 0 = 0 := by
      intro σ' v p1 p2 p3
      subst p3
      exact ⟨_, σ', _, p1, rn_node rfl hR.1 hlt f1 f2 l8, vn_made hW hX hR hT h3 h4 h5 hlt hn l1 l8 hK p2, rfl⟩
    cases q1 : h1_ n with
    | false =>
      have v1 : vp_in (nI n) 14 := vp_in_nI (by omega) (by omega)
      obtain ⟨v2, v3, v4⟩ := pt_0 n (by omega) q1
      obtain ⟨σ', p1, p2⟩ := xn_0 hX.1 hlt hal v1 v2
      rw [ht_0 v3 v4] at f2
      exact fin σ' _ p1 p2 (Option.some.inj f2).symm
    | true =>
      obtain ⟨x, hx, ex, -⟩ := hK.2.1 (of_decide_eq_true q1)
      subst ex
      cases q2 : h2_ n with
      | false =>
        have v1 : vp_in (nI n) 14 := vp_in_nI (by omega) (by omega)
        obtain ⟨v2, v3, v4⟩ := pt_1 n (by omega) q1 q2
        obtain ⟨σ', p1, p2⟩ := xn_1 hX.1 hlt hal v1 v2 hx (hX.2.1 x hx).2.2.2.2
        rw [ht_1 hW hx (hR.2.1 x hx).2.2.2.2 v3 v4] at f2
        exact fin σ' _ p1 p2 (Option.some.inj f2).symm
      | true =>
        obtain ⟨y, hy, ey, -⟩ := hK.2.2.1 (of_decide_eq_true q2)
        subst ey
        have v1 : vp_in (nI n) 14 := vp_in_nI (by omega) (by omega)
        obtain ⟨v2, v3, v4⟩ := pt_2 n (by omega) q1 q2
        obtain ⟨σ', p1, p2⟩ := xn_2 hX.1 hlt hal v1 v2 hx hy (hX.2.1 x hx).2.2.2.2 (hX.2.1 y hy).2.2.2.2 (hW.2.1 x hx).2.1.2 (hW.2.1 y hy).2.1.2
        rw [ht_2 hW hx hy (hR.2.1 x hx).2.2.2.2 (hR.2.1 y hy).2.2.2.2 v3 v4] at f2
        exact fin σ' _ p1 p2 (Option.some.inj f2).symm
end NOD9
