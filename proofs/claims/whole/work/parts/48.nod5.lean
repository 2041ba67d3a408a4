/-! node where it is made: the class's side -/
section NOD5
variable {σ : MZ_} {g : Nat} {k a b c : Int32}
/-- the memory with node g, its height v -/
def Nx_ (σ σ' : MZ_) (g : Nat) (k a b c v : Int32) : Prop := (∀ j, ¬ (2 ≤ j ∧ j ≤ 6) → j ≠ 31 → σ' j = σ j) ∧ σ' 2 = upd (σ 2) g k ∧ σ' 3 = upd (σ 3) g a ∧ σ' 4 = upd (σ 4) g b ∧ σ' 5 = upd (σ 5) g c ∧ (∀ i, i ≠ g → σ' 6 i = σ 6 i) ∧ σ' 6 g = v ∧ σ' 31 0 = nI (g + 1)
def s4_ (σ : MZ_) (g : Nat) (k a b c : Int32) : MZ_ := va_up (va_up (va_up (va_up σ 2 (upd (σ 2) g k)) 3 (upd (σ 3) g a)) 4 (upd (σ 4) g b)) 5 (upd (σ 5) g c)
theorem nx_of {f : Nat → Int32} {v : Int32} (h1 : ∀ i, i ≠ g → f i = σ 6 i) (h2 : f g = v) : Nx_ σ (va_up (va_up (s4_ σ g k a b c) 6 f) 31 (fun _ => nI (g + 1))) g k a b c v := by
  refine ⟨fun j h3 h4 => ?_, rfl, rfl, rfl, rfl, h1, h2, rfl⟩
  unfold s4_
  rw [va_up_ne _ _ h4, va_up_ne _ _ (by omega), va_up_ne _ _ (by omega), va_up_ne _ _ (by omega), va_up_ne _ _ (by omega), va_up_ne _ _ (by omega)]
theorem xn_0 (h31 : σ 31 0 = nI g) (hg80 : g < 80) (hal : f_G_allows σ k a b c = some 1) (hk : vp_in k 14) (hp : PT_ k.toNatClampNeg = 0) : ∃ σ', f_G_add σ k a b c = some (nI g, σ') ∧ Nx_ σ σ' g k a b c 1 := by
  have hin : vp_in (nI g) 80 := vp_in_nI hg80 (by omega)
  have hcl : (nI g).toNatClampNeg = g := nI_clamp (by omega)
  have hfull : f_G_isFull σ = some 0 := by
    unfold f_G_isFull
    rw [if_pos (show σ 31 0 < 80 from (li_lt 80 h31 (by omega) (by omega)).mpr hg80)]
  refine ⟨va_up (va_up (s4_ σ g k a b c) 6 (upd (σ 6) g 1)) 31 (fun _ => nI (g + 1)), ?_, nx_of (fun i hi => pk_un hi) pk_us⟩
  unfold f_G_add
  rw [bd_s hfull, if_pos (show (0 : Int32) = 0 from rfl), bd_s hal, if_neg (show ¬ (1 : Int32) = 0 by decide), h31, gd_in hin, st_e, gd_in hin, st_e, gd_in hin, st_e, gd_in hin, st_e, gd_in hin, st_e, gd_in hk, hp, if_pos (by decide), gd_in hk, if_pos (by decide), st_e, hcl]
  show some (nI g, va_up (va_up (s4_ σ g k a b c) 6 (upd (σ 6) g 1)) 31 (fun _ => σ 31 0 + 1)) = _
  rw [h31, nI_1]
theorem xn_1 {x hx : Nat} (h31 : σ 31 0 = nI g) (hg80 : g < 80) (hal : f_G_allows σ k (nI x) b c = some 1) (hk : vp_in k 14) (hp : PT_ k.toNatClampNeg = 1) (hxg : x < g) (h6 : σ 6 x = nI hx) : ∃ σ', f_G_add σ k (nI x) b c = some (nI g, σ') ∧ Nx_ σ σ' g k (nI x) b c (nI (hx + 1)) := by
  have hin : vp_in (nI g) 80 := vp_in_nI hg80 (by omega)
  have hcl : (nI g).toNatClampNeg = g := nI_clamp (by omega)
  have hinx : vp_in (nI x) 80 := vp_in_nI (by omega) (by omega)
  have hclx : (nI x).toNatClampNeg = x := nI_clamp (by omega)
  have hfull : f_G_isFull σ = some 0 := by
    unfold f_G_isFull
    rw [if_pos (show σ 31 0 < 80 from (li_lt 80 h31 (by omega) (by omega)).mpr hg80)]
  refine ⟨va_up (va_up (s4_ σ g k (nI x) b c) 6 (upd (upd (σ 6) g 1) g (nI (hx + 1)))) 31 (fun _ => nI (g + 1)), ?_, nx_of (fun i hi => by rw [pk_un hi, pk_un hi]) pk_us⟩
  unfold f_G_add
  rw [bd_s hfull, if_pos (show (0 : Int32) = 0 from rfl), bd_s hal, if_neg (show ¬ (1 : Int32) = 0 by decide), h31, gd_in hin, st_e, gd_in hin, st_e, gd_in hin, st_e, gd_in hin, st_e, gd_in hin, st_e, gd_in hk, hp, if_neg (by decide), gd_in hinx, gd_in hin, st_e, gd_in hk, if_pos (by decide), st_e, hcl, hclx]
  have e : (1 : Int32) + (upd (σ 6) g 1 x) = nI (hx + 1) := by
    rw [pk_un (show x ≠ g by omega), h6, Int32.add_comm]; exact nI_1 hx
  show some (nI g, va_up (va_up (va_up (s4_ σ g k (nI x) b c) 6 (upd (σ 6) g 1)) 6 (upd (upd (σ 6) g 1) g (1 + upd (σ 6) g 1 x))) 31 (fun _ => σ 31 0 + 1)) = _
  rw [e, h31, nI_1]
  congr 2
  funext j
  by_cases q : j = 31
  · subst q; rw [va_up_self, va_up_self]
  · rw [va_up_ne _ _ q, va_up_ne _ _ q]
    by_cases q6 : j = 6
    · subst q6; rw [va_up_self, va_up_self]
    · rw [va_up_ne _ _ q6, va_up_ne _ _ q6, va_up_ne _ _ q6]
end NOD5
