/-! node where it is made: two parts -/
section NOD6
variable {σ : MZ_} {g : Nat} {k c : Int32}
theorem xn_2 {x y hx hy : Nat} (h31 : σ 31 0 = nI g) (hg80 : g < 80) (hal : f_G_allows σ k (nI x) (nI y) c = some 1) (hk : vp_in k 14) (hp : PT_ k.toNatClampNeg = 2) (hxg : x < g) (hyg : y < g) (h6 : σ 6 x = nI hx) (h7 : σ 6 y = nI hy) (hx8 : hx ≤ 8) (hy8 : hy ≤ 8) : ∃ σ', f_G_add σ k (nI x) (nI y) c = some (nI g, σ') ∧ Nx_ σ σ' g k (nI x) (nI y) c (nI (max hx hy + 1)) := by
  have hin : vp_in (nI g) 80 := vp_in_nI hg80 (by omega)
  have hcl : (nI g).toNatClampNeg = g := nI_clamp (by omega)
  have hinx : vp_in (nI x) 80 := vp_in_nI (by omega) (by omega)
  have hclx : (nI x).toNatClampNeg = x := nI_clamp (by omega)
  have hiny : vp_in (nI y) 80 := vp_in_nI (by omega) (by omega)
  have hcly : (nI y).toNatClampNeg = y := nI_clamp (by omega)
  have hfull : f_G_isFull σ = some 0 := by
    unfold f_G_isFull
    rw [if_pos (show σ 31 0 < 80 from (li_lt 80 h31 (by omega) (by omega)).mpr hg80)]
  let f1 := upd (σ 6) g 1
  let f2 := upd f1 g (1 + f1 x)
  have ex : f2 x = nI hx := by
    show upd (upd (σ 6) g 1) g _ x = _
    rw [pk_un (show x ≠ g by omega), pk_un (show x ≠ g by omega), h6]
  have ey : f2 y = nI hy := by
    show upd (upd (σ 6) g 1) g _ y = _
    rw [pk_un (show y ≠ g by omega), pk_un (show y ≠ g by omega), h7]
  have e : (1 : Int32) + (if f2 x < f2 y then f2 y else f2 x) = nI (max hx hy + 1) := by
    rw [ex, ey, Int32.add_comm]
    by_cases q : hx < hy
    · rw [if_pos (show nI hx < nI hy from (nI_ltI (by omega) (by omega)).mpr q), Nat.max_eq_right (by omega)]; exact nI_1 hy
    · rw [if_neg (show ¬ nI hx < nI hy from fun hh => q ((nI_ltI (by omega) (by omega)).mp hh)), Nat.max_eq_left (by omega)]; exact nI_1 hx
  refine ⟨va_up (va_up (s4_ σ g k (nI x) (nI y) c) 6 (upd f2 g (nI (max hx hy + 1)))) 31 (fun _ => nI (g + 1)), ?_, nx_of (fun i hi => by rw [pk_un hi]; show upd (upd (σ 6) g 1) g _ i = _; rw [pk_un hi, pk_un hi]) pk_us⟩
  unfold f_G_add
  rw [bd_s hfull, if_pos (show (0 : Int32) = 0 from rfl), bd_s hal, if_neg (show ¬ (1 : Int32) = 0 by decide), h31, gd_in hin, st_e, gd_in hin, st_e, gd_in hin, st_e, gd_in hin, st_e, gd_in hin, st_e, gd_in hk, hp, if_neg (by decide), gd_in hinx, gd_in hin, st_e, gd_in hk, if_neg (by decide), gd_in hinx, gd_in hiny, gd_in hin, st_e, st_e, hcl, hclx, hcly]
  show some (nI g, va_up (va_up (va_up (va_up (s4_ σ g k (nI x) (nI y) c) 6 f1) 6 f2) 6 (upd f2 g (1 + (if f2 x < f2 y then f2 y else f2 x)))) 31 (fun _ => σ 31 0 + 1)) = _
  rw [e, h31, nI_1]
  congr 2
  funext j
  by_cases q : j = 31
  · subst q; rw [va_up_self, va_up_self]
  · rw [va_up_ne _ _ q, va_up_ne _ _ q]
    by_cases q6 : j = 6
    · subst q6; rw [va_up_self, va_up_self]
    · rw [va_up_ne _ _ q6, va_up_ne _ _ q6, va_up_ne _ _ q6, va_up_ne _ _ q6]
end NOD6
