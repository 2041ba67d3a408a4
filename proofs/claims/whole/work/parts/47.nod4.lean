/-! node where it is made: the other system's side -/
section NOD4
variable {μ : MZ_} {g : Nat} {k a b c : Int32}
def rw_ (m : MZ_) (g : Nat) (k a b c : Int32) (hh : Nat) : MZ_ := va_up (va_up (va_up (va_up (va_up (va_up m 1 (upd (m 1) g k)) 2 (upd (m 2) g a)) 3 (upd (m 3) g b)) 4 (upd (m 4) g c)) 5 (upd (m 5) g (nI hh))) 31 (fun _ => nI (g + 1))
theorem rn_node {m : MZ_} {hh : Nat} (hm : m = va_up μ 30 (fun _ => 0)) (h31 : m 31 0 = nI g) (hg80 : g < 80) (h1 : f_R_fits m k a b c = some 1) (h2 : f_R_height m k a b = some (nI hh)) (h8 : hh ≤ 8) : f_R_node μ k a b c = some (nI g, rw_ m g k a b c hh) := by
  have hin : vp_in (m 31 0) 80 := li_in h31 hg80 (by omega)
  have hcl : (m 31 0).toNatClampNeg = g := li_cl h31 (by omega)
  unfold f_R_node
  rw [st_e, ← hm, bd_s h1, if_neg (show ¬ (1 : Int32) = 0 by decide), bd_s h2, if_pos (show nI hh ≤ 8 from (le_c (N := hh) (n := 8) (by omega) (by omega)).mpr h8), if_neg (show ¬ m 31 0 = 80 from fun q => by have := (li_eq 80 h31 (by omega) (by omega)).mp q; omega), gd_in hin, st_e, hcl]
  show gd_ (m 31 0) 80 _ = _
  rw [gd_in hin, st_e]
  show gd_ (m 31 0) 80 _ = _
  rw [gd_in hin, st_e]
  show gd_ (m 31 0) 80 _ = _
  rw [gd_in hin, st_e]
  show (f_R_height m k a b).bind _ = _
  rw [bd_s h2]
  show gd_ (m 31 0) 80 _ = _
  rw [gd_in hin, st_e, st_e]
  show some ((m 31 0 + 1) - 1, va_up (va_up (va_up (va_up (va_up (va_up m 1 (upd (m 1) g k)) 2 (upd (m 2) (m 31 0).toNatClampNeg a)) 3 (upd (m 3) (m 31 0).toNatClampNeg b)) 4 (upd (m 4) (m 31 0).toNatClampNeg c)) 5 (upd (m 5) (m 31 0).toNatClampNeg (nI hh))) 31 (fun _ => m 31 0 + 1)) = _
  rw [hcl, h31, nI_1, nI_pred]
  rfl
theorem rn_full {m : MZ_} {hh : Nat} (hm : m = va_up μ 30 (fun _ => 0)) (h31 : m 31 0 = nI 80) (h1 : f_R_fits m k a b c = some 1) (h2 : f_R_height m k a b = some (nI hh)) (h8 : hh ≤ 8) : f_R_node μ k a b c = some (0, va_up m 30 (fun _ => 2)) := by
  unfold f_R_node
  rw [st_e, ← hm, bd_s h1, if_neg (show ¬ (1 : Int32) = 0 by decide), bd_s h2, if_pos (show nI hh ≤ 8 from (le_c (N := hh) (n := 8) (by omega) (by omega)).mpr h8), if_pos (show m 31 0 = 80 from h31)]
  rfl
end NOD4
