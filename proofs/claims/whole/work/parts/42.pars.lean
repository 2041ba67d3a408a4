/-! parse and rule over both memories -/
section PARS
variable {σ μ : MZ_}
theorem lt_new {σ' m : MZ_} {v w : Int32} (h24 : ∀ i, i < 4 → σ' 24 i = m 18 i) (h42 : σ' 42 0 = 1) (h38 : σ' 38 0 = m 41 0) (h39 : σ' 39 0 = m 42 0) (h : (σ' 35 0 = 3 ∧ v = -1 ∧ w = 0) ∨ (σ' 35 0 = 1 ∧ σ' 37 0 = v ∧ w = 1) ∨ (σ' 35 0 = 2 ∧ σ' 37 0 = v ∧ w = 0)) : LT_ σ' (va_up (va_up (va_up m 43 (fun _ => 1)) 44 (fun _ => v)) 45 (fun _ => w)) := ⟨h24, Or.inr ⟨h42, rfl, h38, h39, h⟩⟩
theorem vn_parse {r : Nat} (h : Vn_ σ μ) (hs : σ 30 0 = 1) (hr : r < 6) (hb : μ 6 r ≠ 0) : ∃ K σ' μ' x, f_M_run σ (nI r) = some σ' ∧ f_R_parse K μ (nI r) = some (x, μ') ∧ Vn_ σ' μ' ∧
    ((σ' 35 0 = 1 ∧ f_M_answer σ' = some x ∧ μ' 30 0 = 0) ∨ (σ' 35 0 = 2 ∧ μ' 30 0 = 4) ∨ (σ' 35 0 = 3 ∧ μ' 30 0 = 3)) := by
  have hv := vn_30 h (fun _ => 0)
  have t0 : (va_up μ 30 (fun _ => (0 : Int32))) 30 0 = 0 := by rw [va_up_self]
  have t6 : (va_up μ 30 (fun _ => (0 : Int32))) 6 r ≠ 0 := hb
  have huse : ∀ K, f_R_parse K μ (nI r) = f_R_parse K μ (nI r) := fun _ => rfl
  obtain ⟨g, hG, hTX, h3, h4, h5⟩ := hv
  rcases h3 with ⟨e, -⟩ | ⟨-, e32, hSG⟩
  · rw [e] at hs; exact absurd hs (by decide)
  obtain ⟨len, ht, hrt, hq⟩ := id hTX
  obtain ⟨K, σ', m', rr, p1, p2, fx, gx, h42, m35, h38, h39, h24, hrr, w1, w0, w2⟩ := par_run hSG ht hrt hq h4 hr t6
  have hhead : f_R_parse K μ (nI r) = st_ (va_up m' 43 (fun _ => 1)) fun σ2 => if (σ2 38 0) = 0 then st_ (va_up σ2 44 (fun _ => σ2 36 0)) fun σ3 => if (σ3 38 0) = 0 then if (σ3 35 0) = 0 then st_ (va_up σ3 45 (fun _ => 0)) fun σ5 => if (σ5 38 0) = 0 then if (σ5 35 0) = 0 then (f_R_fails σ5 4).bind fun u6 => some (u6.1, u6.2)
          else some (σ5 37 0, σ5)
        else (f_R_fails σ5 3).bind fun u7 => some (u7.1, u7.2)
      else st_ (va_up σ3 45 (fun _ => 1)) fun σ6 => if (σ6 38 0) = 0 then if (σ6 35 0) = 0 then (f_R_fails σ6 4).bind fun u8 => some (u8.1, u8.2)
        else some (σ6 37 0, σ6)
      else (f_R_fails σ6 3).bind fun u9 => some (u9.1, u9.2)
    else st_ (va_up σ3 45 (fun _ => 0)) fun σ4 => if (σ4 38 0) = 0 then if (σ4 35 0) = 0 then (f_R_fails σ4 4).bind fun u4 => some (u4.1, u4.2)
      else some (σ4 37 0, σ4)
    else (f_R_fails σ4 3).bind fun u5 => some (u5.1, u5.2)
  else st_ (va_up σ2 44 (fun _ => (-1))) fun σ7 => if (σ7 38 0) = 0 then if (σ7 35 0) = 0 then st_ (va_up σ7 45 (fun _ => 0)) fun σ9 => if (σ9 38 0) = 0 then if (σ9 35 0) = 0 then (f_R_fails σ9 4).bind fun u12 => some (u12.1, u12.2)
        else some (σ9 37 0, σ9)
      else (f_R_fails σ9 3).bind fun u13 => some (u13.1, u13.2)
    else st_ (va_up σ7 45 (fun _ => 1)) fun σ10 => if (σ10 38 0) = 0 then if (σ10 35 0) = 0 then (f_R_fails σ10 4).bind fun u14 => some (u14.1, u14.2)
      else some (σ10 37 0, σ10)
    else (f_R_fails σ10 3).bind fun u15 => some (u15.1, u15.2)
  else st_ (va_up σ7 45 (fun _ => 0)) fun σ8 => if (σ8 38 0) = 0 then if (σ8 35 0) = 0 then (f_R_fails σ8 4).bind fun u10 => some (u10.1, u10.2)
    else some (σ8 37 0, σ8)
  else (f_R_fails σ8 3).bind fun u11 => some (u11.1, u11.2) := by
    unfold f_R_parse
    rw [st_e, if_neg (show ¬ (va_up μ 30 (fun _ => (0 : Int32))) 32 0 = 0 by rw [e32]; decide), bd_s (in_f _ _ _), if_pos (show 0 ≤ nI r ∧ nI r ≤ 5 from ⟨Int32.not_lt.mp (nI_pos (by omega)), (show nI r ≤ nI 5 from (le_c (by omega) (by omega)).mpr (by omega))⟩), if_neg (show ¬ (1 : Int32) = 0 by decide), gd_in (vp_in_nI hr (by omega)), nI_clamp (by omega), if_neg t6, bd_s p2]
  -- what stands afterwards
  have keep : ∀ (v w y : Int32), LT_ σ' (va_up (va_up (va_up m' 43 (fun _ => 1)) 44 (fun _ => v)) 45 (fun _ => w)) → Vn_ σ' (va_up (va_up (va_up m' 43 (fun _ => 1)) 44 (fun _ => v)) 45 (fun _ => w)) := by
    intro v w y hL
    have kk : ∀ k, k ≤ 7 ∨ (31 ≤ k ∧ k ≤ 33) → (va_up (va_up (va_up m' 43 (fun _ => (1 : Int32))) 44 (fun _ => v)) 45 (fun _ => w)) k = (va_up μ 30 (fun _ => (0 : Int32))) k := fun k hk => by
      rw [va_up_ne _ _ (by omega), va_up_ne _ _ (by omega), va_up_ne _ _ (by omega)]
      exact gx k (by omega)
    refine ⟨g, gr_c hG (fun k hk => fx k (by omega)) (fun k hk => kk k (by omega)), tx_c hTX (fun k hk => fx k (by omega)) (fun k hk => kk k (by omega)), Or.inr ⟨?_, ?_, sg_c hSG (fun k hk => fx k (by omega)) (fun k hk => kk k (by omega))⟩, ?_, hL⟩
    · rw [fx 30 (by omega)]; exact hs
    · rw [kk 32 (by omega)]; exact e32
    · rw [va_up_ne _ _ (show (35 : Nat) ≠ 45 by omega), va_up_ne _ _ (show (35 : Nat) ≠ 44 by omega), va_up_ne _ _ (show (35 : Nat) ≠ 43 by omega)]
      exact m35
  have k30 : m' 30 0 = 0 := by rw [gx 30 (by omega)]; exact t0
  rcases hrr with rfl | rfl | rfl
  · obtain ⟨a1, a2, a3, a4⟩ := w0 rfl
    refine ⟨K, σ', va_up (va_up (va_up (va_up m' 43 (fun _ => 1)) 44 (fun _ => m' 36 0)) 45 (fun _ => 0)) 30 (fun _ => 4), 0, p1, ?_, vn_30 (keep _ _ 0 (lt_new h24 h42 h38 h39 (Or.inr (Or.inr ⟨a1, a4, rfl⟩)))) _, Or.inr (Or.inl ⟨a1, rfl⟩)⟩
    rw [hhead, st_e, if_pos (show (va_up m' 43 (fun _ => (1 : Int32))) 38 0 = 0 from a2), st_e]
    show (if m' 38 0 = 0 then if m' 35 0 = 0 then _ else _ else _) = _
    rw [if_pos a2, if_pos a3, st_e]
    show (if m' 38 0 = 0 then if m' 35 0 = 0 then _ else _ else _) = _
    rw [if_pos a2, if_pos a3]
    rfl
  · obtain ⟨a1, a2, a3, a4, a5⟩ := w1 rfl
    have a3n : ¬ m' 35 0 = 0 := by rw [a3]; decide
    refine ⟨K, σ', va_up (va_up (va_up m' 43 (fun _ => 1)) 44 (fun _ => m' 36 0)) 45 (fun _ => 1), m' 37 0, p1, ?_, keep _ _ 0 (lt_new h24 h42 h38 h39 (Or.inr (Or.inl ⟨a1, a4, rfl⟩))), Or.inl ⟨a1, a5, k30⟩⟩
    rw [hhead, st_e, if_pos (show (va_up m' 43 (fun _ => (1 : Int32))) 38 0 = 0 from a2), st_e]
    show (if m' 38 0 = 0 then if m' 35 0 = 0 then _ else _ else _) = _
    rw [if_pos a2, if_neg a3n, st_e]
    show (if m' 38 0 = 0 then if m' 35 0 = 0 then _ else _ else _) = _
    rw [if_pos a2, if_neg a3n]
    rfl
  · obtain ⟨a1, a2⟩ := w2 rfl
    have a2n : ¬ m' 38 0 = 0 := by rw [a2]; decide
    refine ⟨K, σ', va_up (va_up (va_up (va_up m' 43 (fun _ => 1)) 44 (fun _ => -1)) 45 (fun _ => 0)) 30 (fun _ => 3), 0, p1, ?_, vn_30 (keep _ _ 0 (lt_new h24 h42 h38 h39 (Or.inl ⟨a1, rfl, rfl⟩))) _, Or.inr (Or.inr ⟨a1, rfl⟩)⟩
    rw [hhead, st_e, if_neg (show ¬ (va_up m' 43 (fun _ => (1 : Int32))) 38 0 = 0 from a2n), st_e]
    show (if m' 38 0 = 0 then _ else _) = _
    rw [if_neg a2n, st_e]
    show (if m' 38 0 = 0 then _ else _) = _
    rw [if_neg a2n]
    rfl
end PARS
