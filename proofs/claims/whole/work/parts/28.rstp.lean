/-! one step of the other system, over its cells -/
section RSTP
def GW_ (σ : MZ_) (kd bd : Nat → Nat) (I : Nat → Prop) : Prop := ∀ n, I n → n < 80 → σ 1 n = nI (kd n) ∧ kd n ≤ 13 ∧ (kd n = 1 ∨ kd n = 2 → 0 ≤ σ 2 n) ∧ ((4 ≤ kd n ∧ kd n ≤ 10) ∨ kd n = 12 → ∃ x, x < 80 ∧ I x ∧ σ 2 n = nI x) ∧ (kd n = 4 ∨ kd n = 5 ∨ kd n = 10 → ∃ y, y < 80 ∧ I y ∧ σ 3 n = nI y) ∧ (kd n = 4 → ∃ w, w ≤ 7 ∧ σ 4 n = nI w) ∧ (kd n = 9 → ∃ w, w ≤ 7 ∧ σ 3 n = nI w) ∧ (kd n = 11 → ∃ r, r < 6 ∧ σ 2 n = nI r ∧ bd r < 80 ∧ I (bd r) ∧ σ 6 r = nI (bd r + 1)) ∧ (kd n = 12 → ∃ r, r < 4 ∧ σ 3 n = nI r) ∧ (kd n = 13 → ∃ r, r < 4 ∧ σ 2 n = nI r)
def RT_ (σ : MZ_) (len : Nat) : Prop := σ 33 0 = nI len ∧ len ≤ 40
theorem gw_x {σ σ' : MZ_} {kd bd : Nat → Nat} {I : Nat → Prop} (h : GW_ σ kd bd I) (hx : Gx_ σ σ') : GW_ σ' kd bd I := by
  unfold GW_
  rw [hx 1 (by omega), hx 2 (by omega), hx 3 (by omega), hx 4 (by omega), hx 6 (by omega)]
  exact h
theorem rt_x {σ σ' : MZ_} {len : Nat} (h : RT_ σ len) (hx : Gx_ σ σ') : RT_ σ' len := by
  unfold RT_
  rw [hx 33 (by omega)]
  exact h
theorem st_e {α β : Type} (e : β) (k : β → Option α) : st_ e k = k e := rfl
variable {I : Nat → Prop} {σ : MZ_} {f : RF_} {S : List RF_} {gd d ti : Nat} {vl : Int32} {ps : PS_} {kd bd : Nat → Nat} {len : Nat}
theorem rr_tir (h : RR_ σ I (S, gd, vl, d, 0, ps)) : RR_ (va_up σ 38 (fun _ => 1)) I (S, gd, vl, d, 1, ps) ∧ Gx_ σ (va_up σ 38 (fun _ => 1)) := by
  obtain ⟨a, ⟨c1, c2, c3, -, c5⟩, e⟩ := rr_4 h
  exact ⟨rr_i ⟨zb_c a rfl rfl rfl rfl rfl rfl rfl, ⟨c1, c2, c3, ⟨rfl, by omega⟩, c5⟩, fun e => by omega⟩, gx_up (by omega)⟩
theorem rr_dec (h : RR_ σ I (S, gd, vl, d + 1, ti, ps)) : RR_ (va_up σ 39 (fun _ => σ 39 0 - 1)) I (S, gd, vl, d, ti, ps) ∧ Gx_ σ (va_up σ 39 (fun _ => σ 39 0 - 1)) := by
  obtain ⟨a, ⟨c1, c2, c3, c4⟩, e⟩ := rr_4 h
  exact ⟨rr_i ⟨zb_c a rfl rfl rfl rfl rfl rfl rfl, ⟨c1, c2, ⟨li_m1 c3.1, by omega⟩, c4⟩, fun h => by have := e h; omega⟩, gx_up (by omega)⟩
theorem rr_call (h : RR_ σ I (S, gd, vl, d, 0, ps)) (t : Nat) (ht : t ≤ 1) (h0 : t = 0 → d < 40 ∧ ps.2.2.2.1 < 300) {x : Int32} (hx : x = nI t) : RR_ (va_up (va_up (va_up σ 38 (fun _ => x)) 39 (fun _ => σ 39 0 + 1)) 40 (fun _ => σ 40 0 + 1)) I (S, gd, vl, d + 1, t, (ps.1, ps.2.1, ps.2.2.1, ps.2.2.2.1 + 1, ps.2.2.2.2)) ∧ Gx_ σ (va_up (va_up (va_up σ 38 (fun _ => x)) 39 (fun _ => σ 39 0 + 1)) 40 (fun _ => σ 40 0 + 1)) := by
  obtain ⟨a, ⟨c1, c2, c3, c4, c5, c6, c7, c8, c9⟩, e⟩ := rr_4 h
  have e2 := e rfl
  refine ⟨rr_i ⟨zb_c a rfl rfl rfl rfl rfl rfl rfl, ⟨c1, c2, ⟨li_p1 c3.1, by omega⟩, ⟨hx, ht⟩, c5, c6, c7, ⟨li_p1 c8.1, by show ps.2.2.2.1 + 1 ≤ 301; omega⟩, c9⟩, fun h => ?_⟩, gx_t (gx_up (j := 38) (by omega)) (gx_t (gx_up (j := 39) (by omega)) (gx_up (j := 40) (by omega)))⟩
  have := h0 h
  exact ⟨by omega, by show ps.2.2.2.1 + 1 ≤ 300; omega⟩
theorem rr_looked (h : RR_ σ I (f :: S, gd, vl, d, 0, ps)) (hT : RT_ σ len) {lo : Int32} (hi : Int32) (h0 : 0 ≤ lo) : ∃ σ', f_R_looked σ lo hi = some σ' ∧ RR_ σ' I (rk_ (σ 7) len f S gd vl d ps lo hi) ∧ Gx_ σ σ' := by
  obtain ⟨a, ⟨c1, c2, c3, c4, c5, c6, c7, c8, c9⟩, e⟩ := rr_4 h
  unfold f_R_looked rk_
  by_cases q0 : 1500 ≤ ps.2.1
  · rw [if_pos (show σ 41 0 = 1500 from (li_eq 1500 c6.1 (by omega) (by omega)).mpr (by omega)), if_pos q0]
    obtain ⟨r1, z1⟩ := rr_tir h
    exact ⟨_, rfl, r1, z1⟩
  · rw [if_neg (show ¬ σ 41 0 = 1500 from fun hh => by have := (li_eq 1500 c6.1 (by omega) (by omega)).mp hh; omega), if_neg q0, st_e]
    obtain ⟨r1, z1⟩ := rr_looks h (ps.2.1 + 1) (by omega) (x := σ 41 0 + 1) (li_p1 c6.1)
    have e7 : (va_up σ 41 (fun _ => σ 41 0 + 1)) 7 = σ 7 := rfl
    have e33 : (va_up σ 41 (fun _ => σ 41 0 + 1)) 33 0 = nI len := hT.1
    have e36 : (va_up σ 41 (fun _ => σ 41 0 + 1)) 36 0 = nI ps.1 := c5.1
    have e42 : (va_up σ 41 (fun _ => σ 41 0 + 1)) 42 0 = ps.2.2.1 := c7
    generalize hs1 : va_up σ 41 (fun _ => σ 41 0 + 1) = s1 at *
    rw [e7, e36, e33, e42]
    have hle : nI len ≤ nI ps.1 ↔ len ≤ ps.1 := li_le ps.1 rfl (by have := hT.2; omega) (by omega)
    have hfail : ∃ σ', (if nI ps.1 ≤ ps.2.2.1 then st_ (va_up s1 42 (fun _ => ps.2.2.1)) fun σ2 => (f_R_fail σ2).bind fun u2 => some u2 else st_ (va_up s1 42 (fun _ => nI ps.1)) fun σ3 => (f_R_fail σ3).bind fun u3 => some u3) = some σ' ∧ RR_ σ' I (S, 0, vl, d, 0, (ps.1, ps.2.1 + 1, mx_ ps.2.2.1 ps.1, ps.2.2.2)) ∧ Gx_ σ σ' := by
      obtain ⟨r2, z2⟩ := rr_far r1 (mx_ ps.2.2.1 ps.1)
      obtain ⟨s3, p3, r3, z3⟩ := rr_fl r2
      refine ⟨s3, ?_, r3, gx_t z1 (gx_t z2 z3)⟩
      unfold mx_ at p3
      by_cases q : ps.2.2.1 < nI ps.1
      · rw [if_pos q] at p3
        rw [if_neg (Int32.not_le.mpr q), st_e, bd_s p3]
      · rw [if_neg q] at p3
        rw [if_pos (Int32.not_lt.mp q), st_e, bd_s p3]
    by_cases q1 : ps.1 < len
    · rw [if_neg (show ¬ nI len ≤ nI ps.1 from fun hh => by have := hle.mp hh; omega), gd_in (vp_in_nI (show ps.1 < 40 by have := hT.2; omega) (by omega)), nI_clamp (show ps.1 < 2 ^ 31 by omega), bd_s (in_f _ _ _)]
      by_cases q2 : lo ≤ σ 7 ps.1 ∧ σ 7 ps.1 ≤ hi
      · rw [if_pos q2, if_neg (show ¬ (1 : Int32) = 0 by decide), if_pos ⟨q1, q2⟩, st_e]
        obtain ⟨r2, z2⟩ := rr_at r1 (ps.1 + 1) (by have := hT.2; omega) (x := nI ps.1 + 1) (nI_1 _)
        obtain ⟨s3, p3, r3, z3⟩ := rr_succ r2 (σ 7 ps.1)
        exact ⟨s3, by rw [bd_s p3], r3, gx_t z1 (gx_t z2 z3)⟩
      · rw [if_neg q2, if_pos (show (0 : Int32) = 0 from rfl), if_neg (show ¬ (ps.1 < len ∧ lo ≤ σ 7 ps.1 ∧ σ 7 ps.1 ≤ hi) from fun hh => q2 hh.2)]
        exact hfail
    · rw [if_pos (hle.mpr (by omega)), bd_s (in_f _ _ _), if_neg (show ¬ (ps.1 < len ∧ lo ≤ σ 7 ps.1 ∧ σ 7 ps.1 ≤ hi) from fun hh => q1 hh.1)]
      rw [if_neg (show ¬ (lo ≤ -1 ∧ (-1 : Int32) ≤ hi) from fun hh => Int32.not_le.mpr (show (-1 : Int32) < 0 by decide) (Int32.le_trans h0 hh.1)), if_pos (show (0 : Int32) = 0 from rfl)]
      exact hfail
theorem rr_begin (h : RR_ σ I (f :: S, gd, vl, d, 0, ps)) (hS : S.length < 399) (hG : GW_ σ kd bd I) (hT : RT_ σ len) (hst : f.2.1 = 0) : ∃ σ', f_R_begin σ (nI S.length) = some σ' ∧ RR_ σ' I (rs_ kd (σ 2) (σ 3) (σ 4) bd (σ 7) len (f :: S, gd, vl, d, 0, ps)) ∧ Gx_ σ σ' := by
  obtain ⟨n, st, sa, an, mrk, sg⟩ := f
  simp only at hst
  subst hst
  obtain ⟨-, -, ⟨e12, -⟩, ⟨hI, hn, -⟩⟩ := rr_top h
  simp only at e12 hI hn
  have hin : vp_in (nI S.length) 400 := vp_in_nI (by omega) (by omega)
  have hcl : (nI S.length).toNatClampNeg = S.length := nI_clamp (by omega)
  have hin2 : vp_in (nI n) 80 := vp_in_nI (by omega) (by omega)
  have hcl2 : (nI n).toNatClampNeg = n := nI_clamp (by omega)
  obtain ⟨r1, z1⟩ := rr_state h 1 (by omega) (x := 1) rfl
  have hT1 := rt_x hT z1
  unfold f_R_begin
  rw [gd_in hin, gd_in hin, hcl, st_e, e12, gd_in hin2, hcl2]
  generalize hs1 : va_up σ 13 (upd (σ 13) S.length 1) = s1 at *
  simp only at r1
  obtain ⟨g1, g2, g3, g4, g5, g6, g7, g8, g9, g10⟩ := hG n hI hn
  have c1 : s1 1 = σ 1 := z1 1 (by omega)
  have c2 : s1 2 = σ 2 := z1 2 (by omega)
  have c3 : s1 3 = σ 3 := z1 3 (by omega)
  have c6 : s1 6 = σ 6 := z1 6 (by omega)
  have c7 : s1 7 = σ 7 := z1 7 (by omega)
  rw [c1, g1]
  have hno : ∀ k : Nat, k < 2 ^ 31 → kd n ≠ k → ¬ nI (kd n) = nI k := fun k hk hne hh => hne ((nI_eq (by omega) hk).mp hh)
  have hent : ∀ {x : Nat}, x < 80 → I x → σ 2 n = nI x → ∃ σ', (gd_ (nI n) 80 ((f_R_enter s1 (s1 2 n)).bind fun u5 => some u5)) = some σ' ∧ RR_ σ' I (en_ (σ 2 n).toNatClampNeg ps.1 :: (n, 1, sa, an, mrk, sg) :: S, gd, vl, d, 0, ps) ∧ Gx_ σ σ' := by
    intro x hx hIx ex
    obtain ⟨s2, p2, r2, z2⟩ := rr_enter r1 (by simp; omega) hx hIx (x := s1 2 n) (by rw [c2]; exact ex)
    rw [ex, nI_clamp (by omega)]
    exact ⟨s2, by rw [gd_in hin2, bd_s p2], r2, gx_t z1 z2⟩
  by_cases k0 : kd n = 0
  · rw [k0, if_pos (show nI 0 = (0 : Int32) from rfl)]
    have hr : rs_ kd (σ 2) (σ 3) (σ 4) bd (σ 7) len ((n, 0, sa, an, mrk, sg) :: S, gd, vl, d, 0, ps) = (S, 1, σ 2 n, d, 0, ps) := by simp [rs_, k0]
    rw [hr, gd_in hin2, c2]
    obtain ⟨s2, p2, r2, z2⟩ := rr_succ r1 (σ 2 n)
    exact ⟨s2, by rw [bd_s p2], r2, gx_t z1 z2⟩
  rw [if_neg (show ¬ nI (kd n) = (0 : Int32) from hno 0 (by omega) k0)]
  by_cases k1 : kd n = 1
  · rw [k1, if_pos (show nI 1 = (1 : Int32) from rfl)]
    have hr : rs_ kd (σ 2) (σ 3) (σ 4) bd (σ 7) len ((n, 0, sa, an, mrk, sg) :: S, gd, vl, d, 0, ps) = rk_ (σ 7) len (n, 1, sa, an, mrk, sg) S gd vl d ps (σ 2 n) (σ 2 n) := by simp [rs_, k1]
    rw [hr, gd_in hin2, gd_in hin2, c2]
    obtain ⟨s2, p2, r2, z2⟩ := rr_looked r1 hT1 (σ 2 n) (g3 (by omega))
    rw [c7] at r2
    exact ⟨s2, by rw [bd_s p2], r2, gx_t z1 z2⟩
  rw [if_neg (show ¬ nI (kd n) = (1 : Int32) from hno 1 (by omega) k1)]
  by_cases k2 : kd n = 2
  · rw [k2, if_pos (show nI 2 = (2 : Int32) from rfl)]
    have hr : rs_ kd (σ 2) (σ 3) (σ 4) bd (σ 7) len ((n, 0, sa, an, mrk, sg) :: S, gd, vl, d, 0, ps) = rk_ (σ 7) len (n, 1, sa, an, mrk, sg) S gd vl d ps (σ 2 n) (σ 3 n) := by simp [rs_, k2]
    rw [hr, gd_in hin2, gd_in hin2, c2, c3]
    obtain ⟨s2, p2, r2, z2⟩ := rr_looked r1 hT1 (σ 3 n) (g3 (by omega))
    rw [c7] at r2
    exact ⟨s2, by rw [bd_s p2], r2, gx_t z1 z2⟩
  rw [if_neg (show ¬ nI (kd n) = (2 : Int32) from hno 2 (by omega) k2)]
  by_cases k3 : kd n = 3
  · rw [k3, if_pos (show nI 3 = (3 : Int32) from rfl)]
    have hr : rs_ kd (σ 2) (σ 3) (σ 4) bd (σ 7) len ((n, 0, sa, an, mrk, sg) :: S, gd, vl, d, 0, ps) = (S, 0, vl, d, 0, ps) := by simp [rs_, k3]
    rw [hr]
    obtain ⟨s2, p2, r2, z2⟩ := rr_fl r1
    exact ⟨s2, by rw [bd_s p2], r2, gx_t z1 z2⟩
  rw [if_neg (show ¬ nI (kd n) = (3 : Int32) from hno 3 (by omega) k3)]
  by_cases k4 : kd n = 4
  · rw [k4, if_pos (show nI 4 = (4 : Int32) from rfl)]
    have hr : rs_ kd (σ 2) (σ 3) (σ 4) bd (σ 7) len ((n, 0, sa, an, mrk, sg) :: S, gd, vl, d, 0, ps) = (en_ (σ 2 n).toNatClampNeg ps.1 :: (n, 1, sa, an, mrk, sg) :: S, gd, vl, d, 0, ps) := by simp [rs_, k4]
    rw [hr]
    obtain ⟨x, hx, hIx, ex⟩ := g4 (by omega)
    exact hent hx hIx ex
  rw [if_neg (show ¬ nI (kd n) = (4 : Int32) from hno 4 (by omega) k4)]
  by_cases k5 : kd n = 5
  · rw [k5, if_pos (show nI 5 = (5 : Int32) from rfl)]
    have hr : rs_ kd (σ 2) (σ 3) (σ 4) bd (σ 7) len ((n, 0, sa, an, mrk, sg) :: S, gd, vl, d, 0, ps) = (en_ (σ 2 n).toNatClampNeg ps.1 :: (n, 1, sa, an, mrk, sg) :: S, gd, vl, d, 0, ps) := by simp [rs_, k5]
    rw [hr]
    obtain ⟨x, hx, hIx, ex⟩ := g4 (by omega)
    exact hent hx hIx ex
  rw [if_neg (show ¬ nI (kd n) = (5 : Int32) from hno 5 (by omega) k5)]
  by_cases k6 : kd n = 6
  · rw [k6, if_pos (show nI 6 = (6 : Int32) from rfl)]
    have hr : rs_ kd (σ 2) (σ 3) (σ 4) bd (σ 7) len ((n, 0, sa, an, mrk, sg) :: S, gd, vl, d, 0, ps) = (en_ (σ 2 n).toNatClampNeg ps.1 :: (n, 1, sa, an, mrk, sg) :: S, gd, vl, d, 0, ps) := by simp [rs_, k6]
    rw [hr]
    obtain ⟨x, hx, hIx, ex⟩ := g4 (by omega)
    exact hent hx hIx ex
  rw [if_neg (show ¬ nI (kd n) = (6 : Int32) from hno 6 (by omega) k6)]
  by_cases k7 : kd n = 7
  · rw [k7, if_pos (show nI 7 = (7 : Int32) from rfl)]
    have hr : rs_ kd (σ 2) (σ 3) (σ 4) bd (σ 7) len ((n, 0, sa, an, mrk, sg) :: S, gd, vl, d, 0, ps) = (en_ (σ 2 n).toNatClampNeg ps.1 :: (n, 1, sa, an, mrk, sg) :: S, gd, vl, d, 0, ps) := by simp [rs_, k7]
    rw [hr]
    obtain ⟨x, hx, hIx, ex⟩ := g4 (by omega)
    exact hent hx hIx ex
  rw [if_neg (show ¬ nI (kd n) = (7 : Int32) from hno 7 (by omega) k7)]
  by_cases k8 : kd n = 8
  · rw [k8, if_pos (show nI 8 = (8 : Int32) from rfl)]
    have hr : rs_ kd (σ 2) (σ 3) (σ 4) bd (σ 7) len ((n, 0, sa, an, mrk, sg) :: S, gd, vl, d, 0, ps) = (en_ (σ 2 n).toNatClampNeg ps.1 :: (n, 1, sa, an, mrk, sg) :: S, gd, vl, d, 0, ps) := by simp [rs_, k8]
    rw [hr]
    obtain ⟨x, hx, hIx, ex⟩ := g4 (by omega)
    exact hent hx hIx ex
  rw [if_neg (show ¬ nI (kd n) = (8 : Int32) from hno 8 (by omega) k8)]
  by_cases k9 : kd n = 9
  · rw [k9, if_pos (show nI 9 = (9 : Int32) from rfl)]
    have hr : rs_ kd (σ 2) (σ 3) (σ 4) bd (σ 7) len ((n, 0, sa, an, mrk, sg) :: S, gd, vl, d, 0, ps) = (en_ (σ 2 n).toNatClampNeg ps.1 :: (n, 1, sa, an, mrk, sg) :: S, gd, vl, d, 0, ps) := by simp [rs_, k9]
    rw [hr]
    obtain ⟨x, hx, hIx, ex⟩ := g4 (by omega)
    exact hent hx hIx ex
  rw [if_neg (show ¬ nI (kd n) = (9 : Int32) from hno 9 (by omega) k9)]
  by_cases k10 : kd n = 10
  · rw [k10, if_pos (show nI 10 = (10 : Int32) from rfl)]
    have hr : rs_ kd (σ 2) (σ 3) (σ 4) bd (σ 7) len ((n, 0, sa, an, mrk, sg) :: S, gd, vl, d, 0, ps) = (en_ (σ 2 n).toNatClampNeg ps.1 :: (n, 1, sa, an, mrk, sg) :: S, gd, vl, d, 0, ps) := by simp [rs_, k10]
    rw [hr]
    obtain ⟨x, hx, hIx, ex⟩ := g4 (by omega)
    exact hent hx hIx ex
  rw [if_neg (show ¬ nI (kd n) = (10 : Int32) from hno 10 (by omega) k10)]
  by_cases k11 : kd n = 11
  · rw [k11, if_pos (show nI 11 = (11 : Int32) from rfl)]
    obtain ⟨r, hr6, er, hb, hIb, e6⟩ := g8 k11
    have hcr : (nI r).toNatClampNeg = r := nI_clamp (by omega)
    have hinr : vp_in (nI r) 6 := vp_in_nI hr6 (by omega)
    obtain ⟨-, ⟨-, -, c39, -, -, -, -, c40, -⟩, ebd⟩ := rr_4 r1
    have ebd := ebd rfl
    have body : ∀ (t : Nat), t ≤ 1 → (t = 0 → d < 40 ∧ ps.2.2.2.1 < 300) → ∀ x : Int32, x = nI t → ∃ σ', (st_ (va_up s1 38 (fun _ => x)) fun σ2 => st_ (va_up σ2 39 (fun _ => (σ2 39 0) + 1)) fun σ3 => st_ (va_up σ3 40 (fun _ => (σ3 40 0) + 1)) fun σ4 => gd_ (nI n) 80 (gd_ (σ4 2 n) 6 ((f_R_enter σ4 ((σ4 6 (σ4 2 n).toNatClampNeg) - 1)).bind fun u => some u))) = some σ' ∧ RR_ σ' I (en_ (bd r) ps.1 :: (n, 1, sa, an, mrk, sg) :: S, gd, vl, d + 1, t, (ps.1, ps.2.1, ps.2.2.1, ps.2.2.2.1 + 1, ps.2.2.2.2)) ∧ Gx_ σ σ' := by
      intro t ht h0 x hx
      obtain ⟨r2, z2⟩ := rr_call r1 t ht h0 hx
      rw [st_e, st_e, st_e, gd_in hin2]
      show ∃ σ', (gd_ (s1 2 n) 6 ((f_R_enter (va_up (va_up (va_up s1 38 (fun _ => x)) 39 (fun _ => s1 39 0 + 1)) 40 (fun _ => s1 40 0 + 1)) ((s1 6 (s1 2 n).toNatClampNeg) - 1)).bind fun u => some u)) = some σ' ∧ _ ∧ _
      rw [c2, er, gd_in hinr, hcr, c6, e6]
      obtain ⟨s3, p3, r3, z3⟩ := rr_enter r2 (by simp; omega) hb hIb (x := nI (bd r + 1) - 1) (li_m1 rfl)
      exact ⟨s3, by rw [bd_s p3], r3, gx_t z1 (gx_t z2 z3)⟩
    by_cases q1 : d = 40
    · have hr : rs_ kd (σ 2) (σ 3) (σ 4) bd (σ 7) len ((n, 0, sa, an, mrk, sg) :: S, gd, vl, d, 0, ps) = (en_ (bd r) ps.1 :: (n, 1, sa, an, mrk, sg) :: S, gd, vl, d + 1, 1, (ps.1, ps.2.1, ps.2.2.1, ps.2.2.2.1 + 1, ps.2.2.2.2)) := by
        simp [rs_, k11, er, hcr, q1]
      rw [hr, if_pos (show s1 39 0 = 40 from (li_eq 40 c39.1 (by omega) (by omega)).mpr q1)]
      exact body 1 (by omega) (by omega) 1 rfl
    · rw [if_neg (show ¬ s1 39 0 = 40 from fun hh => q1 ((li_eq 40 c39.1 (by omega) (by omega)).mp hh))]
      by_cases q2 : ps.2.2.2.1 = 300
      · have hr : rs_ kd (σ 2) (σ 3) (σ 4) bd (σ 7) len ((n, 0, sa, an, mrk, sg) :: S, gd, vl, d, 0, ps) = (en_ (bd r) ps.1 :: (n, 1, sa, an, mrk, sg) :: S, gd, vl, d + 1, 1, (ps.1, ps.2.1, ps.2.2.1, ps.2.2.2.1 + 1, ps.2.2.2.2)) := by
          simp [rs_, k11, er, hcr, q2]
        rw [hr, if_pos (show s1 40 0 = 300 from (li_eq 300 c40.1 (by omega) (by omega)).mpr q2)]
        exact body 1 (by omega) (by omega) 1 rfl
      · have hr : rs_ kd (σ 2) (σ 3) (σ 4) bd (σ 7) len ((n, 0, sa, an, mrk, sg) :: S, gd, vl, d, 0, ps) = (en_ (bd r) ps.1 :: (n, 1, sa, an, mrk, sg) :: S, gd, vl, d + 1, 0, (ps.1, ps.2.1, ps.2.2.1, ps.2.2.2.1 + 1, ps.2.2.2.2)) := by
          have hc : ¬ (40 ≤ d ∨ 300 ≤ ps.2.2.2.1) := by omega
          simp only [rs_, k11, er, hcr]
          simp [hc]
        rw [hr, if_neg (show ¬ s1 40 0 = 300 from fun hh => q2 ((li_eq 300 c40.1 (by omega) (by omega)).mp hh))]
        exact body 0 (by omega) (by omega) 0 rfl
  rw [if_neg (show ¬ nI (kd n) = (11 : Int32) from hno 11 (by omega) k11)]
  by_cases k12 : kd n = 12
  · rw [k12, if_pos (show nI 12 = (12 : Int32) from rfl)]
    have hr : rs_ kd (σ 2) (σ 3) (σ 4) bd (σ 7) len ((n, 0, sa, an, mrk, sg) :: S, gd, vl, d, 0, ps) = (en_ (σ 2 n).toNatClampNeg ps.1 :: (n, 1, sa, an, mrk, sg) :: S, gd, vl, d, 0, ps) := by simp [rs_, k12]
    rw [hr]
    obtain ⟨x, hx, hIx, ex⟩ := g4 (by omega)
    exact hent hx hIx ex
  rw [if_neg (show ¬ nI (kd n) = (12 : Int32) from hno 12 (by omega) k12)]
  by_cases k13 : kd n = 13
  · rw [k13, if_pos (show nI 13 = (13 : Int32) from rfl)]
    have hr : rs_ kd (σ 2) (σ 3) (σ 4) bd (σ 7) len ((n, 0, sa, an, mrk, sg) :: S, gd, vl, d, 0, ps) = (S, 1, ps.2.2.2.2 (σ 2 n).toNatClampNeg, d, 0, ps) := by simp [rs_, k13]
    obtain ⟨r, hr4, er⟩ := g10 k13
    rw [hr, gd_in hin2, c2, er, gd_in (vp_in_nI hr4 (by omega)), nI_clamp (show r < 2 ^ 31 by omega)]
    have e18 := (rr_4 r1).2.1.2.2.2.2.2.2.2.2 r hr4
    rw [e18]
    obtain ⟨s2, p2, r2, z2⟩ := rr_succ r1 (ps.2.2.2.2 r)
    exact ⟨s2, by rw [bd_s p2], r2, gx_t z1 z2⟩
  omega
theorem rr_jt {n st sa mrk : Nat} {an sg : Int32} (h : RR_ σ I ((n, st, sa, an, mrk, sg) :: S, gd, vl, d, ti, ps)) (hS : S.length < 399) : vp_in (nI S.length) 400 ∧ (nI S.length).toNatClampNeg = S.length ∧ vp_in (nI n) 80 ∧ (nI n).toNatClampNeg = n ∧ σ 12 S.length = nI n ∧ σ 14 S.length = nI sa ∧ σ 15 S.length = an ∧ σ 16 S.length = nI mrk ∧ σ 17 S.length = sg ∧ σ 37 0 = vl ∧ σ 36 0 = nI ps.1 ∧ (σ 35 0 = 0 ↔ gd = 0) ∧ (∀ k : Nat, k < 2 ^ 31 → (σ 13 S.length = nI k ↔ st = k)) ∧ (∀ k : Nat, k ≤ 40 → (σ 36 0 = nI k ↔ ps.1 = k)) ∧ I n ∧ n < 80 ∧ sa ≤ 40 ∧ mrk ≤ 40 := by
  obtain ⟨-, -, ⟨e12, e13, e14, e15, e16, e17⟩, ⟨hI, hn, hs3, hsa, hmk⟩⟩ := rr_top h
  simp only at e12 e13 e14 e15 e16 e17 hI hn hs3 hsa hmk
  obtain ⟨-, ⟨c1, c2, -, -, c5, -⟩, -⟩ := rr_4 h
  exact ⟨vp_in_nI (by omega) (by omega), nI_clamp (by omega), vp_in_nI (by omega) (by omega), nI_clamp (by omega), e12, e14, e15, e16, e17, c2, c5.1, li_eq 0 c1.1 (by omega) (by omega), fun k hk => li_eq k e13 (by omega) hk, fun k hk => li_eq k c5.1 (by omega) (by omega), hI, hn, hsa, hmk⟩
theorem rr_ends {n st sa mrk : Nat} {an sg : Int32} (h : RR_ σ I ((n, st, sa, an, mrk, sg) :: S, gd, vl, d, 0, ps)) (hS : S.length < 399) : ∃ σ', f_R_ends σ (nI S.length) = some σ' ∧ RR_ σ' I (if ps.1 = mrk then (S, 1, an, d, 0, ps) else (S, 0, vl, d, 0, ps)) ∧ Gx_ σ σ' := by
  obtain ⟨hin, hcl, hin2, hcl2, e12, e14, e15, e16, e17, e37, e36, e35, e13, epl, hI, hn, hsa, hmk⟩ := rr_jt h hS
  unfold f_R_ends
  rw [gd_in hin, hcl, e16]
  by_cases q : ps.1 = mrk
  · rw [if_pos ((epl mrk hmk).mpr q), if_pos q, gd_in hin, e15]
    obtain ⟨s2, p2, r2, z2⟩ := rr_succ h an
    exact ⟨s2, by rw [bd_s p2], r2, z2⟩
  · rw [if_neg (fun hh => q ((epl mrk hmk).mp hh)), if_neg q]
    obtain ⟨s2, p2, r2, z2⟩ := rr_fl h
    exact ⟨s2, by rw [bd_s p2], r2, z2⟩
theorem rr_then {n st sa mrk x w : Nat} {an sg : Int32} (h : RR_ σ I ((n, st, sa, an, mrk, sg) :: S, gd, vl, d, 0, ps)) (hS : S.length < 399) (hx : x < 80) (hIx : I x) (ex : σ 3 n = nI x) (hw : w ≤ 7) (ew : σ 4 n = nI w) : ∃ σ', f_R_then σ (nI S.length) = some σ' ∧ RR_ σ' I (if gd = 0 then (S, 0, vl, d, 0, ps) else if st = 2 then (S, 1, jn_ (σ 4 n) an vl, d, 0, ps) else (en_ (σ 3 n).toNatClampNeg ps.1 :: (n, 2, sa, vl, mrk, sg) :: S, gd, vl, d, 0, ps)) ∧ Gx_ σ σ' := by
  obtain ⟨hin, hcl, hin2, hcl2, e12, e14, e15, e16, e17, e37, e36, e35, e13, epl, hI, hn, hsa, hmk⟩ := rr_jt h hS
  unfold f_R_then
  by_cases q : gd = 0
  · rw [if_pos (e35.mpr q), if_pos q]
    obtain ⟨s2, p2, r2, z2⟩ := rr_fl h
    exact ⟨s2, by rw [bd_s p2], r2, z2⟩
  · rw [if_neg (fun hh => q (e35.mp hh)), if_neg q, gd_in hin, hcl]
    by_cases q2 : st = 2
    · rw [if_pos (show σ 13 S.length = 2 from (e13 2 (by omega)).mpr q2), if_pos q2, gd_in hin, e12, gd_in hin2, hcl2, gd_in hin, ew, bd_s (jr_f hw _ _), e15, e37]
      obtain ⟨s2, p2, r2, z2⟩ := rr_succ h (jn_ (nI w) an vl)
      exact ⟨s2, by rw [bd_s p2], r2, z2⟩
    · rw [if_neg (show ¬ σ 13 S.length = 2 from fun hh => q2 ((e13 2 (by omega)).mp hh)), if_neg q2, gd_in hin, st_e, gd_in hin, st_e, gd_in hin]
      obtain ⟨r1, z1⟩ := rr_state h 2 (by omega) (x := 2) rfl
      obtain ⟨r2, z2⟩ := rr_ans r1 vl
      show ∃ σ', gd_ (σ 12 S.length) 80 ((f_R_enter (va_up (va_up σ 13 (upd (σ 13) S.length 2)) 15 (upd (σ 15) S.length (σ 37 0))) (σ 3 (σ 12 S.length).toNatClampNeg)).bind fun u1 => some u1) = some σ' ∧ _ ∧ _
      rw [e12, gd_in hin2, hcl2, e37, ex]
      obtain ⟨s3, p3, r3, z3⟩ := rr_enter r2 (by simp; omega) hx hIx (x := nI x) rfl
      refine ⟨s3, ?_, ?_, gx_t z1 (gx_t z2 z3)⟩
      · rw [show (f_R_enter (va_up (va_up σ 13 (upd (σ 13) S.length 2)) 15 (upd (σ 15) S.length vl)) (nI x)) = some s3 from p3]; rfl
      · rw [nI_clamp (by omega)]; exact r3
theorem rr_many {n st sa mrk x w : Nat} {an sg : Int32} (h : RR_ σ I ((n, st, sa, an, mrk, sg) :: S, gd, vl, d, 0, ps)) (hS : S.length < 399) (hx : x < 80) (hIx : I x) (ex : σ 2 n = nI x) (hw : w ≤ 7) (ew : σ 3 n = nI w) : ∃ σ', f_R_many σ (nI S.length) = some σ' ∧ RR_ σ' I (if gd = 0 then (if ps.1 = mrk then (S, 1, an, d, 0, ps) else (S, 0, vl, d, 0, ps)) else (en_ (σ 2 n).toNatClampNeg ps.1 :: (n, st, sa, jn_ (σ 3 n) an vl, ps.1, sg) :: S, gd, vl, d, 0, ps)) ∧ Gx_ σ σ' := by
  obtain ⟨hin, hcl, hin2, hcl2, e12, e14, e15, e16, e17, e37, e36, e35, e13, epl, hI, hn, hsa, hmk⟩ := rr_jt h hS
  unfold f_R_many
  rw [gd_in hin]
  by_cases q : gd = 0
  · rw [if_pos (e35.mpr q), if_pos q]
    obtain ⟨s2, p2, r2, z2⟩ := rr_ends h hS
    exact ⟨s2, by rw [bd_s p2], r2, z2⟩
  · rw [if_neg (fun hh => q (e35.mp hh)), if_neg q, hcl, e12, gd_in hin2, hcl2, gd_in hin, ew, bd_s (jr_f hw _ _), gd_in hin, st_e, gd_in hin, st_e, gd_in hin2, e15, e37]
    obtain ⟨r1, z1⟩ := rr_ans h (jn_ (nI w) an vl)
    obtain ⟨r2, z2⟩ := rr_mark r1 (x := (va_up σ 15 (upd (σ 15) S.length (jn_ (nI w) an vl))) 36 0) e36
    obtain ⟨s3, p3, r3, z3⟩ := rr_enter r2 (by simp; omega) hx hIx (x := nI x) rfl
    refine ⟨s3, ?_, ?_, gx_t z1 (gx_t z2 z3)⟩
    · show (f_R_enter _ (σ 2 n)).bind _ = _
      rw [ex]
      exact bd_s p3
    · rw [ex, nI_clamp (by omega)]; exact r3
theorem rr_chain {n st sa mrk x y : Nat} {an sg : Int32} (h : RR_ σ I ((n, st, sa, an, mrk, sg) :: S, gd, vl, d, 0, ps)) (hS : S.length < 399) (hx : x < 80) (hIx : I x) (ex : σ 2 n = nI x) (hy : y < 80) (hIy : I y) (ey : σ 3 n = nI y) : ∃ σ', f_R_chain σ (nI S.length) = some σ' ∧ RR_ σ' I (if gd = 0 then (if st = 1 then (S, 0, vl, d, 0, ps) else if ps.1 = mrk then (S, 1, an, d, 0, ps) else (S, 0, vl, d, 0, ps))
       else if st = 2 then (en_ (σ 2 n).toNatClampNeg ps.1 :: (n, 3, sa, an, mrk, vl) :: S, gd, vl, d, 0, ps)
       else (en_ (σ 3 n).toNatClampNeg ps.1 :: (n, 2, sa, (if st = 1 then vl else jn_ (wy_ sg) an vl), ps.1, sg) :: S, gd, vl, d, 0, ps)) ∧ Gx_ σ σ' := by
  obtain ⟨hin, hcl, hin2, hcl2, e12, e14, e15, e16, e17, e37, e36, e35, e13, epl, hI, hn, hsa, hmk⟩ := rr_jt h hS
  unfold f_R_chain
  rw [gd_in hin]
  by_cases q : gd = 0
  · rw [if_pos (e35.mpr q), if_pos q, gd_in hin, hcl]
    by_cases q1 : st = 1
    · rw [if_pos (show σ 13 S.length = 1 from (e13 1 (by omega)).mpr q1), if_pos q1]
      obtain ⟨s2, p2, r2, z2⟩ := rr_fl h
      exact ⟨s2, by rw [bd_s p2], r2, z2⟩
    · rw [if_neg (show ¬ σ 13 S.length = 1 from fun hh => q1 ((e13 1 (by omega)).mp hh)), if_neg q1]
      obtain ⟨s2, p2, r2, z2⟩ := rr_ends h hS
      exact ⟨s2, by rw [bd_s p2], r2, z2⟩
  · rw [if_neg (fun hh => q (e35.mp hh)), if_neg q, gd_in hin, hcl]
    by_cases q2 : st = 2
    · rw [if_pos (show σ 13 S.length = 2 from (e13 2 (by omega)).mpr q2), if_pos q2, gd_in hin, st_e, gd_in hin, st_e, e12, gd_in hin2, hcl2, e37]
      obtain ⟨r1, z1⟩ := rr_sign h vl
      obtain ⟨r2, z2⟩ := rr_state r1 3 (by omega) (x := 3) rfl
      obtain ⟨s3, p3, r3, z3⟩ := rr_enter r2 (by simp; omega) hx hIx (x := nI x) rfl
      refine ⟨s3, ?_, ?_, gx_t z1 (gx_t z2 z3)⟩
      · show (f_R_enter _ (σ 2 n)).bind _ = _
        rw [ex]
        exact bd_s p3
      · rw [ex, nI_clamp (by omega)]; exact r3
    · rw [if_neg (show ¬ σ 13 S.length = 2 from fun hh => q2 ((e13 2 (by omega)).mp hh)), if_neg q2]
      have tail : ∀ v : Int32, ∃ σ', (gd_ (nI S.length) 400 (st_ (va_up σ 15 (upd (σ 15) S.length v)) fun σ1 => gd_ (nI S.length) 400 (st_ (va_up σ1 16 (upd (σ1 16) S.length (σ1 36 0))) fun σ2 => gd_ (nI S.length) 400 (st_ (va_up σ2 13 (upd (σ2 13) S.length 2)) fun σ3 => gd_ (nI n) 80 ((f_R_enter σ3 (σ3 3 n)).bind fun u => some u))))) = some σ' ∧ RR_ σ' I (en_ (σ 3 n).toNatClampNeg ps.1 :: (n, 2, sa, v, ps.1, sg) :: S, gd, vl, d, 0, ps) ∧ Gx_ σ σ' := by
        intro v
        obtain ⟨r1, z1⟩ := rr_ans h v
        obtain ⟨r2, z2⟩ := rr_mark r1 (x := (va_up σ 15 (upd (σ 15) S.length v)) 36 0) e36
        obtain ⟨r3, z3⟩ := rr_state r2 2 (by omega) (x := 2) rfl
        obtain ⟨s4, p4, r4, z4⟩ := rr_enter r3 (by simp; omega) hy hIy (x := nI y) rfl
        refine ⟨s4, ?_, ?_, gx_t z1 (gx_t z2 (gx_t z3 z4))⟩
        · rw [gd_in hin, st_e, gd_in hin, st_e, gd_in hin, st_e, gd_in hin2]
          show (f_R_enter _ (σ 3 n)).bind _ = _
          rw [ey]
          exact bd_s p4
        · rw [ey, nI_clamp (by omega)]; exact r4
      have j2 : f_R_joined 2 an vl = some (jn_ 2 an vl) := jr_f (w := 2) (by omega) an vl
      have j3 : f_R_joined 3 an vl = some (jn_ 3 an vl) := jr_f (w := 3) (by omega) an vl
      have j4 : f_R_joined 4 an vl = some (jn_ 4 an vl) := jr_f (w := 4) (by omega) an vl
      have j0 : f_R_joined 0 an vl = some (jn_ 0 an vl) := jr_f (w := 0) (by omega) an vl
      rw [gd_in hin, e17, e12, hcl2, e15, e37]
      by_cases q1 : st = 1
      · have e1 : σ 13 S.length = 1 := (e13 1 (by omega)).mpr q1
        rw [if_pos q1]
        by_cases w1 : sg = 43
        · rw [if_pos w1, gd_in hin, if_pos e1]; exact tail vl
        rw [if_neg w1, gd_in hin]
        by_cases w2 : sg = 45
        · rw [if_pos w2, gd_in hin, if_pos e1]; exact tail vl
        rw [if_neg w2, gd_in hin]
        by_cases w3 : sg = 42
        · rw [if_pos w3, gd_in hin, if_pos e1]; exact tail vl
        rw [if_neg w3, gd_in hin, if_pos e1]; exact tail vl
      · have e1 : ¬ σ 13 S.length = 1 := fun hh => q1 ((e13 1 (by omega)).mp hh)
        rw [if_neg q1]
        unfold wy_
        by_cases w1 : sg = 43
        · rw [if_pos w1, if_pos w1, gd_in hin, if_neg e1, gd_in hin, bd_s j2]; exact tail _
        rw [if_neg w1, if_neg w1, gd_in hin]
        by_cases w2 : sg = 45
        · rw [if_pos w2, if_pos w2, gd_in hin, if_neg e1, gd_in hin, bd_s j3]; exact tail _
        rw [if_neg w2, if_neg w2, gd_in hin]
        by_cases w3 : sg = 42
        · rw [if_pos w3, if_pos w3, gd_in hin, if_neg e1, gd_in hin, bd_s j4]; exact tail _
        rw [if_neg w3, if_neg w3, gd_in hin, if_neg e1, gd_in hin, bd_s j0]; exact tail _
theorem rr_goOn (h : RR_ σ I (f :: S, gd, vl, d, 0, ps)) (hS : S.length < 399) (hG : GW_ σ kd bd I) (hst : f.2.1 ≠ 0) (hk4 : 4 ≤ kd f.1 ∧ kd f.1 ≤ 12) (hd : kd f.1 = 11 → 1 ≤ d) : ∃ σ', f_R_goOn σ (nI S.length) = some σ' ∧ RR_ σ' I (rs_ kd (σ 2) (σ 3) (σ 4) bd (σ 7) len (f :: S, gd, vl, d, 0, ps)) ∧ Gx_ σ σ' := by
  obtain ⟨n, st, sa, an, mrk, sg⟩ := f
  simp only at hst hk4 hd
  obtain ⟨hin, hcl, hin2, hcl2, e12, e14, e15, e16, e17, e37, e36, e35, e13, epl, hI, hn, hsa, hmk⟩ := rr_jt h hS
  obtain ⟨g1, g2, g3, g4, g5, g6, g7, g8, g9, g10⟩ := hG n hI hn
  unfold f_R_goOn
  rw [gd_in hin, hcl, e12, gd_in hin2, hcl2, g1]
  have hno : ∀ k : Nat, k < 2 ^ 31 → kd n ≠ k → ¬ nI (kd n) = nI k := fun k hk hne hh => hne ((nI_eq (by omega) hk).mp hh)
  have hpop := rr_pop h
  by_cases k4 : kd n = 4
  · rw [k4, if_pos (show nI 4 = (4 : Int32) from rfl)]
    have hr : rs_ kd (σ 2) (σ 3) (σ 4) bd (σ 7) len ((n, st, sa, an, mrk, sg) :: S, gd, vl, d, 0, ps) = (if gd = 0 then (S, 0, vl, d, 0, ps) else if st = 2 then (S, 1, jn_ (σ 4 n) an vl, d, 0, ps) else (en_ (σ 3 n).toNatClampNeg ps.1 :: (n, 2, sa, vl, mrk, sg) :: S, gd, vl, d, 0, ps)) := by simp only [rs_, if_neg hst, k4, if_true]
    obtain ⟨y, hy, hIy, ey⟩ := g5 (by omega)
    obtain ⟨w, hw, ew⟩ := g6 k4
    obtain ⟨s2, p2, r2, z2⟩ := rr_then h hS hy hIy ey hw ew
    rw [hr]
    exact ⟨s2, by rw [bd_s p2], r2, z2⟩
  rw [if_neg (show ¬ nI (kd n) = (4 : Int32) from hno 4 (by omega) k4)]
  by_cases k5 : kd n = 5
  · rw [k5, if_pos (show nI 5 = (5 : Int32) from rfl)]
    obtain ⟨y, hy, hIy, ey⟩ := g5 (by omega)
    rw [gd_in hin]
    by_cases q2 : st = 2
    · have hr : rs_ kd (σ 2) (σ 3) (σ 4) bd (σ 7) len ((n, st, sa, an, mrk, sg) :: S, gd, vl, d, 0, ps) = (S, gd, vl, d, 0, ps) := by simp [rs_, hst, k5, q2]
      rw [hr, if_pos (show σ 13 S.length = 2 from (e13 2 (by omega)).mpr q2)]
      exact ⟨_, rfl, hpop⟩
    rw [if_neg (show ¬ σ 13 S.length = 2 from fun hh => q2 ((e13 2 (by omega)).mp hh))]
    by_cases q : gd = 0
    · rw [if_pos (e35.mpr q), gd_in hin, e14]
      by_cases q3 : ps.1 = sa
      · have hr : rs_ kd (σ 2) (σ 3) (σ 4) bd (σ 7) len ((n, st, sa, an, mrk, sg) :: S, gd, vl, d, 0, ps) = (en_ (σ 3 n).toNatClampNeg ps.1 :: (n, 2, sa, an, mrk, sg) :: S, gd, vl, d, 0, ps) := by simp [rs_, hst, k5, q2, q, q3]
        rw [hr, if_pos ((epl sa hsa).mpr q3), gd_in hin, st_e, gd_in hin2]
        obtain ⟨r1, z1⟩ := rr_state h 2 (by omega) (x := 2) rfl
        obtain ⟨s3, p3, r3, z3⟩ := rr_enter r1 (by simp; omega) hy hIy (x := nI y) rfl
        refine ⟨s3, ?_, ?_, gx_t z1 z3⟩
        · show (f_R_enter _ (σ 3 n)).bind _ = _
          rw [ey]
          exact bd_s p3
        · rw [ey, nI_clamp (by omega)]; exact r3
      · have hr : rs_ kd (σ 2) (σ 3) (σ 4) bd (σ 7) len ((n, st, sa, an, mrk, sg) :: S, gd, vl, d, 0, ps) = (S, gd, vl, d, 0, ps) := by simp [rs_, hst, k5, q2, q3]
        rw [hr, if_neg (fun hh => q3 ((epl sa hsa).mp hh))]
        exact ⟨_, rfl, hpop⟩
    · have hr : rs_ kd (σ 2) (σ 3) (σ 4) bd (σ 7) len ((n, st, sa, an, mrk, sg) :: S, gd, vl, d, 0, ps) = (S, gd, vl, d, 0, ps) := by simp [rs_, hst, k5, q2, q]
      rw [hr, if_neg (fun hh => q (e35.mp hh))]
      exact ⟨_, rfl, hpop⟩
  rw [if_neg (show ¬ nI (kd n) = (5 : Int32) from hno 5 (by omega) k5)]
  by_cases k6 : kd n = 6
  · rw [k6, if_pos (show nI 6 = (6 : Int32) from rfl)]
    by_cases q : gd = 0
    · have hr : rs_ kd (σ 2) (σ 3) (σ 4) bd (σ 7) len ((n, st, sa, an, mrk, sg) :: S, gd, vl, d, 0, ps) = (S, gd, vl, d, 0, ((sa, ps.2))) := by simp [rs_, hst, k6, q]
      rw [if_pos (e35.mpr q)]
      rw [hr, gd_in hin, e14]
      obtain ⟨r1, z1⟩ := rr_at h sa hsa (x := nI sa) rfl
      obtain ⟨r2, z2⟩ := rr_pop r1
      exact ⟨_, rfl, r2, gx_t z1 z2⟩
    · have hr : rs_ kd (σ 2) (σ 3) (σ 4) bd (σ 7) len ((n, st, sa, an, mrk, sg) :: S, gd, vl, d, 0, ps) = (S, gd, vl, d, 0, ps) := by simp [rs_, hst, k6, q]
      rw [if_neg (fun hh => q (e35.mp hh))]
      rw [hr]
      obtain ⟨r1, z1⟩ := rr_at h ps.1 (rr_4 h).2.1.2.2.2.2.1.2 (x := σ 36 0) e36
      obtain ⟨r2, z2⟩ := rr_pop r1
      exact ⟨_, rfl, r2, gx_t z1 z2⟩
  rw [if_neg (show ¬ nI (kd n) = (6 : Int32) from hno 6 (by omega) k6)]
  by_cases k7 : kd n = 7
  · rw [k7, if_pos (show nI 7 = (7 : Int32) from rfl)]
    by_cases q : gd = 0
    · have hr : rs_ kd (σ 2) (σ 3) (σ 4) bd (σ 7) len ((n, st, sa, an, mrk, sg) :: S, gd, vl, d, 0, ps) = (S, gd, vl, d, 0, ps) := by simp [rs_, hst, k7, q]
      rw [if_pos (e35.mpr q)]
      rw [hr]
      obtain ⟨r1, z1⟩ := rr_at h ps.1 (rr_4 h).2.1.2.2.2.2.1.2 (x := σ 36 0) e36
      obtain ⟨r2, z2⟩ := rr_pop r1
      exact ⟨_, rfl, r2, gx_t z1 z2⟩
    · have hr : rs_ kd (σ 2) (σ 3) (σ 4) bd (σ 7) len ((n, st, sa, an, mrk, sg) :: S, gd, vl, d, 0, ps) = (S, gd, vl, d, 0, ((sa, ps.2))) := by simp [rs_, hst, k7, q]
      rw [if_neg (fun hh => q (e35.mp hh))]
      rw [hr, gd_in hin, e14]
      obtain ⟨r1, z1⟩ := rr_at h sa hsa (x := nI sa) rfl
      obtain ⟨r2, z2⟩ := rr_pop r1
      exact ⟨_, rfl, r2, gx_t z1 z2⟩
  rw [if_neg (show ¬ nI (kd n) = (7 : Int32) from hno 7 (by omega) k7)]
  by_cases k8 : kd n = 8
  · rw [k8, if_pos (show nI 8 = (8 : Int32) from rfl)]
    rw [gd_in hin, st_e, e14]
    obtain ⟨r1, z1⟩ := rr_at h sa hsa (x := nI sa) rfl
    show ∃ σ', (if σ 35 0 = 0 then _ else _) = some σ' ∧ _ ∧ _
    by_cases q : gd = 0
    · have hr : rs_ kd (σ 2) (σ 3) (σ 4) bd (σ 7) len ((n, st, sa, an, mrk, sg) :: S, gd, vl, d, 0, ps) = (S, 1, 0, d, 0, (sa, ps.2)) := by simp [rs_, hst, k8, q]
      rw [if_pos (e35.mpr q), hr]
      obtain ⟨s3, p3, r3, z3⟩ := rr_succ r1 0
      exact ⟨s3, by rw [bd_s p3], r3, gx_t z1 z3⟩
    · have hr : rs_ kd (σ 2) (σ 3) (σ 4) bd (σ 7) len ((n, st, sa, an, mrk, sg) :: S, gd, vl, d, 0, ps) = (S, 0, vl, d, 0, (sa, ps.2)) := by simp [rs_, hst, k8, q]
      rw [if_neg (fun hh => q (e35.mp hh)), hr]
      obtain ⟨s3, p3, r3, z3⟩ := rr_fl r1
      exact ⟨s3, by rw [bd_s p3], r3, gx_t z1 z3⟩
  rw [if_neg (show ¬ nI (kd n) = (8 : Int32) from hno 8 (by omega) k8)]
  by_cases k9 : kd n = 9
  · rw [k9, if_pos (show nI 9 = (9 : Int32) from rfl)]
    have hr : rs_ kd (σ 2) (σ 3) (σ 4) bd (σ 7) len ((n, st, sa, an, mrk, sg) :: S, gd, vl, d, 0, ps) = (if gd = 0 then (if ps.1 = mrk then (S, 1, an, d, 0, ps) else (S, 0, vl, d, 0, ps)) else (en_ (σ 2 n).toNatClampNeg ps.1 :: (n, st, sa, jn_ (σ 3 n) an vl, ps.1, sg) :: S, gd, vl, d, 0, ps)) := by simp [rs_, hst, k9]
    obtain ⟨x, hx, hIx, ex⟩ := g4 (by omega)
    obtain ⟨w, hw, ew⟩ := g7 k9
    obtain ⟨s2, p2, r2, z2⟩ := rr_many h hS hx hIx ex hw ew
    rw [hr]
    exact ⟨s2, by rw [bd_s p2], r2, z2⟩
  rw [if_neg (show ¬ nI (kd n) = (9 : Int32) from hno 9 (by omega) k9)]
  by_cases k10 : kd n = 10
  · rw [k10, if_pos (show nI 10 = (10 : Int32) from rfl)]
    have hr : rs_ kd (σ 2) (σ 3) (σ 4) bd (σ 7) len ((n, st, sa, an, mrk, sg) :: S, gd, vl, d, 0, ps) = (if gd = 0 then (if st = 1 then (S, 0, vl, d, 0, ps) else if ps.1 = mrk then (S, 1, an, d, 0, ps) else (S, 0, vl, d, 0, ps))
       else if st = 2 then (en_ (σ 2 n).toNatClampNeg ps.1 :: (n, 3, sa, an, mrk, vl) :: S, gd, vl, d, 0, ps)
       else (en_ (σ 3 n).toNatClampNeg ps.1 :: (n, 2, sa, (if st = 1 then vl else jn_ (wy_ sg) an vl), ps.1, sg) :: S, gd, vl, d, 0, ps)) := by simp [rs_, hst, k10]
    obtain ⟨x, hx, hIx, ex⟩ := g4 (by omega)
    obtain ⟨y, hy, hIy, ey⟩ := g5 (by omega)
    obtain ⟨s2, p2, r2, z2⟩ := rr_chain h hS hx hIx ex hy hIy ey
    rw [hr]
    exact ⟨s2, by rw [bd_s p2], r2, z2⟩
  rw [if_neg (show ¬ nI (kd n) = (10 : Int32) from hno 10 (by omega) k10)]
  by_cases k11 : kd n = 11
  · rw [k11, if_pos (show nI 11 = (11 : Int32) from rfl)]
    have hr : rs_ kd (σ 2) (σ 3) (σ 4) bd (σ 7) len ((n, st, sa, an, mrk, sg) :: S, gd, vl, d, 0, ps) = (S, gd, vl, d - 1, 0, ps) := by simp [rs_, hst, k11]
    rw [hr]
    obtain ⟨d', rfl⟩ : ∃ d', d = d' + 1 := ⟨d - 1, by have := hd k11; omega⟩
    obtain ⟨r1, z1⟩ := rr_dec h
    obtain ⟨r2, z2⟩ := rr_pop r1
    exact ⟨_, rfl, r2, gx_t z1 z2⟩
  rw [if_neg (show ¬ nI (kd n) = (11 : Int32) from hno 11 (by omega) k11)]
  have k12 : kd n = 12 := by omega
  obtain ⟨r, hr4, er⟩ := g9 k12
  by_cases q : gd = 0
  · have hr : rs_ kd (σ 2) (σ 3) (σ 4) bd (σ 7) len ((n, st, sa, an, mrk, sg) :: S, gd, vl, d, 0, ps) = (S, gd, vl, d, 0, ps) := by simp [rs_, hst, k12, q]
    rw [hr, if_pos (e35.mpr q)]
    exact ⟨_, rfl, hpop⟩
  · have hr : rs_ kd (σ 2) (σ 3) (σ 4) bd (σ 7) len ((n, st, sa, an, mrk, sg) :: S, gd, vl, d, 0, ps) = (S, gd, vl, d, 0, (ps.1, ps.2.1, ps.2.2.1, ps.2.2.2.1, va_up ps.2.2.2.2 (σ 3 n).toNatClampNeg vl)) := by simp [rs_, hst, k12, q]
    rw [hr, if_neg (fun hh => q (e35.mp hh)), gd_in hin2, er, gd_in (vp_in_nI hr4 (by omega)), st_e, nI_clamp (show r < 2 ^ 31 by omega), e37]
    obtain ⟨r1, z1⟩ := rr_reg h r vl
    obtain ⟨r2, z2⟩ := rr_pop r1
    exact ⟨_, rfl, r2, gx_t z1 z2⟩
end RSTP
