/-! a whole run of the other system -/
section RRUN
def cn_ (kd : Nat → Nat) : List RF_ → Nat
  | [] => 0
  | f :: S => (if kd f.1 = 11 ∧ f.2.1 ≠ 0 then 1 else 0) + cn_ kd S
def AK_ (kd : Nat → Nat) : List RF_ → Prop
  | [] => True
  | f :: S => (f.2.1 ≠ 0 → 4 ≤ kd f.1 ∧ kd f.1 ≤ 12) ∧ AK_ kd S
def DI_ (kd : Nat → Nat) (c : RC_) : Prop := c.2.2.2.2.1 = 0 → cn_ kd c.1 + 1 ≤ c.2.2.2.1 ∧ AK_ kd c.1
variable {I : Nat → Prop} {σ : MZ_} {f : RF_} {S : List RF_} {gd d ti : Nat} {vl : Int32} {ps : PS_} {kd bd : Nat → Nat} {len : Nat}
theorem di_push {n m : Nat} {p : Nat} {f : RF_} (h : cn_ kd S + 1 ≤ d ∧ AK_ kd S) (hf : kd f.1 ≠ 11) (hf2 : f.2.1 ≠ 0 → 4 ≤ kd f.1 ∧ kd f.1 ≤ 12) : cn_ kd (en_ n p :: f :: S) + 1 ≤ d ∧ AK_ kd (en_ n p :: f :: S) := by
  refine ⟨?_, ?_, hf2, h.2⟩
  · simp [cn_, en_, hf]
    exact h.1
  · intro h; exact absurd rfl h
theorem di_step {ga gb gc tx : Nat → Int32} (h : DI_ kd (f :: S, gd, vl, d, 0, ps)) (hk : kd f.1 ≤ 13) : DI_ kd (rs_ kd ga gb gc bd tx len (f :: S, gd, vl, d, 0, ps)) := by
  obtain ⟨n, st, sa, an, mrk, sg⟩ := f
  obtain ⟨h1, h2, h3⟩ := h rfl
  simp only [cn_] at h1
  simp only at h2 hk
  have hp : cn_ kd S + 1 ≤ d ∧ AK_ kd S := ⟨by omega, h3⟩
  intro ht
  simp only [rs_, rk_] at ht ⊢
  by_cases q : st = 0
  · subst q
    rw [if_pos rfl] at ht ⊢
    by_cases k0 : kd n = 0
    · rw [if_pos k0]; exact hp
    rw [if_neg k0] at ht ⊢
    by_cases k1 : kd n = 1
    · rw [if_pos k1] at ht ⊢
      by_cases q0 : 1500 ≤ ps.2.1
      · rw [if_pos q0] at ht; exact absurd ht (by simp)
      · rw [if_neg q0]; split <;> exact hp
    rw [if_neg k1] at ht ⊢
    by_cases k2 : kd n = 2
    · rw [if_pos k2] at ht ⊢
      by_cases q0 : 1500 ≤ ps.2.1
      · rw [if_pos q0] at ht; exact absurd ht (by simp)
      · rw [if_neg q0]; split <;> exact hp
    rw [if_neg k2] at ht ⊢
    by_cases k3 : kd n = 3
    · rw [if_pos k3]; exact hp
    rw [if_neg k3] at ht ⊢
    by_cases k13 : kd n = 13
    · rw [if_pos k13]; exact hp
    rw [if_neg k13] at ht ⊢
    by_cases k11 : kd n = 11
    · rw [if_pos k11]
      refine ⟨?_, ?_, ?_, h3⟩
      · simp only [cn_, en_, k11]; simp; omega
      · intro h; exact absurd rfl h
      · intro _; simp only; omega
    rw [if_neg k11]
    exact di_push (m := 0) hp k11 (fun _ => by simp only; omega)
  · rw [if_neg q] at ht ⊢
    have hk2 := h2 q
    by_cases k4 : kd n = 4
    · rw [if_pos k4]
      split
      · exact hp
      · split
        · exact hp
        · exact di_push (m := 0) hp (by simp only; omega) (fun _ => hk2)
    rw [if_neg k4] at ht ⊢
    by_cases k5 : kd n = 5
    · rw [if_pos k5]
      split
      · exact hp
      · exact di_push (m := 0) hp (by simp only; omega) (fun _ => hk2)
    rw [if_neg k5] at ht ⊢
    by_cases k6 : kd n = 6
    · rw [if_pos k6]; exact hp
    rw [if_neg k6] at ht ⊢
    by_cases k7 : kd n = 7
    · rw [if_pos k7]; exact hp
    rw [if_neg k7] at ht ⊢
    by_cases k8 : kd n = 8
    · rw [if_pos k8]; split <;> exact hp
    rw [if_neg k8] at ht ⊢
    by_cases k9 : kd n = 9
    · rw [if_pos k9]
      split
      · split <;> exact hp
      · exact di_push (m := 0) hp (by simp only; omega) (fun _ => hk2)
    rw [if_neg k9] at ht ⊢
    by_cases k10 : kd n = 10
    · rw [if_pos k10]
      split
      · split
        · exact hp
        · split <;> exact hp
      · split
        · exact di_push (m := 0) hp (by simp only; omega) (fun _ => hk2)
        · exact di_push (m := 0) hp (by simp only; omega) (fun _ => hk2)
    rw [if_neg k10] at ht ⊢
    by_cases k11 : kd n = 11
    · rw [if_pos k11]
      rw [if_pos ⟨k11, q⟩] at h1
      exact ⟨by simp only; omega, h3⟩
    rw [if_neg k11]
    exact hp
theorem rk_cong {tx tx' : Nat → Int32} (ht : ∀ i, i < len → tx i = tx' i) (lo hi : Int32) : rk_ tx len f S gd vl d ps lo hi = rk_ tx' len f S gd vl d ps lo hi := by
  unfold rk_
  by_cases q : ps.1 < len
  · rw [ht ps.1 q]
  · rw [if_neg (show ¬ (ps.1 < len ∧ lo ≤ tx ps.1 ∧ tx ps.1 ≤ hi) from fun h => q h.1), if_neg (show ¬ (ps.1 < len ∧ lo ≤ tx' ps.1 ∧ tx' ps.1 ≤ hi) from fun h => q h.1)]
/-- a step looks at no node but the top one, and at no sign beyond the text -/
theorem rs_cong {ga gb gc tx ga' gb' gc' tx' : Nat → Int32} (h1 : ga f.1 = ga' f.1) (h2 : gb f.1 = gb' f.1) (h3 : gc f.1 = gc' f.1) (ht : ∀ i, i < len → tx i = tx' i) : rs_ kd ga gb gc bd tx len (f :: S, gd, vl, d, ti, ps) = rs_ kd ga' gb' gc' bd tx' len (f :: S, gd, vl, d, ti, ps) := by
  obtain ⟨n, st, sa, an, mrk, sg⟩ := f
  simp only at h1 h2 h3
  simp only [rs_, h1, h2, h3, rk_cong ht]
/-- the memory's grammar and text are these -/
def AG_ (σ : MZ_) (I : Nat → Prop) (ga gb gc tx : Nat → Int32) (len : Nat) : Prop := (∀ n, I n → n < 80 → σ 2 n = ga n ∧ σ 3 n = gb n ∧ σ 4 n = gc n) ∧ ∀ i, i < len → σ 7 i = tx i
theorem ag_x {σ' : MZ_} {ga gb gc tx : Nat → Int32} (h : AG_ σ I ga gb gc tx len) (hx : Gx_ σ σ') : AG_ σ' I ga gb gc tx len := by
  unfold AG_
  rw [hx 2 (by omega), hx 3 (by omega), hx 4 (by omega), hx 7 (by omega)]
  exact h
theorem rr_go {K : Nat} {ga gb gc tx : Nat → Int32} : ∀ (k : Nat) {σ : MZ_} {c c' : RC_} (N : Nat) (x1 x2 : Int32), RR_ σ I c → GW_ σ kd bd I → RT_ σ len → AG_ σ I ga gb gc tx len → DI_ kd c → Rg_ kd ga gb gc bd tx len k c c' → ∃ σ' x2', f_R_run_L67 K (N + k) σ x1 x2 = f_R_run_L67 K N σ' x1 x2' ∧ RR_ σ' I c' ∧ Gx_ σ σ' := by
  intro k
  induction k with
  | zero => intro σ c c' N x1 x2 h hG hT hA hD hg; cases hg; exact ⟨σ, x2, rfl, h, gx_r⟩
  | succ k ih =>
    intro σ c c' N x1 x2 h hG hT hA hD hg
    obtain ⟨⟨ht, hne, hlen⟩, hg⟩ := hg
    obtain ⟨L, gd, vl, d, ti, ps⟩ := c
    simp only at ht hne hlen
    subst ht
    cases L with
    | nil => exact absurd rfl hne
    | cons f S =>
      simp only [List.length_cons] at hlen
      obtain ⟨e34, hl, ⟨e12, e13, -⟩, ⟨hI, hn, h3, -⟩⟩ := rr_top h
      obtain ⟨a, ⟨-, -, -, c38, -⟩, -⟩ := rr_4 h
      have hpos : ¬ σ 34 0 ≤ 0 := fun hh => by
        have := (li_le 0 a.2.1 (by simp only [List.length_cons]; omega) (by omega)).mp hh
        simp at this
      have ht0 : σ 38 0 = 0 := c38.1
      have hG1 := hG f.1 hI hn
      have hD1 := di_step (bd := bd) (len := len) (ga := ga) (gb := gb) (gc := gc) (tx := tx) hD hG1.2.1
      have hco : rs_ kd (σ 2) (σ 3) (σ 4) bd (σ 7) len (f :: S, gd, vl, d, 0, ps) = rs_ kd ga gb gc bd tx len (f :: S, gd, vl, d, 0, ps) := rs_cong (hA.1 f.1 hI hn).1 (hA.1 f.1 hI hn).2.1 (hA.1 f.1 hI hn).2.2 hA.2
      have step : ∃ s1, (if σ 13 S.length = 0 then f_R_begin σ (nI S.length) else f_R_goOn σ (nI S.length)) = some s1 ∧ RR_ s1 I (rs_ kd (σ 2) (σ 3) (σ 4) bd (σ 7) len (f :: S, gd, vl, d, 0, ps)) ∧ Gx_ σ s1 := by
        by_cases q : f.2.1 = 0
        · rw [if_pos (by rw [e13, q]; rfl)]
          exact rr_begin h (by omega) hG hT q
        · rw [if_neg (show ¬ σ 13 S.length = 0 from fun hh => q ((li_eq 0 e13 (by omega) (by omega)).mp hh))]
          obtain ⟨h1, h2, -⟩ := hD rfl
          refine rr_goOn h (by omega) hG q (h2 q) (fun k11 => ?_)
          simp only [cn_] at h1
          rw [if_pos ⟨k11, q⟩] at h1
          omega
      obtain ⟨s1, p1, r1, z1⟩ := step
      rw [hco] at r1
      obtain ⟨s2, x2', p2, r2, z2⟩ := ih N x1 (nI S.length) r1 (gw_x hG z1) (rt_x hT z1) (ag_x hA z1) hD1 hg
      refine ⟨s2, x2', ?_, r2, gx_t z1 z2⟩
      rw [show N + (k + 1) = (N + k) + 1 by omega, f_R_run_L67, if_neg hpos, if_pos ht0, e34, gd_in (vp_in_nI hl (by omega)), nI_clamp (by omega)]
      by_cases q : σ 13 S.length = 0
      · rw [if_pos q] at p1 ⊢
        rw [bd_s p1]; exact p2
      · rw [if_neg q] at p1 ⊢
        rw [bd_s p1]; exact p2
theorem rr_stop {K N : Nat} {c : RC_} {x1 x2 : Int32} (h : RR_ σ I c) (hc : c.1 = [] ∨ c.2.2.2.2.1 = 1) : f_R_run_L67 K (N + 1) σ x1 x2 = some σ := by
  rw [f_R_run_L67]
  obtain ⟨L, gd, vl, d, ti, ps⟩ := c
  obtain ⟨a, ⟨-, -, -, c38, -⟩, -⟩ := rr_4 h
  rcases hc with hc | hc
  · simp only at hc
    subst hc
    have e : σ 34 0 = 0 := a.2.1
    rw [if_pos (by rw [e]; decide)]
  · simp only at hc
    subst hc
    have e : σ 38 0 = 1 := c38.1
    rw [if_neg (show ¬ σ 38 0 = 0 by rw [e]; decide)]
    split <;> rfl
/-- the registers and the counters are put to their beginning -/
theorem rr_reset (hg : σ 35 0 = 0 ∨ σ 35 0 = 1) (x1 : Int32) : ∃ s gd, (∀ K, f_R_run K σ x1 = (gd_ x1 6 ((f_R_enter s ((σ 6 x1.toNatClampNeg) - 1)).bind fun u1 => f_R_run_L67 K K u1 x1 4))) ∧ RR_ s I ([], gd, σ 37 0, 1, 0, ps1_) ∧ Gx_ σ s := by
  have hc0 : (0 : Int32).toNatClampNeg = 0 := by decide
  have hc1 : (0 + 1 : Int32).toNatClampNeg = 1 := by decide
  have hc2 : (0 + 1 + 1 : Int32).toNatClampNeg = 2 := by decide
  have hc3 : (0 + 1 + 1 + 1 : Int32).toNatClampNeg = 3 := by decide
  let a1 := va_up σ 18 (upd (σ 18) 0 0)
  let a2 := va_up a1 18 (upd (a1 18) 1 0)
  let a3 := va_up a2 18 (upd (a2 18) 2 0)
  let a4 := va_up a3 18 (upd (a3 18) 3 0)
  let s := va_up (va_up (va_up (va_up (va_up (va_up (va_up a4 34 (fun _ => 0)) 36 (fun _ => 0)) 41 (fun _ => 0)) 42 (fun _ => (-1))) 38 (fun _ => 0)) 39 (fun _ => 1)) 40 (fun _ => 1)
  have hx : Gx_ σ s := gx_t (gx_up (j := 18) (by omega)) (gx_t (gx_up (j := 18) (by omega)) (gx_t (gx_up (j := 18) (by omega)) (gx_t (gx_up (j := 18) (by omega)) (gx_t (gx_up (j := 34) (by omega)) (gx_t (gx_up (j := 36) (by omega)) (gx_t (gx_up (j := 41) (by omega)) (gx_t (gx_up (j := 42) (by omega)) (gx_t (gx_up (j := 38) (by omega)) (gx_t (gx_up (j := 39) (by omega)) (gx_up (j := 40) (by omega)))))))))))
  have h18 : ∀ i, i < 4 → s 18 i = 0 := by
    intro i hi
    show upd (upd (upd (upd (σ 18) 0 0) 1 0) 2 0) 3 0 i = 0
    rcases (show i = 0 ∨ i = 1 ∨ i = 2 ∨ i = 3 by omega) with rfl | rfl | rfl | rfl <;> simp [upd]
  have hrun : ∀ K, f_R_run K σ x1 = (gd_ x1 6 ((f_R_enter s ((σ 6 x1.toNatClampNeg) - 1)).bind fun u1 => f_R_run_L67 K K u1 x1 4)) := by
    intro K
    unfold f_R_run
    rw [f_R_run_L2, if_neg (by decide), gd_in (show vp_in (0 : Int32) 4 from vp_in_nI (n := 0) (by omega) (by omega)), hc0, st_e]
    rw [f_R_run_L2, if_neg (by decide), gd_in (show vp_in (0 + 1 : Int32) 4 from vp_in_nI (n := 1) (by omega) (by omega)), hc1, st_e]
    rw [f_R_run_L2, if_neg (by decide), gd_in (show vp_in (0 + 1 + 1 : Int32) 4 from vp_in_nI (n := 2) (by omega) (by omega)), hc2, st_e]
    rw [f_R_run_L2, if_neg (by decide), gd_in (show vp_in (0 + 1 + 1 + 1 : Int32) 4 from vp_in_nI (n := 3) (by omega) (by omega)), hc3, st_e]
    rw [f_R_run_L2, if_pos (by decide)]
    rfl
  rcases hg with hg | hg
  · exact ⟨s, 0, hrun, rr_i ⟨⟨trivial, rfl, by simp⟩, ⟨⟨hg, by omega⟩, rfl, ⟨rfl, by omega⟩, ⟨rfl, by omega⟩, ⟨rfl, by simp [ps1_]⟩, ⟨rfl, by simp [ps1_]⟩, rfl, ⟨rfl, by simp [ps1_]⟩, fun i hi => h18 i hi⟩, fun _ => ⟨by omega, by simp [ps1_]⟩⟩, hx⟩
  · exact ⟨s, 1, hrun, rr_i ⟨⟨trivial, rfl, by simp⟩, ⟨⟨hg, by omega⟩, rfl, ⟨rfl, by omega⟩, ⟨rfl, by omega⟩, ⟨rfl, by simp [ps1_]⟩, ⟨rfl, by simp [ps1_]⟩, rfl, ⟨rfl, by simp [ps1_]⟩, fun i hi => h18 i hi⟩, fun _ => ⟨by omega, by simp [ps1_]⟩⟩, hx⟩
theorem ref_all {hg : Nat → Nat} {ga gb gc tx : Nat → Int32} {r b rr : Nat} {v : Int32} {ps' : PS_} (h35 : σ 35 0 = 0 ∨ σ 35 0 = 1) (hG : GW_ σ kd bd I) (hT : RT_ σ len) (hA : AG_ σ I ga gb gc tx len) (hr : r < 6) (hb : I b) (hb80 : b < 80) (eb : σ 6 r = nI (b + 1)) (h8 : hg b ≤ 8) (hrr : rr = 0 ∨ rr = 1 ∨ rr = 2) (hRS : RS_ kd ga gb gc bd tx len hg b 1 ps1_ rr v ps') :
    ∃ K σ', f_R_run K σ (nI r) = some σ' ∧ Gx_ σ σ' ∧ (σ' 35 0 = 0 ∨ σ' 35 0 = 1) ∧ σ' 41 0 = nI ps'.2.1 ∧ σ' 42 0 = ps'.2.2.1 ∧ (∀ i, i < 4 → σ' 18 i = ps'.2.2.2.2 i) ∧ (rr = 1 → σ' 38 0 = 0 ∧ σ' 35 0 = 1 ∧ σ' 36 0 = nI ps'.1 ∧ σ' 37 0 = v) ∧ (rr = 0 → σ' 38 0 = 0 ∧ σ' 35 0 = 0 ∧ σ' 36 0 = nI ps'.1) ∧ (rr = 2 → σ' 38 0 = 1) := by
  obtain ⟨s, gd, hrun, r1, z1⟩ := rr_reset (I := I) h35 (nI r)
  obtain ⟨k, c', hgo, q1, q0, q2⟩ := hRS [] gd (σ 37 0) (by simp; omega) (by omega)
  obtain ⟨s2, p2, r2, z2⟩ := rr_enter r1 (by simp) hb80 hb (x := nI (b + 1) - 1) (li_m1 rfl)
  have z12 := gx_t z1 z2
  have hD : DI_ kd ([en_ b ps1_.1], gd, σ 37 0, 1, 0, ps1_) := fun _ => ⟨by simp [cn_, en_], fun h => absurd rfl h, trivial⟩
  obtain ⟨s3, x2', p3, r3, z3⟩ := rr_go (K := 1 + k) k (c' := c') 1 (nI r) 4 r2 (gw_x hG z12) (rt_x hT z12) (ag_x hA z12) hD hgo
  have hend : c'.1 = [] ∨ c'.2.2.2.2.1 = 1 := by
    rcases hrr with rfl | rfl | rfl
    · obtain ⟨w, e⟩ := q0 rfl
      rw [e]; exact Or.inl rfl
    · rw [q1 rfl]; exact Or.inl rfl
    · exact Or.inr (q2 rfl).1
  refine ⟨1 + k, s3, ?_, gx_t z12 z3, ?_⟩
  · rw [hrun, gd_in (vp_in_nI hr (by omega)), nI_clamp (by omega), eb, bd_s p2, p3]
    exact rr_stop (N := 0) r3 hend
  · obtain ⟨L, gd', vl', d', ti', pp⟩ := c'
    obtain ⟨-, ⟨⟨e35, hg1⟩, e37, -, ⟨e38, -⟩, ⟨e36, -⟩, ⟨e41, -⟩, e42, -, e18⟩, -⟩ := rr_4 r3
    refine ⟨?_, ?_⟩
    · rcases (show gd' = 0 ∨ gd' = 1 by omega) with rfl | rfl
      · exact Or.inl e35
      · exact Or.inr e35
    rcases hrr with rfl | rfl | rfl
    · obtain ⟨w, e⟩ := q0 rfl
      cases e
      exact ⟨e41, e42, e18, fun h => by omega, fun _ => ⟨e38, e35, e36⟩, fun h => by omega⟩
    · have e := q1 rfl
      cases e
      exact ⟨e41, e42, e18, fun _ => ⟨e38, e35, e36, e37⟩, fun h => by omega, fun h => by omega⟩
    · obtain ⟨f1, f2, f3, f4⟩ := q2 rfl
      simp only at f1 f2 f3 f4
      rw [f2] at e41
      rw [f3] at e42
      rw [f1] at e38
      exact ⟨e41, e42, fun i hi => by rw [e18 i hi, f4], fun h => by omega, fun h => by omega, fun _ => e38⟩
end RRUN
