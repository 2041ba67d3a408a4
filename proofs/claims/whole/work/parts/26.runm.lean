/-! a whole run of the machine -/
section RUNM
theorem fill24 {x : Int32} : ∀ (n i N : Nat) (σ : MZ_), i + n = 4 → n < N → ∃ σ', f_A_fill_24_L5 N σ x (nI i) 4 = some σ' ∧ (∀ j, i ≤ j → j < 4 → σ' 24 j = x) ∧ (∀ j, j < i → σ' 24 j = σ 24 j) ∧ ∀ k, k ≠ 24 → σ' k = σ k := by
  intro n
  induction n with
  | zero =>
    intro i N σ hi hN
    obtain ⟨N, rfl⟩ : ∃ M, N = M + 1 := ⟨N - 1, by omega⟩
    have e : i = 4 := by omega
    subst e
    exact ⟨σ, by rw [f_A_fill_24_L5, if_pos (show (4 : Int32) ≤ nI 4 from Int32.le_refl _)], fun j h1 h2 => by omega, fun _ _ => rfl, fun _ _ => rfl⟩
  | succ n ih =>
    intro i N σ hi hN
    obtain ⟨N, rfl⟩ : ∃ M, N = M + 1 := ⟨N - 1, by omega⟩
    obtain ⟨σ', p, a, b, c⟩ := ih (i + 1) N (va_up σ 24 (upd (σ 24) i x)) (by omega) (by omega)
    refine ⟨σ', ?_, fun j h1 h2 => ?_, fun j h => ?_, fun k hk => ?_⟩
    · rw [f_A_fill_24_L5, if_neg (show ¬ (4 : Int32) ≤ nI i from fun hh => by have := (li_ge 4 rfl (by omega) (by omega)).mp hh; omega), gd_in (vp_in_nI (by omega) (by omega)), nI_clamp (by omega)]
      show f_A_fill_24_L5 N (va_up σ 24 (upd (σ 24) i x)) x (nI i + 1) 4 = _
      rw [nI_1]
      exact p
    · by_cases e : j = i
      · subst e
        rw [b j (by omega), up_s, pk_us]
      · exact a j (by omega) h2
    · rw [b j (by omega), up_s, pk_un (by omega)]
    · rw [c k hk, va_up_ne _ _ hk]
/-- what a parse starts from -/
def ps0_ : PS_ := (0, 0, -1, 0, fun _ => 0)
def ps1_ : PS_ := (0, 0, -1, 1, fun _ => 0)
theorem rm_reset (σ : MZ_) : ∃ σ', f_M_reset σ = some σ' ∧ RM_ σ' ([], [], 0, 0, 0, ps0_) ∧ σ' 42 0 = 1 ∧ ∀ k, (k ≤ 22 ∨ k = 25 ∨ (30 ≤ k ∧ k ≤ 33)) → σ' k = σ k := by
  let a1 := va_up σ 42 (fun _ => (1 : Int32))
  let a2 := va_up a1 35 (fun _ => (0 : Int32))
  let a3 := va_up a2 43 (fun _ => (0 : Int32))
  let a4 := va_up a3 34 (fun _ => (0 : Int32))
  obtain ⟨b, p, q1, -, q3⟩ := fill24 (x := 0) 4 0 100 a4 rfl (by omega)
  let c1 := va_up b 36 (fun _ => (0 : Int32))
  let c2 := va_up c1 37 (fun _ => (0 : Int32))
  let c3 := va_up c2 38 (fun _ => (0 : Int32))
  let c4 := va_up c3 39 (fun _ => (-1 : Int32))
  let c5 := va_up c4 40 (fun _ => (0 : Int32))
  let c6 := va_up c5 41 (fun _ => (0 : Int32))
  refine ⟨c6, ?_, rm_i ⟨⟨trivial, ?_, by simp⟩, ⟨trivial, ?_, by simp⟩, ⟨⟨rfl, by omega⟩, ⟨rfl, by omega⟩, ⟨?_, by omega⟩, ⟨rfl, by simp [ps0_]⟩, ⟨rfl, by simp [ps0_]⟩, rfl, ⟨rfl, by simp [ps0_]⟩, ?_⟩, by simp [cb_]⟩, ?_, ?_⟩
  · simp only [f_M_reset, st_]
    rw [bd_s (show f_F_reset (va_up (va_up σ 42 (fun _ => 1)) 35 (fun _ => 0)) = some a3 from rfl), bd_s (show f_A_fill_24 (va_up a3 34 (fun _ => 0)) 0 = some b from p)]
  · show b 43 0 = _; rw [q3 43 (by omega)]; rfl
  · show b 34 0 = _; rw [q3 34 (by omega)]; rfl
  · show b 35 0 = _; rw [q3 35 (by omega)]; rfl
  · intro i hi
    show b 24 i = 0
    exact q1 i (by omega) hi
  · show b 42 0 = _; rw [q3 42 (by omega)]; rfl
  · intro k hk
    have n36 : k ≠ 36 := by omega
    have n37 : k ≠ 37 := by omega
    have n38 : k ≠ 38 := by omega
    have n39 : k ≠ 39 := by omega
    have n40 : k ≠ 40 := by omega
    have n41 : k ≠ 41 := by omega
    have n24 : k ≠ 24 := by omega
    have n34 : k ≠ 34 := by omega
    have n43 : k ≠ 43 := by omega
    have n35 : k ≠ 35 := by omega
    have n42 : k ≠ 42 := by omega
    show va_up (va_up (va_up (va_up (va_up (va_up b 36 _) 37 _) 38 _) 39 _) 40 _) 41 _ k = _
    rw [va_up_ne _ _ n41, va_up_ne _ _ n40, va_up_ne _ _ n39, va_up_ne _ _ n38, va_up_ne _ _ n37, va_up_ne _ _ n36, q3 k n24]
    show va_up (va_up (va_up (va_up σ 42 _) 35 _) 43 _) 34 _ k = _
    rw [va_up_ne _ _ n34, va_up_ne _ _ n43, va_up_ne _ _ n35, va_up_ne _ _ n42]
theorem rm_first {σ : MZ_} {cs r : Nat} (h : RM_ σ ([], [], 0, 0, 0, ps0_)) (hC : CW_ σ cs) (hr : r < 6) : ∃ σ', f_M_callBody σ (nI r) = some σ' ∧ RM_ σ' ([(1, 0, 0, 0)], [], enf_ σ r, 1, 0, ps1_) ∧ Fx_ σ σ' := by
  obtain ⟨-, ⟨h41, hd40⟩, -, -, -, -, ⟨h40, hb3⟩, -⟩ := (rm_4 h).2.2.1
  have k0 : (ps0_).2.2.2.1 = 0 := rfl
  rw [k0] at h40
  unfold f_M_callBody
  rw [if_neg (show ¬ (40 : Int32) ≤ σ 41 0 from fun hh => by have := (li_ge 40 h41 (by omega) (by omega)).mp hh; omega)]
  rw [if_pos (show σ 40 0 < 300 from (li_lt 300 h40 (by omega) (by omega)).mpr (by omega))]
  obtain ⟨r2, z2⟩ := rm_depth h 1 (by omega) (by simp [cb_]) (x := σ 41 0 + 1) (li_p1 h41)
  obtain ⟨r3, z3⟩ := rm_bodies r2 1 (by omega) (x := (va_up σ 41 (fun _ => σ 41 0 + 1)) 40 0 + 1) (li_p1 h40)
  obtain ⟨σ4, p4, r4, z4⟩ := rm_push r3 (by simp) (m := 1) (t := 0) (by omega) (by omega) (by simp [cb_]) (x := 1) rfl (rm_4 r3).2.2.1.1.1
  obtain ⟨t2, ht2, e19⟩ := hC.2.2.2 r hr
  have zz := fx_t z2 (fx_t z3 z4)
  have hent : f_C_entry σ4 (nI r) = some (nI t2) := by
    unfold f_C_entry
    rw [if_neg (nI_pos (by omega)), if_neg (show ¬ (6 : Int32) ≤ nI r from fun hh => by have := (li_ge 6 rfl (by omega) (by omega)).mp hh; omega), gd_in (vp_in_nI hr (by omega)), nI_clamp (by omega), zz 19 (by omega), e19]
  obtain ⟨r5, z5⟩ := rm_next r4 t2 (by omega) (x := nI t2) rfl
  have hen : enf_ σ r = t2 := by unfold enf_; rw [e19, nI_clamp (by omega)]
  rw [hen]
  refine ⟨_, ?_, r5, fx_t zz z5⟩
  show (f_M_pushFrame _ 1 _).bind _ = _
  rw [bd_s p4, bd_s hent]
  rfl
theorem run_end {N : Nat} {σ : MZ_} {x1 x2 : Int32} (h : ¬ σ 35 0 = 0) : f_M_run_L11 (N + 1) σ x1 x2 = some σ := by
  rw [f_M_run_L11]
  simp [h]
/-- both machines, over the cells of the first: rule r's body b is run -/
theorem run_all {σ : MZ_} {cs len r b : Nat} {pc hg kd : Nat → Nat} {ga gb gc : Nat → Int32} {bd : Nat → Nat} {E : Nat → Bool} {I : Nat → Prop} (hC : CW_ σ cs) (hT : TW_ σ len) (hr : r < 6) (hb : I b) (he : enf_ σ r = pc b) (h0 : (cdf_ σ cs 0).1 = 0) (hW : WM_ (cdf_ σ cs) (enf_ σ) pc hg kd ga gb gc bd E I) :
    ∃ (σ' : MZ_) (rr : Nat) (v : Int32) (ps' : PS_), f_M_run σ (nI r) = some σ' ∧ (rr = 0 ∨ rr = 1 ∨ rr = 2) ∧ RS_ kd ga gb gc bd (σ 21) len hg b 1 ps1_ rr v ps' ∧ (∀ k, (k ≤ 22 ∨ k = 25 ∨ (30 ≤ k ∧ k ≤ 33)) → σ' k = σ k) ∧ σ' 42 0 = 1 ∧
      σ' 38 0 = nI ps'.2.1 ∧ σ' 39 0 = ps'.2.2.1 ∧ (∀ i, i < 4 → σ' 24 i = ps'.2.2.2.2 i) ∧ (rr = 1 → σ' 35 0 = 1 ∧ σ' 37 0 = nI ps'.1 ∧ f_M_answer σ' = some v) ∧ (rr = 0 → σ' 35 0 = 2 ∧ σ' 37 0 = nI ps'.1) ∧ (rr = 2 → σ' 35 0 = 3) := by
  obtain ⟨s1, p1, r1, q42, z1⟩ := rm_reset σ
  have fx1 : ∀ k, (k ≤ 22 ∨ k = 25 ∨ (30 ≤ k ∧ k ≤ 33)) → s1 k = σ k := z1
  have hC1 : CW_ s1 cs := by
    unfold CW_
    rw [fx1 32 (by omega), fx1 15 (by omega), fx1 16 (by omega), fx1 17 (by omega), fx1 19 (by omega)]
    exact hC
  have hT1 : TW_ s1 len := by
    unfold TW_
    rw [fx1 33 (by omega), fx1 21 (by omega)]
    exact hT
  have ec1 : cdf_ s1 cs = cdf_ σ cs := by
    unfold cdf_
    rw [fx1 15 (by omega), fx1 16 (by omega), fx1 17 (by omega)]
  have ee1 : enf_ s1 = enf_ σ := by
    unfold enf_
    rw [fx1 19 (by omega)]
  obtain ⟨s2, p2, r2, z2⟩ := rm_first r1 hC1 hr
  rw [ee1, he] at r2
  have hC2 := cw_x hC1 z2
  have hT2 := tw_x hT1 z2
  have ec2 : cdf_ s2 cs = cdf_ σ cs := (cdf_x z2).trans ec1
  have ee2 : enf_ s2 = enf_ σ := (enf_x z2).trans ee1
  have et2 : s2 21 = σ 21 := (z2 21 (by omega)).trans (fx1 21 (by omega))
  obtain ⟨rr, v, ps', k, ow, ns, hCS, hRS, hrr, hev, hlk, hbo, -, hk⟩ := q_all (tx := σ 21) (len := len) hW 1800 8 b 1 ps1_ hb (hW b hb).2.1 (by omega) (by simp [ps1_]) (by simp [ps1_]) (by simp [ps1_])
  have hkk : k ≤ 12000000 := by
    have g := be_8 8 (by omega)
    have g1 : be_ 8 * ow ≤ 6058 * ow := Nat.mul_le_mul_right _ g.1
    have e0 : ps1_.2.1 + ps1_.2.2.2.1 = 1 := rfl
    omega
  obtain ⟨c1, c0, c2⟩ := hCS (1, 0, 0, 0) [] [] (by have := (hW b hb).2.1; simp; omega) (by have := (hW b hb).2.1; simp; omega) (by omega)
  have hNX : NX_ ([(1, 0, 0, 0)], ([] : List Int32), pc b, 1, 0, ps1_) := by
    refine ⟨fun _ => ?_, fun fr h => ?_⟩
    · obtain ⟨t, ht, e⟩ := hC.2.2.2 r hr
      rw [← he]
      show enf_ σ r ≤ 561
      unfold enf_
      rw [e, nI_clamp (by omega)]; exact ht
    · rcases List.mem_cons.mp h with rfl | h
      · simp
      · cases h
  -- from the list machine back to the cells
  have back : ∀ (j : Nat) (c' : MC_), Go_ (cdf_ σ cs) (enf_ σ) (σ 21) len j ([(1, 0, 0, 0)], [], pc b, 1, 0, ps1_) c' → j ≤ 12000001 → c'.2.2.2.2.1 ≠ 0 → ∃ σ', f_M_run σ (nI r) = some σ' ∧ RM_ σ' c' ∧ (∀ k, (k ≤ 22 ∨ k = 25 ∨ (30 ≤ k ∧ k ≤ 33)) → σ' k = σ k) ∧ σ' 42 0 = 1 := by
    intro j c' hg hj hst
    obtain ⟨s3, p3, r3, z3⟩ := rm_go (cs := cs) (len := len) j (σ := s2) (c' := c') (20000000 - j) 0 (nI r) r2 hC2 hT2 hNX (by rw [ec2, ee2, et2]; exact hg) (by omega)
    have hne : ¬ s3 35 0 = 0 := by
      obtain ⟨F, As, nx, d, st, ps⟩ := c'
      obtain ⟨h35, hst3⟩ := (rm_4 r3).2.2.1.2.2.1
      intro hh
      exact hst ((li_eq 0 h35 (by omega) (by omega)).mp hh)
    refine ⟨s3, ?_, r3, fun k hk => (z3 k (by omega)).trans ((z2 k (by omega)).trans (fx1 k hk)), ?_⟩
    · unfold f_M_run
      rw [bd_s p1, bd_s p2]
      rw [show 20000000 - j + j = 20000000 by omega] at p3
      show f_M_run_L11 20000000 s2 (nI r) (nI 0) = _
      rw [p3, show 20000000 - j = (20000000 - j - 1) + 1 by omega]
      exact run_end hne
    · rw [z3 42 (by omega), z2 42 (by omega)]; exact q42
  rcases hrr with rfl | rfl | rfl
  · obtain ⟨X, nx, g⟩ := c0 rfl
    obtain ⟨σ', p, rm, fx, h42⟩ := back k _ g (by omega) (by simp [unw_])
    have e9 : unw_ [(1, 0, 0, 0)] (X ++ []) ps'.1 1 nx ps' = ([], X ++ [], nx, 0, 2, (ps'.1, ps'.2)) := by simp [unw_]
    rw [e9] at rm
    obtain ⟨-, -, ⟨h35, -⟩, ⟨h37, -⟩, ⟨h38, -⟩, h39, -, h24⟩ := (rm_4 rm).2.2.1
    exact ⟨σ', 0, v, ps', p, Or.inl rfl, hRS, fx, h42, h38, h39, h24, fun e => by omega, fun _ => ⟨h35, h37⟩, fun e => by omega⟩
  · have g := c1 rfl
    have g2 : Go_ (cdf_ σ cs) (enf_ σ) (σ 21) len 1 ([], [v], 0, 0, 0, ps') ([], [v], 1, 0, 1, ps') := go_1 (k := 0) (by simp) (by simp) (ms_end (p := (cdf_ σ cs 0).2.1) (q := (cdf_ σ cs 0).2.2) (Prod.ext h0 rfl)) rfl
    obtain ⟨σ', p, rm, fx, h42⟩ := back (k + 1) _ (go_tr g g2) (by omega) (by simp)
    obtain ⟨-, hB, ⟨-, -, ⟨h35, -⟩, ⟨h37, -⟩, ⟨h38, -⟩, h39, -, h24⟩, -⟩ := rm_4 rm
    exact ⟨σ', 1, v, ps', p, Or.inr (Or.inl rfl), hRS, fx, h42, h38, h39, h24, fun _ => ⟨h35, h37, ra_answer hB⟩, fun e => by omega, fun e => by omega⟩
  · obtain ⟨c', g, hst, hps⟩ := c2 rfl
    obtain ⟨σ', p, rm, fx, h42⟩ := back k c' g (by omega) (by omega)
    obtain ⟨F, As, nx, d, st, ps⟩ := c'
    simp only at hst hps
    obtain ⟨-, -, ⟨h35, -⟩, -, ⟨h38, -⟩, h39, -, h24⟩ := (rm_4 rm).2.2.1
    rw [hst] at h35
    refine ⟨σ', 2, v, ps', p, Or.inr (Or.inr rfl), hRS, fx, h42, ?_, ?_, ?_, fun e => by omega, fun e => by omega, fun _ => h35⟩
    · rw [h38, hps]
    · rw [h39, hps]
    · intro i hi; rw [h24 i hi, hps]
end RUNM
