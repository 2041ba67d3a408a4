/-! the whole code, and that it is what the machine wants -/
section CODW
variable {σ : MZ_} {g : Nat} {kd : Nat → Nat} {ga gb gc : Nat → Int32} {hg : Nat → Nat} {bo : Nat → Option Nat} {J : Nat → Bool}
def Dx_ (σ σ' : MZ_) : Prop := ∀ k, (k < 15 ∨ 19 < k) → k ≠ 32 → σ' k = σ k
theorem dx_t {a b c : MZ_} (h1 : Dx_ a b) (h2 : Dx_ b c) : Dx_ a c := fun k p q => (h2 k p q).trans (h1 k p q)
theorem dx_c {a b : MZ_} (h : Cx_ a b) : Dx_ a b := fun k p q => h k (by omega) (by omega) (by omega) q
theorem dx_u {a : MZ_} {c : Nat} {f : Nat → Int32} (hc : 15 ≤ c ∧ c ≤ 19) : Dx_ a (va_up a c f) := fun k p q => va_up_ne _ _ (by omega)
theorem xg_d {σ' : MZ_} (h : XG_ σ g kd ga gb gc hg bo) (hx : Dx_ σ σ') : XG_ σ' g kd ga gb gc hg bo := by
  unfold XG_
  rw [hx 31 (by omega) (by omega), hx 2 (by omega) (by omega), hx 3 (by omega) (by omega), hx 4 (by omega) (by omega), hx 5 (by omega) (by omega), hx 6 (by omega) (by omega), hx 7 (by omega) (by omega)]
  exact h
theorem wr_1 (hW : WF_ g kd ga gb gc hg bo) : ∀ (j N n : Nat) (σ : MZ_), n + j = g → j < N → XG_ σ g kd ga gb gc hg bo → MK_ (σ 11) g J → CL_ σ (lc_ kd ga gb gc J n) → PW_ σ (ln_ kd J) n → ∃ σ', f_C_write_L14 N σ (nI n) = f_C_write_L80 100 σ' (nI 0) ∧ Dx_ σ σ' ∧ CL_ σ' (lc_ kd ga gb gc J g) ∧ PW_ σ' (ln_ kd J) g := by
  have hg80 := hW.1
  have hk : ∀ n, n < g → kd n ≤ 13 := fun n hn => (hW.2.1 n hn).1
  intro j
  induction j with
  | zero =>
    intro N n σ h1 h2 hX hJ hC hP
    obtain ⟨N, rfl⟩ : ∃ M, N = M + 1 := ⟨N - 1, by omega⟩
    have e : n = g := by omega
    subst e
    rw [f_C_write_L14, bd_s (show f_G_size σ = some (nI n) by unfold f_G_size; rw [hX.1]), if_pos ((le_c (by omega) (by omega)).mpr (Nat.le_refl _))]
    exact ⟨σ, rfl, fun _ _ _ => rfl, hC, hP⟩
  | succ j ih =>
    intro N n σ h1 h2 hX hJ hC hP
    obtain ⟨N, rfl⟩ : ∃ M, N = M + 1 := ⟨N - 1, by omega⟩
    have hn : n < g := by omega
    obtain ⟨hlen, hle⟩ := lc_len (ga := ga) (gb := gb) (gc := gc) (J := J) hk n (by omega)
    rw [f_C_write_L14, bd_s (show f_G_size σ = some (nI g) by unfold f_G_size; rw [hX.1]), if_neg (fun hh => by have := (le_c (by omega) (by omega)).mp hh; omega), gd_in (vp_in_nI (by omega) (by omega)), st_e, nI_clamp (by omega), nI_1]
    have d2 : Dx_ σ (va_up σ 18 (upd (σ 18) n (σ 32 0))) := dx_u (by omega)
    have hC2 : CL_ (va_up σ 18 (upd (σ 18) n (σ 32 0))) (lc_ kd ga gb gc J n) := hC
    have hJ2 : MK_ ((va_up σ 18 (upd (σ 18) n (σ 32 0))) 11) g J := hJ
    have hP2 : PW_ (va_up σ 18 (upd (σ 18) n (σ 32 0))) (ln_ kd J) (n + 1) := by
      intro m hm
      rw [va_up_self]
      by_cases e : m = n
      · subst e; rw [pk_us, hC.1, hlen]
      · rw [pk_un e]; exact hP m (by omega)
    generalize va_up σ 18 (upd (σ 18) n (σ 32 0)) = s2 at d2 hC2 hJ2 hP2 ⊢
    have hX2 := xg_d hX d2
    have hib : f_Y_isInBodies s2 (nI n) = some (bI (J n)) := by
      unfold f_Y_isInBodies
      rw [bd_s (xm_11 hX2 hg80 hJ2 hn), bI_o]
    rw [bd_s hib]
    cases hq : J n with
    | false =>
      rw [if_pos (bI_0 rfl)]
      have e : lc_ kd ga gb gc J (n + 1) = lc_ kd ga gb gc J n := by
        show lc_ kd ga gb gc J n ++ (if J n then _ else []) = _
        rw [hq]; simp
      obtain ⟨σ', p, hx, c, hp⟩ := ih N (n + 1) s2 (by omega) (by omega) hX2 hJ2 (by rw [e]; exact hC2) hP2
      exact ⟨σ', p, dx_t d2 hx, c, hp⟩
    | true =>
      obtain ⟨ea, eb, ec, ek⟩ := xg_a hX2 hg80 hn
      rw [if_neg (bI_1 rfl), bd_s ek, bd_s ea, bd_s eb, bd_s ec]
      obtain ⟨s3, p3, c3, x3⟩ := wr_piece (pc := ln_ kd J) hW hn hC2 (by omega) hlen.symm (fun m hm => hP2 m (by omega))
      have e : lc_ kd ga gb gc J (n + 1) = lc_ kd ga gb gc J n ++ pe_ kd ga gb gc (ln_ kd J) n := by
        show lc_ kd ga gb gc J n ++ (if J n then _ else []) = _
        rw [hq]; rfl
      obtain ⟨u8, q8, q9⟩ : ∃ u8, f_C_writePiece s2 (nI (kd n)) (ga n) (gb n) (gc n) = some u8 ∧ f_C_put u8 6 0 0 = some s3 := bd_some p3
      rw [bd_s q8, bd_s q9]
      obtain ⟨σ', p, hx, c, hp⟩ := ih N (n + 1) s3 (by omega) (by omega) (xg_d hX2 (dx_c x3)) (by rw [x3 11 (by omega) (by omega) (by omega) (by omega)]; exact hJ2) (by rw [e]; exact c3) (pw_x hP2 x3)
      exact ⟨σ', p, dx_t d2 (dx_t (dx_c x3) hx), c, hp⟩
def eb_ (bo : Nat → Option Nat) (pc : Nat → Nat) (r : Nat) : Nat := match bo r with | some b => pc b | none => 0
theorem wr_2 {pc : Nat → Nat} {l : List In_} (hW : WF_ g kd ga gb gc hg bo) : ∀ (j N r : Nat) (σ : MZ_), r + j = 6 → j < N → XG_ σ g kd ga gb gc hg bo → CL_ σ l → PW_ σ pc g → (∀ i, i < r → σ 19 i = nI (eb_ bo pc i)) → ∃ σ', f_C_write_L80 N σ (nI r) = some σ' ∧ Dx_ σ σ' ∧ CL_ σ' l ∧ (∀ i, i < 6 → σ' 19 i = nI (eb_ bo pc i)) := by
  have hg80 := hW.1
  intro j
  induction j with
  | zero =>
    intro N r σ h1 h2 hX hC hP hM
    obtain ⟨N, rfl⟩ : ∃ M, N = M + 1 := ⟨N - 1, by omega⟩
    have e : r = 6 := by omega
    subst e
    rw [f_C_write_L80, if_pos (by decide)]
    exact ⟨σ, rfl, fun _ _ _ => rfl, hC, hM⟩
  | succ j ih =>
    intro N r σ h1 h2 hX hC hP hM
    obtain ⟨N, rfl⟩ : ∃ M, N = M + 1 := ⟨N - 1, by omega⟩
    obtain ⟨y, ey, ly⟩ : ∃ y, f_G_body σ (nI r) = some y ∧ f_C_piece σ y = some (nI (eb_ bo pc r)) := by
      have e := xg_body hX (show r < 6 by omega)
      unfold eb_ f_C_piece
      cases hb : bo r with
      | none => rw [hb] at e; exact ⟨-1, e, by rw [if_pos (by decide)]; rfl⟩
      | some b =>
        rw [hb] at e
        have hbg := hW.2.2 r b (by omega) hb
        refine ⟨nI b, e, ?_⟩
        rw [if_neg (nI_pos (by omega)), if_neg (show ¬ (80 : Int32) ≤ nI b from fun hh => by have := (le_c (N := 80) (by omega) (by omega)).mp hh; omega), gd_in (vp_in_nI (by omega) (by omega)), nI_clamp (by omega), hP b hbg]
    rw [f_C_write_L80, if_neg (show ¬ (6 : Int32) ≤ nI r from fun hh => by have := (le_c (N := 6) (by omega) (by omega)).mp hh; omega), bd_s ey, bd_s ly, gd_in (vp_in_nI (by omega) (by omega)), st_e, nI_clamp (by omega), nI_1]
    obtain ⟨σ', p, hx, c, hz⟩ := ih N (r + 1) (va_up σ 19 (upd (σ 19) r (nI (eb_ bo pc r)))) (by omega) (by omega) (xg_d hX (dx_u (by omega))) hC hP (by
      rw [va_up_self]
      intro i hi
      by_cases e : i = r
      · subst e; rw [pk_us]
      · rw [pk_un e]; exact hM i (by omega))
    exact ⟨σ', p, dx_t (dx_u (by omega)) hx, c, hz⟩
theorem wr_all (hW : WF_ g kd ga gb gc hg bo) (hX : XG_ σ g kd ga gb gc hg bo) (hJ : MK_ (σ 11) g J) : ∃ σ', f_C_write σ = some σ' ∧ Dx_ σ σ' ∧ CL_ σ' (lc_ kd ga gb gc J g) ∧ (∀ i, i < 6 → σ' 19 i = nI (eb_ bo (ln_ kd J) i)) := by
  unfold f_C_write
  rw [st_e]
  have d0 : Dx_ σ (va_up σ 32 (fun _ => 0)) := fun k _ q => va_up_ne _ _ q
  have c0 : CL_ (va_up σ 32 (fun _ => 0)) [] := ⟨rfl, fun i o p q h => by simp at h⟩
  obtain ⟨s1, p1, c1, x1⟩ := cl_put c0 (by simp) 0 0 0 (x := 0) rfl
  have d1 := dx_t d0 (dx_c x1)
  rw [bd_s p1]
  obtain ⟨s2, p2, x2, c2, w2⟩ := wr_1 (J := J) hW g 100 0 s1 (by omega) (by have := hW.1; omega) (xg_d hX d1) (by rw [d1 11 (by omega) (by omega)]; exact hJ) c1 (fun m hm => by omega)
  obtain ⟨s3, p3, x3, c3, w3⟩ := wr_2 hW 6 100 0 s2 (by omega) (by omega) (xg_d (xg_d hX d1) x2) c2 w2 (fun i hi => by omega)
  exact ⟨s3, Eq.trans p2 p3, dx_t d1 (dx_t x2 x3), c3, w3⟩
/-! it is sound code -/
def IV_ (a : In_) : Prop := a.1 ≤ 14 ∧ (a.1 = 4 → ∃ t, t ≤ 561 ∧ a.2.1 = nI t) ∧ (a.1 = 5 → ∃ t, t < 6 ∧ a.2.1 = nI t) ∧ (a.1 = 9 → ∃ m t, 2 ≤ m ∧ m ≤ 5 ∧ t ≤ 561 ∧ a.2.1 = nI m ∧ a.2.2 = nI t) ∧ (a.1 = 12 → ∃ t, t ≤ 561 ∧ a.2.1 = nI t) ∧ (a.1 = 13 → ∃ t, t < 4 ∧ a.2.1 = nI t) ∧ (a.1 = 14 → ∃ t, t < 4 ∧ a.2.1 = nI t)
theorem iv_o {o : Nat} {p q : Int32} (h : o ≤ 14) (h4 : o ≠ 4) (h5 : o ≠ 5) (h9 : o ≠ 9) (h12 : o ≠ 12) (h13 : o ≠ 13) (h14 : o ≠ 14) : IV_ (o, p, q) := ⟨h, fun e => absurd e h4, fun e => absurd e h5, fun e => absurd e h9, fun e => absurd e h12, fun e => absurd e h13, fun e => absurd e h14⟩
theorem iv_4 {t : Nat} {q : Int32} (h : t ≤ 561) : IV_ (4, nI t, q) := ⟨by simp, fun _ => ⟨t, h, rfl⟩, by simp, by simp, by simp, by simp, by simp⟩
theorem iv_12 {t : Nat} {q : Int32} (h : t ≤ 561) : IV_ (12, nI t, q) := ⟨by simp, by simp, by simp, by simp, fun _ => ⟨t, h, rfl⟩, by simp, by simp⟩
theorem iv_9 {m t : Nat} {p q : Int32} (h1 : 2 ≤ m) (h2 : m ≤ 5) (h : t ≤ 561) (hp : p = nI m) (hq : q = nI t) : IV_ (9, p, q) := ⟨by simp, by simp, by simp, fun _ => ⟨m, t, h1, h2, h, hp, hq⟩, by simp, by simp, by simp⟩
theorem iv_5 {t : Nat} {p q : Int32} (h : t < 6) (hp : p = nI t) : IV_ (5, p, q) := ⟨by simp, by simp, fun _ => ⟨t, h, hp⟩, by simp, by simp, by simp, by simp⟩
theorem iv_13 {t : Nat} {p q : Int32} (h : t < 4) (hp : p = nI t) : IV_ (13, p, q) := ⟨by simp, by simp, by simp, by simp, by simp, fun _ => ⟨t, h, hp⟩, by simp⟩
theorem iv_14 {t : Nat} {p q : Int32} (h : t < 4) (hp : p = nI t) : IV_ (14, p, q) := ⟨by simp, by simp, by simp, by simp, by simp, by simp, fun _ => ⟨t, h, hp⟩⟩
theorem iv_6 : IV_ (6, 0, 0) := iv_o (by omega) (by omega) (by omega) (by omega) (by omega) (by omega) (by omega)
theorem pe_iv {pc : Nat → Nat} {n : Nat} (hW : WF_ g kd ga gb gc hg bo) (hn : n < g) (hpc : ∀ m, m ≤ n → pc m + 6 ≤ 561) : ∀ a ∈ pe_ kd ga gb gc pc n, IV_ a := by
  have hg80 := hW.1
  obtain ⟨g1, -, -, g4, g5, -, -, g8, g9, g10⟩ := hW.2.1 n hn
  have ivo : ∀ {o : Nat} {p q : Int32}, o ≤ 14 ∧ o ≠ 4 ∧ o ≠ 5 ∧ o ≠ 9 ∧ o ≠ 12 ∧ o ≠ 13 ∧ o ≠ 14 → IV_ (o, p, q) := fun h => iv_o h.1 h.2.1 h.2.2.1 h.2.2.2.1 h.2.2.2.2.1 h.2.2.2.2.2.1 h.2.2.2.2.2.2
  have hpn := hpc n (Nat.le_refl n)
  unfold pe_
  by_cases k0 : kd n = 0
  · rw [if_pos k0]
    intro a ha
    simp only [List.mem_cons, List.not_mem_nil, or_false] at ha
    rcases ha with rfl | rfl
    · exact ivo (by omega)
    · exact ivo (by omega)
  rw [if_neg k0]
  by_cases k1 : kd n = 1
  · rw [if_pos k1]
    intro a ha
    simp only [List.mem_cons, List.not_mem_nil, or_false] at ha
    rcases ha with rfl | rfl
    · exact ivo (by omega)
    · exact ivo (by omega)
  rw [if_neg k1]
  by_cases k2 : kd n = 2
  · rw [if_pos k2]
    intro a ha
    simp only [List.mem_cons, List.not_mem_nil, or_false] at ha
    rcases ha with rfl | rfl
    · exact ivo (by omega)
    · exact ivo (by omega)
  rw [if_neg k2]
  by_cases k3 : kd n = 3
  · rw [if_pos k3]
    intro a ha
    simp only [List.mem_cons, List.not_mem_nil, or_false] at ha
    rcases ha with rfl | rfl
    · exact ivo (by omega)
    · exact ivo (by omega)
  rw [if_neg k3]
  by_cases k4 : kd n = 4
  · rw [if_pos k4]
    obtain ⟨x, hx, ex, -⟩ := g4 (by omega)
    obtain ⟨y, hy, ey, -⟩ := g5 (by omega)
    intro a ha
    simp only [List.mem_cons, List.not_mem_nil, or_false] at ha
    rcases ha with rfl | rfl | rfl | rfl
    · exact iv_4 (by rw [ex, nI_clamp (by omega)]; have := hpc x (by omega); omega)
    · exact iv_4 (by rw [ey, nI_clamp (by omega)]; have := hpc y (by omega); omega)
    · exact ivo (by omega)
    · exact ivo (by omega)
  rw [if_neg k4]
  by_cases k5 : kd n = 5
  · rw [if_pos k5]
    obtain ⟨x, hx, ex, -⟩ := g4 (by omega)
    obtain ⟨y, hy, ey, -⟩ := g5 (by omega)
    intro a ha
    simp only [List.mem_cons, List.not_mem_nil, or_false] at ha
    rcases ha with rfl | rfl | rfl | rfl | rfl | rfl
    · exact iv_9 (m := 2) (t := pc n + 4) (by omega) (by omega) (by omega) rfl rfl
    · exact iv_4 (by rw [ex, nI_clamp (by omega)]; have := hpc x (by omega); omega)
    · exact ivo (by omega)
    · exact ivo (by omega)
    · exact iv_4 (by rw [ey, nI_clamp (by omega)]; have := hpc y (by omega); omega)
    · exact ivo (by omega)
  rw [if_neg k5]
  by_cases k6 : kd n = 6
  · rw [if_pos k6]
    obtain ⟨x, hx, ex, -⟩ := g4 (by omega)
    intro a ha
    simp only [List.mem_cons, List.not_mem_nil, or_false] at ha
    rcases ha with rfl | rfl | rfl | rfl
    · exact iv_9 (m := 3) (t := 0) (by omega) (by omega) (by omega) rfl rfl
    · exact iv_4 (by rw [ex, nI_clamp (by omega)]; have := hpc x (by omega); omega)
    · exact ivo (by omega)
    · exact ivo (by omega)
  rw [if_neg k6]
  by_cases k7 : kd n = 7
  · rw [if_pos k7]
    obtain ⟨x, hx, ex, -⟩ := g4 (by omega)
    intro a ha
    simp only [List.mem_cons, List.not_mem_nil, or_false] at ha
    rcases ha with rfl | rfl | rfl | rfl
    · exact iv_9 (m := 4) (t := 0) (by omega) (by omega) (by omega) rfl rfl
    · exact iv_4 (by rw [ex, nI_clamp (by omega)]; have := hpc x (by omega); omega)
    · exact ivo (by omega)
    · exact ivo (by omega)
  rw [if_neg k7]
  by_cases k8 : kd n = 8
  · rw [if_pos k8]
    obtain ⟨x, hx, ex, -⟩ := g4 (by omega)
    intro a ha
    simp only [List.mem_cons, List.not_mem_nil, or_false] at ha
    rcases ha with rfl | rfl | rfl | rfl | rfl | rfl
    · exact iv_9 (m := 5) (t := pc n + 4) (by omega) (by omega) (by omega) rfl rfl
    · exact iv_4 (by rw [ex, nI_clamp (by omega)]; have := hpc x (by omega); omega)
    · exact ivo (by omega)
    · exact ivo (by omega)
    · exact ivo (by omega)
    · exact ivo (by omega)
  rw [if_neg k8]
  by_cases k9 : kd n = 9
  · rw [if_pos k9]
    obtain ⟨x, hx, ex, -⟩ := g4 (by omega)
    intro a ha
    simp only [List.mem_cons, List.not_mem_nil, or_false] at ha
    rcases ha with rfl | rfl | rfl | rfl | rfl | rfl
    · exact ivo (by omega)
    · exact iv_9 (m := 2) (t := pc n + 5) (by omega) (by omega) (by omega) rfl rfl
    · exact iv_4 (by rw [ex, nI_clamp (by omega)]; have := hpc x (by omega); omega)
    · exact ivo (by omega)
    · exact iv_12 (by omega)
    · exact ivo (by omega)
  rw [if_neg k9]
  by_cases k10 : kd n = 10
  · rw [if_pos k10]
    obtain ⟨x, hx, ex, -⟩ := g4 (by omega)
    obtain ⟨y, hy, ey, -⟩ := g5 (by omega)
    intro a ha
    simp only [List.mem_cons, List.not_mem_nil, or_false] at ha
    rcases ha with rfl | rfl | rfl | rfl | rfl | rfl | rfl
    · exact iv_4 (by rw [ex, nI_clamp (by omega)]; have := hpc x (by omega); omega)
    · exact iv_9 (m := 2) (t := pc n + 6) (by omega) (by omega) (by omega) rfl rfl
    · exact iv_4 (by rw [ey, nI_clamp (by omega)]; have := hpc y (by omega); omega)
    · exact iv_4 (by rw [ex, nI_clamp (by omega)]; have := hpc x (by omega); omega)
    · exact ivo (by omega)
    · exact iv_12 (by omega)
    · exact ivo (by omega)
  rw [if_neg k10]
  by_cases k11 : kd n = 11
  · rw [if_pos k11]
    obtain ⟨r, hr, er⟩ := g8 k11
    intro a ha
    simp only [List.mem_cons, List.not_mem_nil, or_false] at ha
    rcases ha with rfl | rfl
    · exact iv_5 hr er
    · exact ivo (by omega)
  rw [if_neg k11]
  by_cases k12 : kd n = 12
  · rw [if_pos k12]
    obtain ⟨x, hx, ex, -⟩ := g4 (by omega)
    obtain ⟨r, hr, er⟩ := g9 k12
    intro a ha
    simp only [List.mem_cons, List.not_mem_nil, or_false] at ha
    rcases ha with rfl | rfl | rfl
    · exact iv_4 (by rw [ex, nI_clamp (by omega)]; have := hpc x (by omega); omega)
    · exact iv_13 hr er
    · exact ivo (by omega)
  rw [if_neg k12]
  obtain ⟨r, hr, er⟩ := g10 (by omega)
  intro a ha
  simp only [List.mem_cons, List.not_mem_nil, or_false] at ha
  rcases ha with rfl | rfl
  · exact iv_14 hr er
  · exact ivo (by omega)
theorem lc_iv (hW : WF_ g kd ga gb gc hg bo) : ∀ n, n ≤ g → ∀ a ∈ lc_ kd ga gb gc J n, IV_ a := by
  have hk : ∀ n, n < g → kd n ≤ 13 := fun n hn => (hW.2.1 n hn).1
  have hg80 := hW.1
  intro n
  induction n with
  | zero =>
    intro _ a ha
    have ha : a ∈ [((0, 0, 0) : In_)] := ha
    simp only [List.mem_cons, List.not_mem_nil, or_false] at ha
    subst ha
    exact iv_o (by omega) (by omega) (by omega) (by omega) (by omega) (by omega) (by omega)
  | succ n ih =>
    intro hn a ha
    have ha : a ∈ lc_ kd ga gb gc J n ++ (if J n then pe_ kd ga gb gc (ln_ kd J) n else []) := ha
    rcases List.mem_append.mp ha with ha | ha
    · exact ih (by omega) a ha
    · cases hq : J n with
      | false => rw [hq] at ha; simp at ha
      | true =>
        rw [hq] at ha
        exact pe_iv hW (by omega) (fun m hm => by have := (lc_len (ga := ga) (gb := gb) (gc := gc) (J := J) hk m (by omega)).2; omega) a ha
theorem cl_cw (hW : WF_ g kd ga gb gc hg bo) (hC : CL_ σ (lc_ kd ga gb gc J g)) (hE : ∀ i, i < 6 → σ 19 i = nI (eb_ bo (ln_ kd J) i)) : CW_ σ (lc_ kd ga gb gc J g).length := by
  have hk : ∀ n, n < g → kd n ≤ 13 := fun n hn => (hW.2.1 n hn).1
  have hg80 := hW.1
  obtain ⟨e1, e2⟩ := lc_len (ga := ga) (gb := gb) (gc := gc) (J := J) hk g (Nat.le_refl g)
  refine ⟨hC.1, by omega, fun i hi => ?_, fun r hr => ⟨_, ?_, hE r hr⟩⟩
  · have hm := List.getElem?_eq_getElem hi
    obtain ⟨a1, a2, a3⟩ := hC.2 i _ _ _ hm
    obtain ⟨v1, v4, v5, v9, v12, v13, v14⟩ := lc_iv (J := J) hW g (Nat.le_refl g) _ (List.getElem_mem hi)
    rw [a2, a3]
    exact ⟨_, v1, a1, v4, v5, v9, v12, v13, v14⟩
  · unfold eb_
    cases hb : bo r with
    | none => exact Nat.zero_le _
    | some b =>
      have hbg := hW.2.2 r b hr hb
      have := (lc_len (ga := ga) (gb := gb) (gc := gc) (J := J) hk b (by omega)).2
      show ln_ kd J b ≤ 561
      omega
theorem cd_at (hW : WF_ g kd ga gb gc hg bo) (hC : CL_ σ (lc_ kd ga gb gc J g)) {n : Nat} (hn : n < g) (hJ : J n = true) {k : Nat} {a : In_} (ha : (pe_ kd ga gb gc (ln_ kd J) n)[k]? = some a) : cdf_ σ (lc_ kd ga gb gc J g).length (ln_ kd J n + k) = a := by
  have hk : ∀ n, n < g → kd n ≤ 13 := fun n hn => (hW.2.1 n hn).1
  have hks : k < sz_ (kd n) := by
    have := (List.getElem?_eq_some_iff.mp ha).1
    rw [pe_len (hk n hn)] at this
    exact this
  have h1 := lc_at (ga := ga) (gb := gb) (gc := gc) hk hJ g hn (Nat.le_refl g) k hks
  rw [ha] at h1
  have hlt := (List.getElem?_eq_some_iff.mp h1).1
  obtain ⟨o, p, q⟩ := a
  obtain ⟨a1, a2, a3⟩ := hC.2 _ _ _ _ h1
  have hv := lc_iv (J := J) hW g (Nat.le_refl g) (o, p, q) (List.mem_of_getElem? h1)
  have ho : o ≤ 14 := hv.1
  unfold cdf_
  rw [if_pos hlt, a1, a2, a3, nI_clamp (by omega)]
theorem cd_0 (hC : CL_ σ (lc_ kd ga gb gc J g)) : (cdf_ σ (lc_ kd ga gb gc J g).length 0).1 = 0 := by
  have h0 : ∀ n, (lc_ kd ga gb gc J n)[0]? = some (0, 0, 0) := by
    intro n
    induction n with
    | zero => rfl
    | succ n ih =>
      show (lc_ kd ga gb gc J n ++ _)[0]? = _
      have hlt := (List.getElem?_eq_some_iff.mp ih).1
      rw [List.getElem?_append_left hlt]; exact ih
  have h1 := h0 g
  have hlt := (List.getElem?_eq_some_iff.mp h1).1
  obtain ⟨a1, -, -⟩ := hC.2 _ _ _ _ h1
  unfold cdf_
  rw [if_pos hlt, a1]
  rfl
theorem ay_no {P : Nat → Bool} : ∀ (j n : Nat), ay_ P n j = false → ∀ m, n ≤ m → m < n + j → P m = false := by
  intro j
  induction j with
  | zero => intro n _ m h1 h2; omega
  | succ j ih =>
    intro n h m h1 h2
    have h : (P n || ay_ P (n + 1) j) = false := h
    rw [Bool.or_eq_false_iff] at h
    by_cases e : m = n
    · rw [e]; exact h.1
    · exact ih (n + 1) h.2 m (by omega) (by omega)
theorem fa_0 (h : Fa_ g kd ga gb bo = 0) : ay_ (p1_ g kd ga gb bo) 0 g = false ∧ ay_ (p2_ g kd ga gb bo) 0 g = false := by
  unfold Fa_ at h
  cases q1 : ay_ (p1_ g kd ga gb bo) 0 g with
  | true => rw [q1, if_pos rfl] at h; exact absurd h (by decide)
  | false =>
    rw [q1, if_neg (by decide)] at h
    cases q2 : ay_ (p2_ g kd ga gb bo) 0 g with
    | true => rw [q2, if_pos rfl] at h; exact absurd h (by decide)
    | false => exact ⟨rfl, rfl⟩
end CODW
