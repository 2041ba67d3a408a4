/-! the code that is written: a list of instructions -/
section CODL
abbrev In_ : Type := Nat × Int32 × Int32
def CL_ (σ : MZ_) (l : List In_) : Prop := σ 32 0 = nI l.length ∧ ∀ (i : Nat) (o : Nat) (p q : Int32), l[i]? = some (o, p, q) → σ 15 i = nI o ∧ σ 16 i = p ∧ σ 17 i = q
def Cx_ (σ σ' : MZ_) : Prop := ∀ k, k ≠ 15 → k ≠ 16 → k ≠ 17 → k ≠ 32 → σ' k = σ k
theorem cx_t {a b c : MZ_} (h1 : Cx_ a b) (h2 : Cx_ b c) : Cx_ a c := fun k p q r s => (h2 k p q r s).trans (h1 k p q r s)
variable {σ : MZ_} {g : Nat} {kd : Nat → Nat} {ga gb gc : Nat → Int32} {hg : Nat → Nat} {bo : Nat → Option Nat} {l : List In_}
theorem cl_put (h : CL_ σ l) (hl : l.length < 561) (o : Nat) (p q : Int32) {x : Int32} (hx : x = nI o) : ∃ σ', f_C_put σ x p q = some σ' ∧ CL_ σ' (l ++ [(o, p, q)]) ∧ Cx_ σ σ' := by
  have hin : vp_in (σ 32 0) 561 := li_in h.1 hl (by omega)
  have hcl : (σ 32 0).toNatClampNeg = l.length := li_cl h.1 (by omega)
  unfold f_C_put
  rw [if_neg (show ¬ (561 : Int32) ≤ σ 32 0 from fun hh => by have := (li_ge 561 h.1 (by omega) (by omega)).mp hh; omega), gd_in hin, st_e]
  refine ⟨va_up (va_up (va_up (va_up σ 15 (upd (σ 15) l.length x)) 16 (upd (σ 16) l.length p)) 17 (upd (σ 17) l.length q)) 32 (fun _ => σ 32 0 + 1), ?_, ⟨?_, ?_⟩, ?_⟩
  · rw [hcl]
    show gd_ (σ 32 0) 561 _ = _
    rw [gd_in hin, st_e]
    show gd_ (σ 32 0) 561 _ = _
    rw [gd_in hin, st_e, st_e]
    show some (va_up (va_up (va_up (va_up σ 15 (upd (σ 15) l.length x)) 16 (upd (σ 16) (σ 32 0).toNatClampNeg p)) 17 (upd (σ 17) (σ 32 0).toNatClampNeg q)) 32 (fun _ => σ 32 0 + 1)) = _
    rw [hcl]
  · show σ 32 0 + 1 = _
    rw [List.length_append]
    exact li_p1 h.1
  · intro i o' p' q' hi
    show upd (σ 15) l.length x i = _ ∧ upd (σ 16) l.length p i = _ ∧ upd (σ 17) l.length q i = _
    by_cases e : i = l.length
    · subst e
      rw [List.getElem?_append_right (Nat.le_refl _), Nat.sub_self] at hi
      cases hi
      rw [pk_us, pk_us, pk_us]
      exact ⟨hx, rfl, rfl⟩
    · rw [pk_un e, pk_un e, pk_un e]
      have hlt : i < l.length := by
        have := (List.getElem?_eq_some_iff.mp hi).1
        rw [List.length_append] at this
        simp at this
        omega
      rw [List.getElem?_append_left hlt] at hi
      exact h.2 i o' p' q' hi
  · intro k a b c d
    rw [va_up_ne _ _ d, va_up_ne _ _ c, va_up_ne _ _ b, va_up_ne _ _ a]
/-- node n's piece, at its place -/
def pe_ (kd : Nat → Nat) (ga gb gc : Nat → Int32) (pc : Nat → Nat) (n : Nat) : List In_ :=
  if kd n = 0 then [(1, ga n, 0), (6, 0, 0)]
  else if kd n = 1 then [(2, ga n, ga n), (6, 0, 0)]
  else if kd n = 2 then [(2, ga n, gb n), (6, 0, 0)]
  else if kd n = 3 then [(3, 0, 0), (6, 0, 0)]
  else if kd n = 4 then [(4, nI (pc (ga n).toNatClampNeg), 0), (4, nI (pc (gb n).toNatClampNeg), 0), (7, gc n, 0), (6, 0, 0)]
  else if kd n = 5 then [(9, 2, nI (pc n + 4)), (4, nI (pc (ga n).toNatClampNeg), 0), (10, 0, 0), (6, 0, 0), (4, nI (pc (gb n).toNatClampNeg), 0), (6, 0, 0)]
  else if kd n = 6 then [(9, 3, 0), (4, nI (pc (ga n).toNatClampNeg), 0), (10, 0, 0), (6, 0, 0)]
  else if kd n = 7 then [(9, 4, 0), (4, nI (pc (ga n).toNatClampNeg), 0), (11, 0, 0), (6, 0, 0)]
  else if kd n = 8 then [(9, 5, nI (pc n + 4)), (4, nI (pc (ga n).toNatClampNeg), 0), (11, 0, 0), (3, 0, 0), (1, 0, 0), (6, 0, 0)]
  else if kd n = 9 then [(1, 0, 0), (9, 2, nI (pc n + 5)), (4, nI (pc (ga n).toNatClampNeg), 0), (7, gb n, 0), (12, nI (pc n + 2), 0), (6, 0, 0)]
  else if kd n = 10 then [(4, nI (pc (ga n).toNatClampNeg), 0), (9, 2, nI (pc n + 6)), (4, nI (pc (gb n).toNatClampNeg), 0), (4, nI (pc (ga n).toNatClampNeg), 0), (8, 0, 0), (12, nI (pc n + 2), 0), (6, 0, 0)]
  else if kd n = 11 then [(5, ga n, 0), (6, 0, 0)]
  else if kd n = 12 then [(4, nI (pc (ga n).toNatClampNeg), 0), (13, gb n, 0), (6, 0, 0)]
  else [(14, ga n, 0), (6, 0, 0)]
def sz_ (k : Nat) : Nat := [2, 2, 2, 2, 4, 6, 4, 4, 6, 6, 7, 2, 3].getD k 2
def ln_ (kd : Nat → Nat) (J : Nat → Bool) : Nat → Nat
  | 0 => 1
  | n + 1 => ln_ kd J n + (if J n then sz_ (kd n) else 0)
def lc_ (kd : Nat → Nat) (ga gb gc : Nat → Int32) (J : Nat → Bool) : Nat → List In_
  | 0 => [(0, 0, 0)]
  | n + 1 => lc_ kd ga gb gc J n ++ (if J n then pe_ kd ga gb gc (ln_ kd J) n else [])
theorem pe_len {pc : Nat → Nat} {n : Nat} (h : kd n ≤ 13) : (pe_ kd ga gb gc pc n).length = sz_ (kd n) := by
  unfold pe_
  by_cases k0 : kd n = 0
  · rw [if_pos k0, k0]; rfl
  rw [if_neg k0]
  by_cases k1 : kd n = 1
  · rw [if_pos k1, k1]; rfl
  rw [if_neg k1]
  by_cases k2 : kd n = 2
  · rw [if_pos k2, k2]; rfl
  rw [if_neg k2]
  by_cases k3 : kd n = 3
  · rw [if_pos k3, k3]; rfl
  rw [if_neg k3]
  by_cases k4 : kd n = 4
  · rw [if_pos k4, k4]; rfl
  rw [if_neg k4]
  by_cases k5 : kd n = 5
  · rw [if_pos k5, k5]; rfl
  rw [if_neg k5]
  by_cases k6 : kd n = 6
  · rw [if_pos k6, k6]; rfl
  rw [if_neg k6]
  by_cases k7 : kd n = 7
  · rw [if_pos k7, k7]; rfl
  rw [if_neg k7]
  by_cases k8 : kd n = 8
  · rw [if_pos k8, k8]; rfl
  rw [if_neg k8]
  by_cases k9 : kd n = 9
  · rw [if_pos k9, k9]; rfl
  rw [if_neg k9]
  by_cases k10 : kd n = 10
  · rw [if_pos k10, k10]; rfl
  rw [if_neg k10]
  by_cases k11 : kd n = 11
  · rw [if_pos k11, k11]; rfl
  rw [if_neg k11]
  by_cases k12 : kd n = 12
  · rw [if_pos k12, k12]; rfl
  rw [if_neg k12]
  have k13 : kd n = 13 := by omega
  rw [k13]; rfl
theorem sz_7 : ∀ k, k ≤ 13 → sz_ k ≤ 7 := by decide
theorem lc_len (hk : ∀ n, n < g → kd n ≤ 13) {J : Nat → Bool} : ∀ n, n ≤ g → (lc_ kd ga gb gc J n).length = ln_ kd J n ∧ ln_ kd J n ≤ 1 + 7 * n := by
  intro n
  induction n with
  | zero => intro _; exact ⟨rfl, Nat.le_refl _⟩
  | succ n ih =>
    intro hn
    obtain ⟨h1, h2⟩ := ih (by omega)
    show (lc_ kd ga gb gc J n ++ (if J n then pe_ kd ga gb gc (ln_ kd J) n else [])).length = ln_ kd J n + (if J n then sz_ (kd n) else 0) ∧ ln_ kd J n + (if J n then sz_ (kd n) else 0) ≤ _
    have h7 := sz_7 (kd n) (hk n (by omega))
    rw [List.length_append, h1]
    cases J n with
    | true => exact ⟨by simp [pe_len (hk n (by omega))], by simp; omega⟩
    | false => exact ⟨by simp, by simp; omega⟩
theorem lc_at (hk : ∀ n, n < g → kd n ≤ 13) {J : Nat → Bool} {n : Nat} (hJ : J n = true) : ∀ m, n < m → m ≤ g → ∀ k, k < sz_ (kd n) → (lc_ kd ga gb gc J m)[ln_ kd J n + k]? = (pe_ kd ga gb gc (ln_ kd J) n)[k]? := by
  intro m
  induction m with
  | zero => intro h; omega
  | succ m ih =>
    intro h1 h2 k hk2
    obtain ⟨e1, -⟩ := lc_len (ga := ga) (gb := gb) (gc := gc) hk (J := J) m (by omega)
    show (lc_ kd ga gb gc J m ++ (if J m then pe_ kd ga gb gc (ln_ kd J) m else []))[_]? = _
    by_cases e : n = m
    · subst e
      rw [List.getElem?_append_right (by omega), e1, hJ, Nat.add_sub_cancel_left]
      rfl
    · have := ih (by omega) (by omega) k hk2
      rw [List.getElem?_append_left, this]
      have hs : k < (pe_ kd ga gb gc (ln_ kd J) n).length := by rw [pe_len (hk n (by omega))]; exact hk2
      rw [List.getElem?_eq_getElem hs] at this
      exact (List.getElem?_eq_some_iff.mp this).1
/-! the methods that write -/
def PW_ (σ : MZ_) (pc : Nat → Nat) (n : Nat) : Prop := ∀ m, m < n → σ 18 m = nI (pc m)
theorem pw_x {σ' : MZ_} {pc : Nat → Nat} {n : Nat} (h : PW_ σ pc n) (hx : Cx_ σ σ') : PW_ σ' pc n := fun m hm => by rw [hx 18 (by omega) (by omega) (by omega) (by omega)]; exact h m hm
theorem cl_call {pc : Nat → Nat} {n x : Nat} (h : CL_ σ l) (hl : l.length < 561) (hP : PW_ σ pc n) (hx : x < n) (hn : n ≤ 80) : ∃ σ', f_C_putCall σ (nI x) = some σ' ∧ CL_ σ' (l ++ [(4, nI (pc x), 0)]) ∧ Cx_ σ σ' := by
  have e : f_C_piece σ (nI x) = some (nI (pc x)) := by
    unfold f_C_piece
    rw [if_neg (nI_pos (by omega)), if_neg (show ¬ (80 : Int32) ≤ nI x from fun hh => by have := (le_c (N := 80) (by omega) (by omega)).mp hh; omega), gd_in (vp_in_nI (by omega) (by omega)), nI_clamp (by omega), hP x hx]
  unfold f_C_putCall
  rw [bd_s e]
  obtain ⟨s1, p1, c1, x1⟩ := cl_put h hl 4 (nI (pc x)) 0 (x := 4) rfl
  exact ⟨s1, by rw [bd_s p1], c1, x1⟩
theorem wr_piece {pc : Nat → Nat} {n : Nat} (hW : WF_ g kd ga gb gc hg bo) (hn : n < g) (h : CL_ σ l) (hl : l.length + 6 < 561) (hpc : pc n = l.length) (hP : PW_ σ pc n) : ∃ σ', ((f_C_writePiece σ (nI (kd n)) (ga n) (gb n) (gc n)).bind fun u8 => f_C_put u8 6 0 0) = some σ' ∧ CL_ σ' (l ++ pe_ kd ga gb gc pc n) ∧ Cx_ σ σ' := by
  have hg80 := hW.1
  obtain ⟨g1, -, -, g4, g5, -⟩ := hW.2.1 n hn
  have fin : ∀ (s : MZ_) (L M : List In_), CL_ s L → L.length < 561 → M = L ++ [(6, 0, 0)] → Cx_ σ s → ∃ σ', f_C_put s 6 0 0 = some σ' ∧ CL_ σ' M ∧ Cx_ σ σ' := by
    intro s L M hc hL hM hx
    obtain ⟨s1, p1, c1, x1⟩ := cl_put hc hL 6 0 0 (x := 6) rfl
    exact ⟨s1, p1, hM ▸ c1, cx_t hx x1⟩
  unfold f_C_writePiece pe_
  by_cases k0 : kd n = 0
  · simp only [k0]
    rw [if_pos (show nI 0 = (0 : Int32) from rfl)]
    obtain ⟨s1, p1, c1, x1⟩ := cl_put h (by omega) 1 (ga n) (0) (x := 1) rfl
    have z1 := x1
    rw [bd_s p1]
    refine fin s1 _ _ c1 (by simp only [List.length_append, List.length_cons, List.length_nil]; omega) ?_ z1
    simp
  by_cases k1 : kd n = 1
  · simp only [k1]
    rw [if_neg (show ¬ nI 1 = (0 : Int32) by decide), if_pos (show nI 1 = (1 : Int32) from rfl)]
    obtain ⟨s1, p1, c1, x1⟩ := cl_put h (by omega) 2 (ga n) (ga n) (x := 2) rfl
    have z1 := x1
    rw [bd_s p1]
    refine fin s1 _ _ c1 (by simp only [List.length_append, List.length_cons, List.length_nil]; omega) ?_ z1
    simp
  by_cases k2 : kd n = 2
  · simp only [k2]
    rw [if_neg (show ¬ nI 2 = (0 : Int32) by decide), if_neg (show ¬ nI 2 = (1 : Int32) by decide), if_pos (show nI 2 = (2 : Int32) from rfl)]
    obtain ⟨s1, p1, c1, x1⟩ := cl_put h (by omega) 2 (ga n) (gb n) (x := 2) rfl
    have z1 := x1
    rw [bd_s p1]
    refine fin s1 _ _ c1 (by simp only [List.length_append, List.length_cons, List.length_nil]; omega) ?_ z1
    simp
  by_cases k3 : kd n = 3
  · simp only [k3]
    rw [if_neg (show ¬ nI 3 = (0 : Int32) by decide), if_neg (show ¬ nI 3 = (1 : Int32) by decide), if_neg (show ¬ nI 3 = (2 : Int32) by decide), if_pos (show nI 3 = (3 : Int32) from rfl)]
    obtain ⟨s1, p1, c1, x1⟩ := cl_put h (by omega) 3 (0) (0) (x := 3) rfl
    have z1 := x1
    rw [bd_s p1]
    refine fin s1 _ _ c1 (by simp only [List.length_append, List.length_cons, List.length_nil]; omega) ?_ z1
    simp
  by_cases k4 : kd n = 4
  · simp only [k4]
    rw [if_neg (show ¬ nI 4 = (0 : Int32) by decide), if_neg (show ¬ nI 4 = (1 : Int32) by decide), if_neg (show ¬ nI 4 = (2 : Int32) by decide), if_neg (show ¬ nI 4 = (3 : Int32) by decide), if_pos (show nI 4 = (4 : Int32) from rfl)]
    obtain ⟨x, hx, ex, -⟩ := g4 (by omega)
    obtain ⟨y, hy, ey, -⟩ := g5 (by omega)
    rw [ex, nI_clamp (show x < 2 ^ 31 by omega), ey, nI_clamp (show y < 2 ^ 31 by omega)]
    obtain ⟨s1, p1, c1, x1⟩ := cl_call h (by omega) hP hx (by omega)
    have z1 := x1
    obtain ⟨s2, p2, c2, x2⟩ := cl_call c1 (by simp only [List.length_append, List.length_cons, List.length_nil]; omega) (pw_x hP z1) hy (by omega)
    have z2 := cx_t z1 x2
    obtain ⟨s3, p3, c3, x3⟩ := cl_put c2 (by simp only [List.length_append, List.length_cons, List.length_nil]; omega) 7 (gc n) (0) (x := 7) rfl
    have z3 := cx_t z2 x3
    rw [bd_s p1, bd_s p2, bd_s p3]
    refine fin s3 _ _ c3 (by simp only [List.length_append, List.length_cons, List.length_nil]; omega) ?_ z3
    simp
  by_cases k5 : kd n = 5
  · simp only [k5]
    rw [if_neg (show ¬ nI 5 = (0 : Int32) by decide), if_neg (show ¬ nI 5 = (1 : Int32) by decide), if_neg (show ¬ nI 5 = (2 : Int32) by decide), if_neg (show ¬ nI 5 = (3 : Int32) by decide), if_neg (show ¬ nI 5 = (4 : Int32) by decide), if_pos (show nI 5 = (5 : Int32) from rfl)]
    obtain ⟨x, hx, ex, -⟩ := g4 (by omega)
    obtain ⟨y, hy, ey, -⟩ := g5 (by omega)
    rw [ex, nI_clamp (show x < 2 ^ 31 by omega), ey, nI_clamp (show y < 2 ^ 31 by omega)]
    obtain ⟨s1, p1, c1, x1⟩ := cl_put h (by omega) 9 (2) (σ 32 0 + 4) (x := 9) rfl
    have z1 := x1
    obtain ⟨s2, p2, c2, x2⟩ := cl_call c1 (by simp only [List.length_append, List.length_cons, List.length_nil]; omega) (pw_x hP z1) hx (by omega)
    have z2 := cx_t z1 x2
    obtain ⟨s3, p3, c3, x3⟩ := cl_put c2 (by simp only [List.length_append, List.length_cons, List.length_nil]; omega) 10 (0) (0) (x := 10) rfl
    have z3 := cx_t z2 x3
    obtain ⟨s4, p4, c4, x4⟩ := cl_put c3 (by simp only [List.length_append, List.length_cons, List.length_nil]; omega) 6 (0) (0) (x := 6) rfl
    have z4 := cx_t z3 x4
    obtain ⟨s5, p5, c5, x5⟩ := cl_call c4 (by simp only [List.length_append, List.length_cons, List.length_nil]; omega) (pw_x hP z4) hy (by omega)
    have z5 := cx_t z4 x5
    unfold f_C_writeOr
    rw [bd_s p1, bd_s p2, bd_s p3, bd_s p4, bd_s p5]
    have ez : σ 32 0 + 4 = nI (pc n + 4) := by rw [h.1, hpc]; show nI _ + nI 4 = _; first | (rw [nI_add]; done) | (rw [nI_add]; congr 1; simp)
    refine fin s5 _ _ c5 (by simp only [List.length_append, List.length_cons, List.length_nil]; omega) ?_ z5
    simp [ez]
  by_cases k6 : kd n = 6
  · simp only [k6]
    rw [if_neg (show ¬ nI 6 = (0 : Int32) by decide), if_neg (show ¬ nI 6 = (1 : Int32) by decide), if_neg (show ¬ nI 6 = (2 : Int32) by decide), if_neg (show ¬ nI 6 = (3 : Int32) by decide), if_neg (show ¬ nI 6 = (4 : Int32) by decide), if_neg (show ¬ nI 6 = (5 : Int32) by decide), if_pos (show nI 6 = (6 : Int32) from rfl)]
    obtain ⟨x, hx, ex, -⟩ := g4 (by omega)
    rw [ex, nI_clamp (show x < 2 ^ 31 by omega)]
    obtain ⟨s1, p1, c1, x1⟩ := cl_put h (by omega) 9 (3) (0) (x := 9) rfl
    have z1 := x1
    obtain ⟨s2, p2, c2, x2⟩ := cl_call c1 (by simp only [List.length_append, List.length_cons, List.length_nil]; omega) (pw_x hP z1) hx (by omega)
    have z2 := cx_t z1 x2
    obtain ⟨s3, p3, c3, x3⟩ := cl_put c2 (by simp only [List.length_append, List.length_cons, List.length_nil]; omega) 10 (0) (0) (x := 10) rfl
    have z3 := cx_t z2 x3
    rw [bd_s p1, bd_s p2, bd_s p3]
    refine fin s3 _ _ c3 (by simp only [List.length_append, List.length_cons, List.length_nil]; omega) ?_ z3
    simp
  by_cases k7 : kd n = 7
  · simp only [k7]
    rw [if_neg (show ¬ nI 7 = (0 : Int32) by decide), if_neg (show ¬ nI 7 = (1 : Int32) by decide), if_neg (show ¬ nI 7 = (2 : Int32) by decide), if_neg (show ¬ nI 7 = (3 : Int32) by decide), if_neg (show ¬ nI 7 = (4 : Int32) by decide), if_neg (show ¬ nI 7 = (5 : Int32) by decide), if_neg (show ¬ nI 7 = (6 : Int32) by decide), if_pos (show nI 7 = (7 : Int32) from rfl)]
    obtain ⟨x, hx, ex, -⟩ := g4 (by omega)
    rw [ex, nI_clamp (show x < 2 ^ 31 by omega)]
    obtain ⟨s1, p1, c1, x1⟩ := cl_put h (by omega) 9 (4) (0) (x := 9) rfl
    have z1 := x1
    obtain ⟨s2, p2, c2, x2⟩ := cl_call c1 (by simp only [List.length_append, List.length_cons, List.length_nil]; omega) (pw_x hP z1) hx (by omega)
    have z2 := cx_t z1 x2
    obtain ⟨s3, p3, c3, x3⟩ := cl_put c2 (by simp only [List.length_append, List.length_cons, List.length_nil]; omega) 11 (0) (0) (x := 11) rfl
    have z3 := cx_t z2 x3
    rw [bd_s p1, bd_s p2, bd_s p3]
    refine fin s3 _ _ c3 (by simp only [List.length_append, List.length_cons, List.length_nil]; omega) ?_ z3
    simp
  by_cases k8 : kd n = 8
  · simp only [k8]
    rw [if_neg (show ¬ nI 8 = (0 : Int32) by decide), if_neg (show ¬ nI 8 = (1 : Int32) by decide), if_neg (show ¬ nI 8 = (2 : Int32) by decide), if_neg (show ¬ nI 8 = (3 : Int32) by decide), if_neg (show ¬ nI 8 = (4 : Int32) by decide), if_neg (show ¬ nI 8 = (5 : Int32) by decide), if_neg (show ¬ nI 8 = (6 : Int32) by decide), if_neg (show ¬ nI 8 = (7 : Int32) by decide), if_pos (show nI 8 = (8 : Int32) from rfl)]
    obtain ⟨x, hx, ex, -⟩ := g4 (by omega)
    rw [ex, nI_clamp (show x < 2 ^ 31 by omega)]
    obtain ⟨s1, p1, c1, x1⟩ := cl_put h (by omega) 9 (5) (σ 32 0 + 4) (x := 9) rfl
    have z1 := x1
    obtain ⟨s2, p2, c2, x2⟩ := cl_call c1 (by simp only [List.length_append, List.length_cons, List.length_nil]; omega) (pw_x hP z1) hx (by omega)
    have z2 := cx_t z1 x2
    obtain ⟨s3, p3, c3, x3⟩ := cl_put c2 (by simp only [List.length_append, List.length_cons, List.length_nil]; omega) 11 (0) (0) (x := 11) rfl
    have z3 := cx_t z2 x3
    obtain ⟨s4, p4, c4, x4⟩ := cl_put c3 (by simp only [List.length_append, List.length_cons, List.length_nil]; omega) 3 (0) (0) (x := 3) rfl
    have z4 := cx_t z3 x4
    obtain ⟨s5, p5, c5, x5⟩ := cl_put c4 (by simp only [List.length_append, List.length_cons, List.length_nil]; omega) 1 (0) (0) (x := 1) rfl
    have z5 := cx_t z4 x5
    unfold f_C_writeNot
    rw [bd_s p1, bd_s p2, bd_s p3, bd_s p4, bd_s p5]
    have ez : σ 32 0 + 4 = nI (pc n + 4) := by rw [h.1, hpc]; show nI _ + nI 4 = _; first | (rw [nI_add]; done) | (rw [nI_add]; congr 1; simp)
    refine fin s5 _ _ c5 (by simp only [List.length_append, List.length_cons, List.length_nil]; omega) ?_ z5
    simp [ez]
  by_cases k9 : kd n = 9
  · simp only [k9]
    rw [if_neg (show ¬ nI 9 = (0 : Int32) by decide), if_neg (show ¬ nI 9 = (1 : Int32) by decide), if_neg (show ¬ nI 9 = (2 : Int32) by decide), if_neg (show ¬ nI 9 = (3 : Int32) by decide), if_neg (show ¬ nI 9 = (4 : Int32) by decide), if_neg (show ¬ nI 9 = (5 : Int32) by decide), if_neg (show ¬ nI 9 = (6 : Int32) by decide), if_neg (show ¬ nI 9 = (7 : Int32) by decide), if_neg (show ¬ nI 9 = (8 : Int32) by decide), if_pos (show nI 9 = (9 : Int32) from rfl)]
    obtain ⟨x, hx, ex, -⟩ := g4 (by omega)
    rw [ex, nI_clamp (show x < 2 ^ 31 by omega)]
    obtain ⟨s1, p1, c1, x1⟩ := cl_put h (by omega) 1 (0) (0) (x := 1) rfl
    have z1 := x1
    obtain ⟨s2, p2, c2, x2⟩ := cl_put c1 (by simp only [List.length_append, List.length_cons, List.length_nil]; omega) 9 (2) (s1 32 0 + 4) (x := 9) rfl
    have z2 := cx_t z1 x2
    obtain ⟨s3, p3, c3, x3⟩ := cl_call c2 (by simp only [List.length_append, List.length_cons, List.length_nil]; omega) (pw_x hP z2) hx (by omega)
    have z3 := cx_t z2 x3
    obtain ⟨s4, p4, c4, x4⟩ := cl_put c3 (by simp only [List.length_append, List.length_cons, List.length_nil]; omega) 7 (gb n) (0) (x := 7) rfl
    have z4 := cx_t z3 x4
    obtain ⟨s5, p5, c5, x5⟩ := cl_put c4 (by simp only [List.length_append, List.length_cons, List.length_nil]; omega) 12 (s2 32 0) (0) (x := 12) rfl
    have z5 := cx_t z4 x5
    unfold f_C_writeMany
    rw [bd_s p1, bd_s p2, bd_s p3, bd_s p4, bd_s p5]
    have ez : s1 32 0 + 4 = nI (pc n + 5) := by rw [c1.1, hpc]; show nI _ + nI 4 = _; first | (rw [nI_add]; done) | (rw [nI_add]; congr 1; simp)
    have et : s2 32 0 = nI (pc n + 2) := by rw [c2.1, hpc]; congr 1 <;> simp
    refine fin s5 _ _ c5 (by simp only [List.length_append, List.length_cons, List.length_nil]; omega) ?_ z5
    simp [ez, et]
  by_cases k10 : kd n = 10
  · simp only [k10]
    rw [if_neg (show ¬ nI 10 = (0 : Int32) by decide), if_neg (show ¬ nI 10 = (1 : Int32) by decide), if_neg (show ¬ nI 10 = (2 : Int32) by decide), if_neg (show ¬ nI 10 = (3 : Int32) by decide), if_neg (show ¬ nI 10 = (4 : Int32) by decide), if_neg (show ¬ nI 10 = (5 : Int32) by decide), if_neg (show ¬ nI 10 = (6 : Int32) by decide), if_neg (show ¬ nI 10 = (7 : Int32) by decide), if_neg (show ¬ nI 10 = (8 : Int32) by decide), if_neg (show ¬ nI 10 = (9 : Int32) by decide), if_pos (show nI 10 = (10 : Int32) from rfl)]
    obtain ⟨x, hx, ex, -⟩ := g4 (by omega)
    obtain ⟨y, hy, ey, -⟩ := g5 (by omega)
    rw [ex, nI_clamp (show x < 2 ^ 31 by omega), ey, nI_clamp (show y < 2 ^ 31 by omega)]
    obtain ⟨s1, p1, c1, x1⟩ := cl_call h (by omega) hP hx (by omega)
    have z1 := x1
    obtain ⟨s2, p2, c2, x2⟩ := cl_put c1 (by simp only [List.length_append, List.length_cons, List.length_nil]; omega) 9 (2) (s1 32 0 + 5) (x := 9) rfl
    have z2 := cx_t z1 x2
    obtain ⟨s3, p3, c3, x3⟩ := cl_call c2 (by simp only [List.length_append, List.length_cons, List.length_nil]; omega) (pw_x hP z2) hy (by omega)
    have z3 := cx_t z2 x3
    obtain ⟨s4, p4, c4, x4⟩ := cl_call c3 (by simp only [List.length_append, List.length_cons, List.length_nil]; omega) (pw_x hP z3) hx (by omega)
    have z4 := cx_t z3 x4
    obtain ⟨s5, p5, c5, x5⟩ := cl_put c4 (by simp only [List.length_append, List.length_cons, List.length_nil]; omega) 8 (0) (0) (x := 8) rfl
    have z5 := cx_t z4 x5
    obtain ⟨s6, p6, c6, x6⟩ := cl_put c5 (by simp only [List.length_append, List.length_cons, List.length_nil]; omega) 12 (s2 32 0) (0) (x := 12) rfl
    have z6 := cx_t z5 x6
    unfold f_C_writeChain
    rw [bd_s p1, bd_s p2, bd_s p3, bd_s p4, bd_s p5, bd_s p6]
    have ez : s1 32 0 + 5 = nI (pc n + 6) := by rw [c1.1, hpc]; show nI _ + nI 5 = _; first | (rw [nI_add]; done) | (rw [nI_add]; congr 1; simp)
    have et : s2 32 0 = nI (pc n + 2) := by rw [c2.1, hpc]; congr 1 <;> simp
    refine fin s6 _ _ c6 (by simp only [List.length_append, List.length_cons, List.length_nil]; omega) ?_ z6
    simp [ez, et]
  by_cases k11 : kd n = 11
  · simp only [k11]
    rw [if_neg (show ¬ nI 11 = (0 : Int32) by decide), if_neg (show ¬ nI 11 = (1 : Int32) by decide), if_neg (show ¬ nI 11 = (2 : Int32) by decide), if_neg (show ¬ nI 11 = (3 : Int32) by decide), if_neg (show ¬ nI 11 = (4 : Int32) by decide), if_neg (show ¬ nI 11 = (5 : Int32) by decide), if_neg (show ¬ nI 11 = (6 : Int32) by decide), if_neg (show ¬ nI 11 = (7 : Int32) by decide), if_neg (show ¬ nI 11 = (8 : Int32) by decide), if_neg (show ¬ nI 11 = (9 : Int32) by decide), if_neg (show ¬ nI 11 = (10 : Int32) by decide), if_pos (show nI 11 = (11 : Int32) from rfl)]
    obtain ⟨s1, p1, c1, x1⟩ := cl_put h (by omega) 5 (ga n) (0) (x := 5) rfl
    have z1 := x1
    rw [bd_s p1]
    refine fin s1 _ _ c1 (by simp only [List.length_append, List.length_cons, List.length_nil]; omega) ?_ z1
    simp
  by_cases k12 : kd n = 12
  · simp only [k12]
    rw [if_neg (show ¬ nI 12 = (0 : Int32) by decide), if_neg (show ¬ nI 12 = (1 : Int32) by decide), if_neg (show ¬ nI 12 = (2 : Int32) by decide), if_neg (show ¬ nI 12 = (3 : Int32) by decide), if_neg (show ¬ nI 12 = (4 : Int32) by decide), if_neg (show ¬ nI 12 = (5 : Int32) by decide), if_neg (show ¬ nI 12 = (6 : Int32) by decide), if_neg (show ¬ nI 12 = (7 : Int32) by decide), if_neg (show ¬ nI 12 = (8 : Int32) by decide), if_neg (show ¬ nI 12 = (9 : Int32) by decide), if_neg (show ¬ nI 12 = (10 : Int32) by decide), if_neg (show ¬ nI 12 = (11 : Int32) by decide), if_pos (show nI 12 = (12 : Int32) from rfl)]
    obtain ⟨x, hx, ex, -⟩ := g4 (by omega)
    rw [ex, nI_clamp (show x < 2 ^ 31 by omega)]
    obtain ⟨s1, p1, c1, x1⟩ := cl_call h (by omega) hP hx (by omega)
    have z1 := x1
    obtain ⟨s2, p2, c2, x2⟩ := cl_put c1 (by simp only [List.length_append, List.length_cons, List.length_nil]; omega) 13 (gb n) (0) (x := 13) rfl
    have z2 := cx_t z1 x2
    rw [bd_s p1, bd_s p2]
    refine fin s2 _ _ c2 (by simp only [List.length_append, List.length_cons, List.length_nil]; omega) ?_ z2
    simp
  by_cases k13 : kd n = 13
  · simp only [k13]
    rw [if_neg (show ¬ nI 13 = (0 : Int32) by decide), if_neg (show ¬ nI 13 = (1 : Int32) by decide), if_neg (show ¬ nI 13 = (2 : Int32) by decide), if_neg (show ¬ nI 13 = (3 : Int32) by decide), if_neg (show ¬ nI 13 = (4 : Int32) by decide), if_neg (show ¬ nI 13 = (5 : Int32) by decide), if_neg (show ¬ nI 13 = (6 : Int32) by decide), if_neg (show ¬ nI 13 = (7 : Int32) by decide), if_neg (show ¬ nI 13 = (8 : Int32) by decide), if_neg (show ¬ nI 13 = (9 : Int32) by decide), if_neg (show ¬ nI 13 = (10 : Int32) by decide), if_neg (show ¬ nI 13 = (11 : Int32) by decide), if_neg (show ¬ nI 13 = (12 : Int32) by decide), if_pos (show nI 13 = (13 : Int32) from rfl)]
    obtain ⟨s1, p1, c1, x1⟩ := cl_put h (by omega) 14 (ga n) (0) (x := 14) rfl
    have z1 := x1
    rw [bd_s p1]
    refine fin s1 _ _ c1 (by simp only [List.length_append, List.length_cons, List.length_nil]; omega) ?_ z1
    simp
  omega
end CODL
