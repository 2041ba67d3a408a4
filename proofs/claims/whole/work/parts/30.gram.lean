/-! the grammar, as each of the two systems keeps it; what is said of a node by its parts -/
section GRAM
def bI (b : Bool) : Int32 := if b then 1 else 0
theorem bI_b (b : Bool) : bI b = 0 ∨ bI b = 1 := by cases b <;> simp [bI]
theorem bI_n (b : Bool) : vp_nar .boolean (bI b) = bI b := by cases b <;> rfl
theorem bI_o {α : Type} (b : Bool) (k : Option α) : bo_ (bI b) k = k := if_pos (bI_b b)
/-- a grammar: how many nodes, their kinds, their three numbers, their heights; the bodies -/
def WF_ (g : Nat) (kd : Nat → Nat) (ga gb gc : Nat → Int32) (hg : Nat → Nat) (bo : Nat → Option Nat) : Prop := g ≤ 80 ∧ (∀ n, n < g → kd n ≤ 13 ∧ (1 ≤ hg n ∧ hg n ≤ 8) ∧ ((kd n = 1 ∨ kd n = 2) → 0 ≤ ga n) ∧ ((4 ≤ kd n ∧ kd n ≤ 10) ∨ kd n = 12 → ∃ x, x < n ∧ ga n = nI x ∧ hg x + 1 ≤ hg n) ∧ (kd n = 4 ∨ kd n = 5 ∨ kd n = 10 → ∃ y, y < n ∧ gb n = nI y ∧ hg y + 1 ≤ hg n) ∧ (kd n = 4 → ∃ w, w ≤ 7 ∧ gc n = nI w) ∧ (kd n = 9 → ∃ w, w ≤ 7 ∧ gb n = nI w) ∧ (kd n = 11 → ∃ r, r < 6 ∧ ga n = nI r) ∧ (kd n = 12 → ∃ r, r < 4 ∧ gb n = nI r) ∧ (kd n = 13 → ∃ r, r < 4 ∧ ga n = nI r)) ∧ ∀ r b, r < 6 → bo r = some b → b < g
def XG_ (σ : MZ_) (g : Nat) (kd : Nat → Nat) (ga gb gc : Nat → Int32) (hg : Nat → Nat) (bo : Nat → Option Nat) : Prop := σ 31 0 = nI g ∧ (∀ n, n < g → σ 2 n = nI (kd n) ∧ σ 3 n = ga n ∧ σ 4 n = gb n ∧ σ 5 n = gc n ∧ σ 6 n = nI (hg n)) ∧ (∀ r b, r < 6 → bo r = some b → σ 7 r = nI b) ∧ ∀ r, r < 6 → bo r = none → σ 7 r = -1
def RG_ (σ : MZ_) (g : Nat) (kd : Nat → Nat) (ga gb gc : Nat → Int32) (hg : Nat → Nat) (bo : Nat → Option Nat) : Prop := σ 31 0 = nI g ∧ (∀ n, n < g → σ 1 n = nI (kd n) ∧ σ 2 n = ga n ∧ σ 3 n = gb n ∧ σ 4 n = gc n ∧ σ 5 n = nI (hg n)) ∧ (∀ r b, r < 6 → bo r = some b → σ 6 r = nI (b + 1)) ∧ ∀ r, r < 6 → bo r = none → σ 6 r = 0
def MK_ (f : Nat → Int32) (g : Nat) (S : Nat → Bool) : Prop := ∀ n, n < g → f n = bI (S n)
def sb_ (bo : Nat → Option Nat) (S : Nat → Bool) (r : Nat) : Bool := match bo r with | some b => S b | none => false
def fE_ (kd : Nat → Nat) (ga gb : Nat → Int32) (bo : Nat → Option Nat) (S : Nat → Bool) (n : Nat) : Bool :=
  if kd n = 0 then true else if kd n = 4 then S (ga n).toNatClampNeg && S (gb n).toNatClampNeg else if kd n = 5 then S (ga n).toNatClampNeg || S (gb n).toNatClampNeg
  else if kd n = 7 ∨ kd n = 8 ∨ kd n = 9 ∨ kd n = 13 then true else if kd n = 6 ∨ kd n = 10 ∨ kd n = 12 then S (ga n).toNatClampNeg else if kd n = 11 then sb_ bo S (ga n).toNatClampNeg else false
def fB_ (kd : Nat → Nat) (ga gb : Nat → Int32) (bo : Nat → Option Nat) (E : Nat → Bool) (c : Int32) (S : Nat → Bool) (n : Nat) : Bool :=
  if kd n = 1 then decide (c = ga n) else if kd n = 2 then decide (ga n ≤ c ∧ c ≤ gb n) else if kd n = 4 ∨ kd n = 10 then S (ga n).toNatClampNeg || (E (ga n).toNatClampNeg && S (gb n).toNatClampNeg)
  else if kd n = 5 then S (ga n).toNatClampNeg || S (gb n).toNatClampNeg else if kd n = 6 ∨ kd n = 9 ∨ kd n = 12 then S (ga n).toNatClampNeg else if kd n = 11 then sb_ bo S (ga n).toNatClampNeg else false
def fL_ (kd : Nat → Nat) (ga gb : Nat → Int32) (E : Nat → Bool) (L : Nat → Int32) (n : Nat) : Int32 :=
  if kd n = 4 ∨ kd n = 10 then (if E (ga n).toNatClampNeg then L (ga n).toNatClampNeg ||| L (gb n).toNatClampNeg else L (ga n).toNatClampNeg) else if kd n = 5 then L (ga n).toNatClampNeg ||| L (gb n).toNatClampNeg
  else if kd n = 6 ∨ kd n = 7 ∨ kd n = 8 ∨ kd n = 9 ∨ kd n = 12 then L (ga n).toNatClampNeg else if kd n = 11 then 1 <<< (ga n &&& 31) else 0
variable {σ : MZ_} {g : Nat} {kd : Nat → Nat} {ga gb gc : Nat → Int32} {hg : Nat → Nat} {bo : Nat → Option Nat}
/-! the class's side: its small methods -/
theorem xg_node (hX : XG_ σ g kd ga gb gc hg bo) (hg80 : g ≤ 80) {n : Nat} (hn : n < g) : f_G_isNode σ (nI n) = some 1 := by
  unfold f_G_isNode
  rw [if_neg (nI_pos (by omega)), if_neg (show ¬ σ 31 0 ≤ nI n from fun hh => by have := (li_le n hX.1 (by omega) (by omega)).mp hh; omega)]
theorem xg_no (x : Int32) (h : x < 0) : f_G_isNode σ x = some 0 := by
  unfold f_G_isNode
  rw [if_pos h]
theorem xg_a (hX : XG_ σ g kd ga gb gc hg bo) (hg80 : g ≤ 80) {n : Nat} (hn : n < g) : f_G_a σ (nI n) = some (ga n) ∧ f_G_b σ (nI n) = some (gb n) ∧ f_G_c σ (nI n) = some (gc n) ∧ f_G_kind σ (nI n) = some (nI (kd n)) := by
  have h1 := xg_node hX hg80 hn
  have hin : vp_in (nI n) 80 := vp_in_nI (by omega) (by omega)
  have hcl : (nI n).toNatClampNeg = n := nI_clamp (by omega)
  obtain ⟨e2, e3, e4, e5, -⟩ := hX.2.1 n hn
  have h10 : ¬ (1 : Int32) = 0 := by decide
  refine ⟨?_, ?_, ?_, ?_⟩
  · unfold f_G_a; rw [bd_s h1, if_neg h10, gd_in hin, hcl, e3]
  · unfold f_G_b; rw [bd_s h1, if_neg h10, gd_in hin, hcl, e4]
  · unfold f_G_c; rw [bd_s h1, if_neg h10, gd_in hin, hcl, e5]
  · unfold f_G_kind; rw [bd_s h1, if_neg h10, gd_in hin, hcl, e2]
theorem xg_rule {r : Nat} (hr : r < 6) : f_G_isRule (nI r) = some 1 := by
  unfold f_G_isRule
  rw [if_neg (nI_pos (by omega)), if_neg (show ¬ (6 : Int32) ≤ nI r from fun hh => by have := (li_ge 6 rfl (by omega) (by omega)).mp hh; omega)]
theorem xg_body (hX : XG_ σ g kd ga gb gc hg bo) {r : Nat} (hr : r < 6) : f_G_body σ (nI r) = some (match bo r with | some b => nI b | none => -1) := by
  unfold f_G_body
  rw [bd_s (xg_rule hr), if_neg (by decide), gd_in (vp_in_nI hr (by omega)), nI_clamp (by omega)]
  cases hb : bo r with
  | none => rw [hX.2.2.2 r hr hb]
  | some b => rw [hX.2.2.1 r b hr hb]
theorem xm_9 {S : Nat → Bool} (hX : XG_ σ g kd ga gb gc hg bo) (hg80 : g ≤ 80) (hM : MK_ (σ 9) g S) {n : Nat} (hn : n < g) : f_Y_marked_9 σ (nI n) = some (bI (S n)) := by
  unfold f_Y_marked_9
  rw [bd_s (xg_node hX hg80 hn), if_neg (by decide), gd_in (vp_in_nI (by omega) (by omega)), nI_clamp (by omega), hM n hn]
  cases S n <;> simp [bI]
theorem xm_9n : f_Y_marked_9 σ (-1) = some 0 := by
  unfold f_Y_marked_9
  rw [bd_s (xg_no (-1) (by decide)), if_pos rfl]
theorem xm_9b {S : Nat → Bool} (hX : XG_ σ g kd ga gb gc hg bo) (hW : WF_ g kd ga gb gc hg bo) (hM : MK_ (σ 9) g S) {r : Nat} (hr : r < 6) : f_Y_marked_9 σ (match bo r with | some b => nI b | none => -1) = some (bI (sb_ bo S r)) := by
  unfold sb_
  cases hb : bo r with
  | none => exact xm_9n
  | some b => exact xm_9 hX hW.1 hM (hW.2.2 r b hr hb)
theorem xm_10 {S : Nat → Bool} (hX : XG_ σ g kd ga gb gc hg bo) (hg80 : g ≤ 80) (hM : MK_ (σ 10) g S) {n : Nat} (hn : n < g) : f_Y_marked_10 σ (nI n) = some (bI (S n)) := by
  unfold f_Y_marked_10
  rw [bd_s (xg_node hX hg80 hn), if_neg (by decide), gd_in (vp_in_nI (by omega) (by omega)), nI_clamp (by omega), hM n hn]
  cases S n <;> simp [bI]
theorem xm_10n : f_Y_marked_10 σ (-1) = some 0 := by
  unfold f_Y_marked_10
  rw [bd_s (xg_no (-1) (by decide)), if_pos rfl]
theorem xm_10b {S : Nat → Bool} (hX : XG_ σ g kd ga gb gc hg bo) (hW : WF_ g kd ga gb gc hg bo) (hM : MK_ (σ 10) g S) {r : Nat} (hr : r < 6) : f_Y_marked_10 σ (match bo r with | some b => nI b | none => -1) = some (bI (sb_ bo S r)) := by
  unfold sb_
  cases hb : bo r with
  | none => exact xm_10n
  | some b => exact xm_10 hX hW.1 hM (hW.2.2 r b hr hb)
theorem xm_11 {S : Nat → Bool} (hX : XG_ σ g kd ga gb gc hg bo) (hg80 : g ≤ 80) (hM : MK_ (σ 11) g S) {n : Nat} (hn : n < g) : f_Y_marked_11 σ (nI n) = some (bI (S n)) := by
  unfold f_Y_marked_11
  rw [bd_s (xg_node hX hg80 hn), if_neg (by decide), gd_in (vp_in_nI (by omega) (by omega)), nI_clamp (by omega), hM n hn]
  cases S n <;> simp [bI]
theorem xm_11n : f_Y_marked_11 σ (-1) = some 0 := by
  unfold f_Y_marked_11
  rw [bd_s (xg_no (-1) (by decide)), if_pos rfl]
theorem xm_11b {S : Nat → Bool} (hX : XG_ σ g kd ga gb gc hg bo) (hW : WF_ g kd ga gb gc hg bo) (hM : MK_ (σ 11) g S) {r : Nat} (hr : r < 6) : f_Y_marked_11 σ (match bo r with | some b => nI b | none => -1) = some (bI (sb_ bo S r)) := by
  unfold sb_
  cases hb : bo r with
  | none => exact xm_11n
  | some b => exact xm_11 hX hW.1 hM (hW.2.2 r b hr hb)
theorem xl_of {L : Nat → Int32} {m : Nat} (hX : XG_ σ g kd ga gb gc hg bo) (hg80 : g ≤ 80) (hM : ∀ i, i < m → σ 12 i = L i) {n : Nat} (hn : n < g) (hm : n < m) : f_Y_leadsOf σ (nI n) = some (L n) := by
  unfold f_Y_leadsOf
  rw [bd_s (xg_node hX hg80 hn), if_neg (by decide), gd_in (vp_in_nI (by omega) (by omega)), nI_clamp (by omega), hM n hm]
theorem xl_no : f_Y_leadsOf σ (-1) = some 0 := by
  unfold f_Y_leadsOf
  rw [bd_s (xg_no (-1) (by decide)), if_pos rfl]
theorem xe_now {S : Nat → Bool} (hX : XG_ σ g kd ga gb gc hg bo) (hW : WF_ g kd ga gb gc hg bo) (hM : MK_ (σ 9) g S) {n : Nat} (hn : n < g) : f_Y_emptyByParts σ (nI n) = some (bI (fE_ kd ga gb bo S n)) := by
  obtain ⟨ea, eb, -, ek⟩ := xg_a hX hW.1 hn
  obtain ⟨g1, -, g3, g4, g5, -, -, g8, -, -⟩ := hW.2.1 n hn
  unfold f_Y_emptyByParts
  rw [bd_s ea, bd_s eb, bd_s ek]
  by_cases k0 : kd n = 0
  · rw [k0]
    rw [if_pos (show nI 0 = (0 : Int32) from rfl)]
    simp [fE_, k0, bI]
  by_cases k1 : kd n = 1
  · rw [k1]
    rw [if_neg (show ¬ nI 1 = (0 : Int32) by decide), if_pos (show nI 1 = (1 : Int32) from rfl)]
    simp [fE_, k1, bI]
  by_cases k2 : kd n = 2
  · rw [k2]
    rw [if_neg (show ¬ nI 2 = (0 : Int32) by decide), if_neg (show ¬ nI 2 = (1 : Int32) by decide), if_pos (show nI 2 = (2 : Int32) from rfl)]
    simp [fE_, k2, bI]
  by_cases k3 : kd n = 3
  · rw [k3]
    rw [if_neg (show ¬ nI 3 = (0 : Int32) by decide), if_neg (show ¬ nI 3 = (1 : Int32) by decide), if_neg (show ¬ nI 3 = (2 : Int32) by decide), if_pos (show nI 3 = (3 : Int32) from rfl)]
    simp [fE_, k3, bI]
  by_cases k4 : kd n = 4
  · rw [k4]
    rw [if_neg (show ¬ nI 4 = (0 : Int32) by decide), if_neg (show ¬ nI 4 = (1 : Int32) by decide), if_neg (show ¬ nI 4 = (2 : Int32) by decide), if_neg (show ¬ nI 4 = (3 : Int32) by decide), if_pos (show nI 4 = (4 : Int32) from rfl)]
    obtain ⟨x, hx, ex, -⟩ := g4 (by omega)
    obtain ⟨y, hy, ey, -⟩ := g5 (by omega)
    have hf : fE_ kd ga gb bo S n = (S x && S y) := by simp [fE_, k4, ex, nI_clamp (show x < 2 ^ 31 by have := hW.1; omega), ey, nI_clamp (show y < 2 ^ 31 by have := hW.1; omega)]
    rw [hf, ex, ey, bd_s (xm_9 hX hW.1 hM (show x < g by omega)), bd_s (xm_9 hX hW.1 hM (show y < g by omega))]
    cases S x <;> cases S y <;> simp [bI]
  by_cases k5 : kd n = 5
  · rw [k5]
    rw [if_neg (show ¬ nI 5 = (0 : Int32) by decide), if_neg (show ¬ nI 5 = (1 : Int32) by decide), if_neg (show ¬ nI 5 = (2 : Int32) by decide), if_neg (show ¬ nI 5 = (3 : Int32) by decide), if_neg (show ¬ nI 5 = (4 : Int32) by decide), if_pos (show nI 5 = (5 : Int32) from rfl)]
    obtain ⟨x, hx, ex, -⟩ := g4 (by omega)
    obtain ⟨y, hy, ey, -⟩ := g5 (by omega)
    have hf : fE_ kd ga gb bo S n = (S x || S y) := by simp [fE_, k5, ex, nI_clamp (show x < 2 ^ 31 by have := hW.1; omega), ey, nI_clamp (show y < 2 ^ 31 by have := hW.1; omega)]
    rw [hf, ex, ey, bd_s (xm_9 hX hW.1 hM (show x < g by omega)), bd_s (xm_9 hX hW.1 hM (show y < g by omega))]
    cases S x <;> cases S y <;> simp [bI]
  by_cases k6 : kd n = 6
  · rw [k6]
    rw [if_neg (show ¬ nI 6 = (0 : Int32) by decide), if_neg (show ¬ nI 6 = (1 : Int32) by decide), if_neg (show ¬ nI 6 = (2 : Int32) by decide), if_neg (show ¬ nI 6 = (3 : Int32) by decide), if_neg (show ¬ nI 6 = (4 : Int32) by decide), if_neg (show ¬ nI 6 = (5 : Int32) by decide), if_pos (show nI 6 = (6 : Int32) from rfl)]
    obtain ⟨x, hx, ex, -⟩ := g4 (by omega)
    have hf : fE_ kd ga gb bo S n = S x := by simp [fE_, k6, ex, nI_clamp (show x < 2 ^ 31 by have := hW.1; omega)]
    rw [hf, ex, bd_s (xm_9 hX hW.1 hM (show x < g by omega)), bI_o]
  by_cases k7 : kd n = 7
  · rw [k7]
    rw [if_neg (show ¬ nI 7 = (0 : Int32) by decide), if_neg (show ¬ nI 7 = (1 : Int32) by decide), if_neg (show ¬ nI 7 = (2 : Int32) by decide), if_neg (show ¬ nI 7 = (3 : Int32) by decide), if_neg (show ¬ nI 7 = (4 : Int32) by decide), if_neg (show ¬ nI 7 = (5 : Int32) by decide), if_neg (show ¬ nI 7 = (6 : Int32) by decide), if_pos (show nI 7 = (7 : Int32) from rfl)]
    simp [fE_, k7, bI]
  by_cases k8 : kd n = 8
  · rw [k8]
    rw [if_neg (show ¬ nI 8 = (0 : Int32) by decide), if_neg (show ¬ nI 8 = (1 : Int32) by decide), if_neg (show ¬ nI 8 = (2 : Int32) by decide), if_neg (show ¬ nI 8 = (3 : Int32) by decide), if_neg (show ¬ nI 8 = (4 : Int32) by decide), if_neg (show ¬ nI 8 = (5 : Int32) by decide), if_neg (show ¬ nI 8 = (6 : Int32) by decide), if_neg (show ¬ nI 8 = (7 : Int32) by decide), if_pos (show nI 8 = (8 : Int32) from rfl)]
    simp [fE_, k8, bI]
  by_cases k9 : kd n = 9
  · rw [k9]
    rw [if_neg (show ¬ nI 9 = (0 : Int32) by decide), if_neg (show ¬ nI 9 = (1 : Int32) by decide), if_neg (show ¬ nI 9 = (2 : Int32) by decide), if_neg (show ¬ nI 9 = (3 : Int32) by decide), if_neg (show ¬ nI 9 = (4 : Int32) by decide), if_neg (show ¬ nI 9 = (5 : Int32) by decide), if_neg (show ¬ nI 9 = (6 : Int32) by decide), if_neg (show ¬ nI 9 = (7 : Int32) by decide), if_neg (show ¬ nI 9 = (8 : Int32) by decide), if_pos (show nI 9 = (9 : Int32) from rfl)]
    simp [fE_, k9, bI]
  by_cases k10 : kd n = 10
  · rw [k10]
    rw [if_neg (show ¬ nI 10 = (0 : Int32) by decide), if_neg (show ¬ nI 10 = (1 : Int32) by decide), if_neg (show ¬ nI 10 = (2 : Int32) by decide), if_neg (show ¬ nI 10 = (3 : Int32) by decide), if_neg (show ¬ nI 10 = (4 : Int32) by decide), if_neg (show ¬ nI 10 = (5 : Int32) by decide), if_neg (show ¬ nI 10 = (6 : Int32) by decide), if_neg (show ¬ nI 10 = (7 : Int32) by decide), if_neg (show ¬ nI 10 = (8 : Int32) by decide), if_neg (show ¬ nI 10 = (9 : Int32) by decide), if_pos (show nI 10 = (10 : Int32) from rfl)]
    obtain ⟨x, hx, ex, -⟩ := g4 (by omega)
    obtain ⟨y, hy, ey, -⟩ := g5 (by omega)
    have hf : fE_ kd ga gb bo S n = S x := by simp [fE_, k10, ex, nI_clamp (show x < 2 ^ 31 by have := hW.1; omega), ey, nI_clamp (show y < 2 ^ 31 by have := hW.1; omega)]
    rw [hf, ex, bd_s (xm_9 hX hW.1 hM (show x < g by omega)), bI_o]
  by_cases k11 : kd n = 11
  · rw [k11]
    rw [if_neg (show ¬ nI 11 = (0 : Int32) by decide), if_neg (show ¬ nI 11 = (1 : Int32) by decide), if_neg (show ¬ nI 11 = (2 : Int32) by decide), if_neg (show ¬ nI 11 = (3 : Int32) by decide), if_neg (show ¬ nI 11 = (4 : Int32) by decide), if_neg (show ¬ nI 11 = (5 : Int32) by decide), if_neg (show ¬ nI 11 = (6 : Int32) by decide), if_neg (show ¬ nI 11 = (7 : Int32) by decide), if_neg (show ¬ nI 11 = (8 : Int32) by decide), if_neg (show ¬ nI 11 = (9 : Int32) by decide), if_neg (show ¬ nI 11 = (10 : Int32) by decide), if_pos (show nI 11 = (11 : Int32) from rfl)]
    obtain ⟨r, hr, er⟩ := g8 k11
    have hf : fE_ kd ga gb bo S n = sb_ bo S r := by simp [fE_, k11, er, nI_clamp (show r < 2 ^ 31 by omega)]
    rw [hf, er, bd_s (xg_body hX hr), bd_s (xm_9b hX hW hM hr), bI_o]
  by_cases k12 : kd n = 12
  · rw [k12]
    rw [if_neg (show ¬ nI 12 = (0 : Int32) by decide), if_neg (show ¬ nI 12 = (1 : Int32) by decide), if_neg (show ¬ nI 12 = (2 : Int32) by decide), if_neg (show ¬ nI 12 = (3 : Int32) by decide), if_neg (show ¬ nI 12 = (4 : Int32) by decide), if_neg (show ¬ nI 12 = (5 : Int32) by decide), if_neg (show ¬ nI 12 = (6 : Int32) by decide), if_neg (show ¬ nI 12 = (7 : Int32) by decide), if_neg (show ¬ nI 12 = (8 : Int32) by decide), if_neg (show ¬ nI 12 = (9 : Int32) by decide), if_neg (show ¬ nI 12 = (10 : Int32) by decide), if_neg (show ¬ nI 12 = (11 : Int32) by decide), if_pos (show nI 12 = (12 : Int32) from rfl)]
    obtain ⟨x, hx, ex, -⟩ := g4 (by omega)
    have hf : fE_ kd ga gb bo S n = S x := by simp [fE_, k12, ex, nI_clamp (show x < 2 ^ 31 by have := hW.1; omega)]
    rw [hf, ex, bd_s (xm_9 hX hW.1 hM (show x < g by omega)), bI_o]
  by_cases k13 : kd n = 13
  · rw [k13]
    rw [if_neg (show ¬ nI 13 = (0 : Int32) by decide), if_neg (show ¬ nI 13 = (1 : Int32) by decide), if_neg (show ¬ nI 13 = (2 : Int32) by decide), if_neg (show ¬ nI 13 = (3 : Int32) by decide), if_neg (show ¬ nI 13 = (4 : Int32) by decide), if_neg (show ¬ nI 13 = (5 : Int32) by decide), if_neg (show ¬ nI 13 = (6 : Int32) by decide), if_neg (show ¬ nI 13 = (7 : Int32) by decide), if_neg (show ¬ nI 13 = (8 : Int32) by decide), if_neg (show ¬ nI 13 = (9 : Int32) by decide), if_neg (show ¬ nI 13 = (10 : Int32) by decide), if_neg (show ¬ nI 13 = (11 : Int32) by decide), if_neg (show ¬ nI 13 = (12 : Int32) by decide), if_pos (show nI 13 = (13 : Int32) from rfl)]
    simp [fE_, k13, bI]
  omega
theorem xb_now {S E : Nat → Bool} {c : Int32} (hX : XG_ σ g kd ga gb gc hg bo) (hW : WF_ g kd ga gb gc hg bo) (hE : MK_ (σ 9) g E) (hM : MK_ (σ 10) g S) {n : Nat} (hn : n < g) : f_Y_beginsByParts σ (nI n) c = some (bI (fB_ kd ga gb bo E c S n)) := by
  obtain ⟨ea, eb, -, ek⟩ := xg_a hX hW.1 hn
  obtain ⟨g1, -, g3, g4, g5, -, -, g8, -, -⟩ := hW.2.1 n hn
  unfold f_Y_beginsByParts
  rw [bd_s ea, bd_s eb, bd_s ek]
  by_cases k0 : kd n = 0
  · rw [k0]
    rw [if_neg (show ¬ nI 0 = (1 : Int32) by decide), if_neg (show ¬ nI 0 = (2 : Int32) by decide), if_neg (show ¬ nI 0 = (3 : Int32) by decide), if_neg (show ¬ nI 0 = (4 : Int32) by decide), if_neg (show ¬ nI 0 = (5 : Int32) by decide), if_neg (show ¬ nI 0 = (6 : Int32) by decide), if_neg (show ¬ nI 0 = (7 : Int32) by decide), if_neg (show ¬ nI 0 = (8 : Int32) by decide), if_neg (show ¬ nI 0 = (9 : Int32) by decide), if_neg (show ¬ nI 0 = (10 : Int32) by decide), if_neg (show ¬ nI 0 = (11 : Int32) by decide), if_neg (show ¬ nI 0 = (12 : Int32) by decide)]
    simp [fB_, k0, bI]
  by_cases k1 : kd n = 1
  · rw [k1]
    rw [if_pos (show nI 1 = (1 : Int32) from rfl)]
    by_cases q : c = ga n
    · rw [if_pos q]; simp [fB_, k1, q, bI]
    · rw [if_neg q]; simp [fB_, k1, q, bI]
  by_cases k2 : kd n = 2
  · rw [k2]
    rw [if_neg (show ¬ nI 2 = (1 : Int32) by decide), if_pos (show nI 2 = (2 : Int32) from rfl)]
    have hf : fB_ kd ga gb bo E c S n = decide (ga n ≤ c ∧ c ≤ gb n) := by simp [fB_, k2]
    rw [hf]
    by_cases q : c < ga n
    · rw [if_pos q, decide_eq_false (fun hh => Int32.not_le.mpr q hh.1)]; rfl
    · rw [if_neg q]
      by_cases q2 : gb n < c
      · rw [if_pos q2, decide_eq_false (fun hh => Int32.not_le.mpr q2 hh.2)]; rfl
      · rw [if_neg q2, decide_eq_true ⟨Int32.not_lt.mp q, Int32.not_lt.mp q2⟩]; rfl
  by_cases k3 : kd n = 3
  · rw [k3]
    rw [if_neg (show ¬ nI 3 = (1 : Int32) by decide), if_neg (show ¬ nI 3 = (2 : Int32) by decide), if_pos (show nI 3 = (3 : Int32) from rfl)]
    simp [fB_, k3, bI]
  by_cases k4 : kd n = 4
  · rw [k4]
    rw [if_neg (show ¬ nI 4 = (1 : Int32) by decide), if_neg (show ¬ nI 4 = (2 : Int32) by decide), if_neg (show ¬ nI 4 = (3 : Int32) by decide), if_pos (show nI 4 = (4 : Int32) from rfl)]
    obtain ⟨x, hx, ex, -⟩ := g4 (by omega)
    obtain ⟨y, hy, ey, -⟩ := g5 (by omega)
    have hf : fB_ kd ga gb bo E c S n = (S x || (E x && S y)) := by simp [fB_, k4, ex, nI_clamp (show x < 2 ^ 31 by have := hW.1; omega), ey, nI_clamp (show y < 2 ^ 31 by have := hW.1; omega)]
    rw [hf, ex, ey, bd_s (xm_10 hX hW.1 hM (show x < g by omega)), bd_s (xm_9 hX hW.1 hE (show x < g by omega)), bd_s (xm_10 hX hW.1 hM (show y < g by omega))]
    cases S x <;> cases S y <;> cases E x <;> simp [bI]
  by_cases k5 : kd n = 5
  · rw [k5]
    rw [if_neg (show ¬ nI 5 = (1 : Int32) by decide), if_neg (show ¬ nI 5 = (2 : Int32) by decide), if_neg (show ¬ nI 5 = (3 : Int32) by decide), if_neg (show ¬ nI 5 = (4 : Int32) by decide), if_pos (show nI 5 = (5 : Int32) from rfl)]
    obtain ⟨x, hx, ex, -⟩ := g4 (by omega)
    obtain ⟨y, hy, ey, -⟩ := g5 (by omega)
    have hf : fB_ kd ga gb bo E c S n = (S x || S y) := by simp [fB_, k5, ex, nI_clamp (show x < 2 ^ 31 by have := hW.1; omega), ey, nI_clamp (show y < 2 ^ 31 by have := hW.1; omega)]
    rw [hf, ex, ey, bd_s (xm_10 hX hW.1 hM (show x < g by omega)), bd_s (xm_10 hX hW.1 hM (show y < g by omega))]
    cases S x <;> cases S y <;> simp [bI]
  by_cases k6 : kd n = 6
  · rw [k6]
    rw [if_neg (show ¬ nI 6 = (1 : Int32) by decide), if_neg (show ¬ nI 6 = (2 : Int32) by decide), if_neg (show ¬ nI 6 = (3 : Int32) by decide), if_neg (show ¬ nI 6 = (4 : Int32) by decide), if_neg (show ¬ nI 6 = (5 : Int32) by decide), if_pos (show nI 6 = (6 : Int32) from rfl)]
    obtain ⟨x, hx, ex, -⟩ := g4 (by omega)
    have hf : fB_ kd ga gb bo E c S n = S x := by simp [fB_, k6, ex, nI_clamp (show x < 2 ^ 31 by have := hW.1; omega)]
    rw [hf, ex, bd_s (xm_10 hX hW.1 hM (show x < g by omega)), bI_o]
  by_cases k7 : kd n = 7
  · rw [k7]
    rw [if_neg (show ¬ nI 7 = (1 : Int32) by decide), if_neg (show ¬ nI 7 = (2 : Int32) by decide), if_neg (show ¬ nI 7 = (3 : Int32) by decide), if_neg (show ¬ nI 7 = (4 : Int32) by decide), if_neg (show ¬ nI 7 = (5 : Int32) by decide), if_neg (show ¬ nI 7 = (6 : Int32) by decide), if_pos (show nI 7 = (7 : Int32) from rfl)]
    simp [fB_, k7, bI]
  by_cases k8 : kd n = 8
  · rw [k8]
    rw [if_neg (show ¬ nI 8 = (1 : Int32) by decide), if_neg (show ¬ nI 8 = (2 : Int32) by decide), if_neg (show ¬ nI 8 = (3 : Int32) by decide), if_neg (show ¬ nI 8 = (4 : Int32) by decide), if_neg (show ¬ nI 8 = (5 : Int32) by decide), if_neg (show ¬ nI 8 = (6 : Int32) by decide), if_neg (show ¬ nI 8 = (7 : Int32) by decide), if_pos (show nI 8 = (8 : Int32) from rfl)]
    simp [fB_, k8, bI]
  by_cases k9 : kd n = 9
  · rw [k9]
    rw [if_neg (show ¬ nI 9 = (1 : Int32) by decide), if_neg (show ¬ nI 9 = (2 : Int32) by decide), if_neg (show ¬ nI 9 = (3 : Int32) by decide), if_neg (show ¬ nI 9 = (4 : Int32) by decide), if_neg (show ¬ nI 9 = (5 : Int32) by decide), if_neg (show ¬ nI 9 = (6 : Int32) by decide), if_neg (show ¬ nI 9 = (7 : Int32) by decide), if_neg (show ¬ nI 9 = (8 : Int32) by decide), if_pos (show nI 9 = (9 : Int32) from rfl)]
    obtain ⟨x, hx, ex, -⟩ := g4 (by omega)
    have hf : fB_ kd ga gb bo E c S n = S x := by simp [fB_, k9, ex, nI_clamp (show x < 2 ^ 31 by have := hW.1; omega)]
    rw [hf, ex, bd_s (xm_10 hX hW.1 hM (show x < g by omega)), bI_o]
  by_cases k10 : kd n = 10
  · rw [k10]
    rw [if_neg (show ¬ nI 10 = (1 : Int32) by decide), if_neg (show ¬ nI 10 = (2 : Int32) by decide), if_neg (show ¬ nI 10 = (3 : Int32) by decide), if_neg (show ¬ nI 10 = (4 : Int32) by decide), if_neg (show ¬ nI 10 = (5 : Int32) by decide), if_neg (show ¬ nI 10 = (6 : Int32) by decide), if_neg (show ¬ nI 10 = (7 : Int32) by decide), if_neg (show ¬ nI 10 = (8 : Int32) by decide), if_neg (show ¬ nI 10 = (9 : Int32) by decide), if_pos (show nI 10 = (10 : Int32) from rfl)]
    obtain ⟨x, hx, ex, -⟩ := g4 (by omega)
    obtain ⟨y, hy, ey, -⟩ := g5 (by omega)
    have hf : fB_ kd ga gb bo E c S n = (S x || (E x && S y)) := by simp [fB_, k10, ex, nI_clamp (show x < 2 ^ 31 by have := hW.1; omega), ey, nI_clamp (show y < 2 ^ 31 by have := hW.1; omega)]
    rw [hf, ex, ey, bd_s (xm_10 hX hW.1 hM (show x < g by omega)), bd_s (xm_9 hX hW.1 hE (show x < g by omega)), bd_s (xm_10 hX hW.1 hM (show y < g by omega))]
    cases S x <;> cases S y <;> cases E x <;> simp [bI]
  by_cases k11 : kd n = 11
  · rw [k11]
    rw [if_neg (show ¬ nI 11 = (1 : Int32) by decide), if_neg (show ¬ nI 11 = (2 : Int32) by decide), if_neg (show ¬ nI 11 = (3 : Int32) by decide), if_neg (show ¬ nI 11 = (4 : Int32) by decide), if_neg (show ¬ nI 11 = (5 : Int32) by decide), if_neg (show ¬ nI 11 = (6 : Int32) by decide), if_neg (show ¬ nI 11 = (7 : Int32) by decide), if_neg (show ¬ nI 11 = (8 : Int32) by decide), if_neg (show ¬ nI 11 = (9 : Int32) by decide), if_neg (show ¬ nI 11 = (10 : Int32) by decide), if_pos (show nI 11 = (11 : Int32) from rfl)]
    obtain ⟨r, hr, er⟩ := g8 k11
    have hf : fB_ kd ga gb bo E c S n = sb_ bo S r := by simp [fB_, k11, er, nI_clamp (show r < 2 ^ 31 by omega)]
    rw [hf, er, bd_s (xg_body hX hr), bd_s (xm_10b hX hW hM hr), bI_o]
  by_cases k12 : kd n = 12
  · rw [k12]
    rw [if_neg (show ¬ nI 12 = (1 : Int32) by decide), if_neg (show ¬ nI 12 = (2 : Int32) by decide), if_neg (show ¬ nI 12 = (3 : Int32) by decide), if_neg (show ¬ nI 12 = (4 : Int32) by decide), if_neg (show ¬ nI 12 = (5 : Int32) by decide), if_neg (show ¬ nI 12 = (6 : Int32) by decide), if_neg (show ¬ nI 12 = (7 : Int32) by decide), if_neg (show ¬ nI 12 = (8 : Int32) by decide), if_neg (show ¬ nI 12 = (9 : Int32) by decide), if_neg (show ¬ nI 12 = (10 : Int32) by decide), if_neg (show ¬ nI 12 = (11 : Int32) by decide), if_pos (show nI 12 = (12 : Int32) from rfl)]
    obtain ⟨x, hx, ex, -⟩ := g4 (by omega)
    have hf : fB_ kd ga gb bo E c S n = S x := by simp [fB_, k12, ex, nI_clamp (show x < 2 ^ 31 by have := hW.1; omega)]
    rw [hf, ex, bd_s (xm_10 hX hW.1 hM (show x < g by omega)), bI_o]
  by_cases k13 : kd n = 13
  · rw [k13]
    rw [if_neg (show ¬ nI 13 = (1 : Int32) by decide), if_neg (show ¬ nI 13 = (2 : Int32) by decide), if_neg (show ¬ nI 13 = (3 : Int32) by decide), if_neg (show ¬ nI 13 = (4 : Int32) by decide), if_neg (show ¬ nI 13 = (5 : Int32) by decide), if_neg (show ¬ nI 13 = (6 : Int32) by decide), if_neg (show ¬ nI 13 = (7 : Int32) by decide), if_neg (show ¬ nI 13 = (8 : Int32) by decide), if_neg (show ¬ nI 13 = (9 : Int32) by decide), if_neg (show ¬ nI 13 = (10 : Int32) by decide), if_neg (show ¬ nI 13 = (11 : Int32) by decide), if_neg (show ¬ nI 13 = (12 : Int32) by decide)]
    simp [fB_, k13, bI]
  omega
theorem xl_now {E : Nat → Bool} {L : Nat → Int32} (hX : XG_ σ g kd ga gb gc hg bo) (hW : WF_ g kd ga gb gc hg bo) (hE : MK_ (σ 9) g E) {n : Nat} (hn : n < g) (hM : ∀ i, i < n → σ 12 i = L i) : f_Y_leadsByParts σ (nI n) = some (fL_ kd ga gb E L n) := by
  obtain ⟨ea, eb, -, ek⟩ := xg_a hX hW.1 hn
  obtain ⟨g1, -, g3, g4, g5, -, -, g8, -, -⟩ := hW.2.1 n hn
  unfold f_Y_leadsByParts
  rw [bd_s ea, bd_s eb, bd_s ek]
  by_cases k0 : kd n = 0
  · rw [k0]
    rw [if_neg (show ¬ nI 0 = (4 : Int32) by decide), if_neg (show ¬ nI 0 = (5 : Int32) by decide), if_neg (show ¬ nI 0 = (6 : Int32) by decide), if_neg (show ¬ nI 0 = (7 : Int32) by decide), if_neg (show ¬ nI 0 = (8 : Int32) by decide), if_neg (show ¬ nI 0 = (9 : Int32) by decide), if_neg (show ¬ nI 0 = (10 : Int32) by decide), if_neg (show ¬ nI 0 = (11 : Int32) by decide), if_neg (show ¬ nI 0 = (12 : Int32) by decide)]
    simp [fL_, k0]
  by_cases k1 : kd n = 1
  · rw [k1]
    rw [if_neg (show ¬ nI 1 = (4 : Int32) by decide), if_neg (show ¬ nI 1 = (5 : Int32) by decide), if_neg (show ¬ nI 1 = (6 : Int32) by decide), if_neg (show ¬ nI 1 = (7 : Int32) by decide), if_neg (show ¬ nI 1 = (8 : Int32) by decide), if_neg (show ¬ nI 1 = (9 : Int32) by decide), if_neg (show ¬ nI 1 = (10 : Int32) by decide), if_neg (show ¬ nI 1 = (11 : Int32) by decide), if_neg (show ¬ nI 1 = (12 : Int32) by decide)]
    simp [fL_, k1]
  by_cases k2 : kd n = 2
  · rw [k2]
    rw [if_neg (show ¬ nI 2 = (4 : Int32) by decide), if_neg (show ¬ nI 2 = (5 : Int32) by decide), if_neg (show ¬ nI 2 = (6 : Int32) by decide), if_neg (show ¬ nI 2 = (7 : Int32) by decide), if_neg (show ¬ nI 2 = (8 : Int32) by decide), if_neg (show ¬ nI 2 = (9 : Int32) by decide), if_neg (show ¬ nI 2 = (10 : Int32) by decide), if_neg (show ¬ nI 2 = (11 : Int32) by decide), if_neg (show ¬ nI 2 = (12 : Int32) by decide)]
    simp [fL_, k2]
  by_cases k3 : kd n = 3
  · rw [k3]
    rw [if_neg (show ¬ nI 3 = (4 : Int32) by decide), if_neg (show ¬ nI 3 = (5 : Int32) by decide), if_neg (show ¬ nI 3 = (6 : Int32) by decide), if_neg (show ¬ nI 3 = (7 : Int32) by decide), if_neg (show ¬ nI 3 = (8 : Int32) by decide), if_neg (show ¬ nI 3 = (9 : Int32) by decide), if_neg (show ¬ nI 3 = (10 : Int32) by decide), if_neg (show ¬ nI 3 = (11 : Int32) by decide), if_neg (show ¬ nI 3 = (12 : Int32) by decide)]
    simp [fL_, k3]
  by_cases k4 : kd n = 4
  · rw [k4]
    rw [if_pos (show nI 4 = (4 : Int32) from rfl)]
    obtain ⟨x, hx, ex, -⟩ := g4 (by omega)
    obtain ⟨y, hy, ey, -⟩ := g5 (by omega)
    have hf : fL_ kd ga gb E L n = (if E x then L x ||| L y else L x) := by simp [fL_, k4, ex, nI_clamp (show x < 2 ^ 31 by have := hW.1; omega), ey, nI_clamp (show y < 2 ^ 31 by have := hW.1; omega)]
    rw [hf, ex, ey, bd_s (xm_9 hX hW.1 hE (show x < g by omega)), xl_of hX hW.1 hM (show x < g by omega) hx, xl_of hX hW.1 hM (show y < g by omega) hy]
    cases E x <;> simp [bI]
  by_cases k5 : kd n = 5
  · rw [k5]
    rw [if_neg (show ¬ nI 5 = (4 : Int32) by decide), if_pos (show nI 5 = (5 : Int32) from rfl)]
    obtain ⟨x, hx, ex, -⟩ := g4 (by omega)
    obtain ⟨y, hy, ey, -⟩ := g5 (by omega)
    have hf : fL_ kd ga gb E L n = (L x ||| L y) := by simp [fL_, k5, ex, nI_clamp (show x < 2 ^ 31 by have := hW.1; omega), ey, nI_clamp (show y < 2 ^ 31 by have := hW.1; omega)]
    rw [hf, ex, ey, bd_s (xl_of hX hW.1 hM (show x < g by omega) hx), bd_s (xl_of hX hW.1 hM (show y < g by omega) hy)]
  by_cases k6 : kd n = 6
  · rw [k6]
    rw [if_neg (show ¬ nI 6 = (4 : Int32) by decide), if_neg (show ¬ nI 6 = (5 : Int32) by decide), if_pos (show nI 6 = (6 : Int32) from rfl)]
    obtain ⟨x, hx, ex, -⟩ := g4 (by omega)
    have hf : fL_ kd ga gb E L n = L x := by simp [fL_, k6, ex, nI_clamp (show x < 2 ^ 31 by have := hW.1; omega)]
    rw [hf, ex, bd_s (xl_of hX hW.1 hM (show x < g by omega) hx)]
  by_cases k7 : kd n = 7
  · rw [k7]
    rw [if_neg (show ¬ nI 7 = (4 : Int32) by decide), if_neg (show ¬ nI 7 = (5 : Int32) by decide), if_neg (show ¬ nI 7 = (6 : Int32) by decide), if_pos (show nI 7 = (7 : Int32) from rfl)]
    obtain ⟨x, hx, ex, -⟩ := g4 (by omega)
    have hf : fL_ kd ga gb E L n = L x := by simp [fL_, k7, ex, nI_clamp (show x < 2 ^ 31 by have := hW.1; omega)]
    rw [hf, ex, bd_s (xl_of hX hW.1 hM (show x < g by omega) hx)]
  by_cases k8 : kd n = 8
  · rw [k8]
    rw [if_neg (show ¬ nI 8 = (4 : Int32) by decide), if_neg (show ¬ nI 8 = (5 : Int32) by decide), if_neg (show ¬ nI 8 = (6 : Int32) by decide), if_neg (show ¬ nI 8 = (7 : Int32) by decide), if_pos (show nI 8 = (8 : Int32) from rfl)]
    obtain ⟨x, hx, ex, -⟩ := g4 (by omega)
    have hf : fL_ kd ga gb E L n = L x := by simp [fL_, k8, ex, nI_clamp (show x < 2 ^ 31 by have := hW.1; omega)]
    rw [hf, ex, bd_s (xl_of hX hW.1 hM (show x < g by omega) hx)]
  by_cases k9 : kd n = 9
  · rw [k9]
    rw [if_neg (show ¬ nI 9 = (4 : Int32) by decide), if_neg (show ¬ nI 9 = (5 : Int32) by decide), if_neg (show ¬ nI 9 = (6 : Int32) by decide), if_neg (show ¬ nI 9 = (7 : Int32) by decide), if_neg (show ¬ nI 9 = (8 : Int32) by decide), if_pos (show nI 9 = (9 : Int32) from rfl)]
    obtain ⟨x, hx, ex, -⟩ := g4 (by omega)
    have hf : fL_ kd ga gb E L n = L x := by simp [fL_, k9, ex, nI_clamp (show x < 2 ^ 31 by have := hW.1; omega)]
    rw [hf, ex, bd_s (xl_of hX hW.1 hM (show x < g by omega) hx)]
  by_cases k10 : kd n = 10
  · rw [k10]
    rw [if_neg (show ¬ nI 10 = (4 : Int32) by decide), if_neg (show ¬ nI 10 = (5 : Int32) by decide), if_neg (show ¬ nI 10 = (6 : Int32) by decide), if_neg (show ¬ nI 10 = (7 : Int32) by decide), if_neg (show ¬ nI 10 = (8 : Int32) by decide), if_neg (show ¬ nI 10 = (9 : Int32) by decide), if_pos (show nI 10 = (10 : Int32) from rfl)]
    obtain ⟨x, hx, ex, -⟩ := g4 (by omega)
    obtain ⟨y, hy, ey, -⟩ := g5 (by omega)
    have hf : fL_ kd ga gb E L n = (if E x then L x ||| L y else L x) := by simp [fL_, k10, ex, nI_clamp (show x < 2 ^ 31 by have := hW.1; omega), ey, nI_clamp (show y < 2 ^ 31 by have := hW.1; omega)]
    rw [hf, ex, ey, bd_s (xm_9 hX hW.1 hE (show x < g by omega)), xl_of hX hW.1 hM (show x < g by omega) hx, xl_of hX hW.1 hM (show y < g by omega) hy]
    cases E x <;> simp [bI]
  by_cases k11 : kd n = 11
  · rw [k11]
    rw [if_neg (show ¬ nI 11 = (4 : Int32) by decide), if_neg (show ¬ nI 11 = (5 : Int32) by decide), if_neg (show ¬ nI 11 = (6 : Int32) by decide), if_neg (show ¬ nI 11 = (7 : Int32) by decide), if_neg (show ¬ nI 11 = (8 : Int32) by decide), if_neg (show ¬ nI 11 = (9 : Int32) by decide), if_neg (show ¬ nI 11 = (10 : Int32) by decide), if_pos (show nI 11 = (11 : Int32) from rfl)]
    obtain ⟨r, hr, er⟩ := g8 k11
    simp [fL_, k11]
  by_cases k12 : kd n = 12
  · rw [k12]
    rw [if_neg (show ¬ nI 12 = (4 : Int32) by decide), if_neg (show ¬ nI 12 = (5 : Int32) by decide), if_neg (show ¬ nI 12 = (6 : Int32) by decide), if_neg (show ¬ nI 12 = (7 : Int32) by decide), if_neg (show ¬ nI 12 = (8 : Int32) by decide), if_neg (show ¬ nI 12 = (9 : Int32) by decide), if_neg (show ¬ nI 12 = (10 : Int32) by decide), if_neg (show ¬ nI 12 = (11 : Int32) by decide), if_pos (show nI 12 = (12 : Int32) from rfl)]
    obtain ⟨x, hx, ex, -⟩ := g4 (by omega)
    have hf : fL_ kd ga gb E L n = L x := by simp [fL_, k12, ex, nI_clamp (show x < 2 ^ 31 by have := hW.1; omega)]
    rw [hf, ex, bd_s (xl_of hX hW.1 hM (show x < g by omega) hx)]
  by_cases k13 : kd n = 13
  · rw [k13]
    rw [if_neg (show ¬ nI 13 = (4 : Int32) by decide), if_neg (show ¬ nI 13 = (5 : Int32) by decide), if_neg (show ¬ nI 13 = (6 : Int32) by decide), if_neg (show ¬ nI 13 = (7 : Int32) by decide), if_neg (show ¬ nI 13 = (8 : Int32) by decide), if_neg (show ¬ nI 13 = (9 : Int32) by decide), if_neg (show ¬ nI 13 = (10 : Int32) by decide), if_neg (show ¬ nI 13 = (11 : Int32) by decide), if_neg (show ¬ nI 13 = (12 : Int32) by decide)]
    simp [fL_, k13]
  omega
/-! the other system's side -/
theorem rg_a (hX : RG_ σ g kd ga gb gc hg bo) (hg80 : g ≤ 80) {n : Nat} (hn : n < g) : vp_in (nI n) 80 ∧ (nI n).toNatClampNeg = n ∧ σ 1 n = nI (kd n) ∧ σ 2 n = ga n ∧ σ 3 n = gb n := by
  obtain ⟨e2, e3, e4, e5, -⟩ := hX.2.1 n hn
  exact ⟨vp_in_nI (by omega) (by omega), nI_clamp (by omega), e2, e3, e4⟩
theorem re_now {S : Nat → Bool} (hX : RG_ σ g kd ga gb gc hg bo) (hW : WF_ g kd ga gb gc hg bo) (hM : MK_ (σ 8) g S) {n : Nat} (hn : n < g) : f_R_emptyNow σ (nI n) = some (bI (fE_ kd ga gb bo S n)) := by
  obtain ⟨hin, hcl, ek, ea, eb⟩ := rg_a hX hW.1 hn
  obtain ⟨g1, -, g3, g4, g5, -, -, g8, -, -⟩ := hW.2.1 n hn
  have hz : ∀ (f : Nat → Int32) (T : Nat → Bool) (i : Nat), MK_ f g T → i < g → (f i = 0 ↔ T i = false) := fun f T i h hi => by rw [h i hi]; cases T i <;> simp [bI]
  unfold f_R_emptyNow
  rw [gd_in hin, gd_in hin, hcl, ek, ea, eb]
  by_cases k0 : kd n = 0
  · rw [k0]
    rw [if_pos (show nI 0 = (0 : Int32) from rfl)]
    simp [fE_, k0, bI]
  by_cases k1 : kd n = 1
  · rw [k1]
    rw [if_neg (show ¬ nI 1 = (0 : Int32) by decide), if_pos (show nI 1 = (1 : Int32) from rfl)]
    simp [fE_, k1, bI]
  by_cases k2 : kd n = 2
  · rw [k2]
    rw [if_neg (show ¬ nI 2 = (0 : Int32) by decide), if_neg (show ¬ nI 2 = (1 : Int32) by decide), if_pos (show nI 2 = (2 : Int32) from rfl)]
    simp [fE_, k2, bI]
  by_cases k3 : kd n = 3
  · rw [k3]
    rw [if_neg (show ¬ nI 3 = (0 : Int32) by decide), if_neg (show ¬ nI 3 = (1 : Int32) by decide), if_neg (show ¬ nI 3 = (2 : Int32) by decide), if_pos (show nI 3 = (3 : Int32) from rfl)]
    simp [fE_, k3, bI]
  by_cases k4 : kd n = 4
  · rw [k4]
    rw [if_neg (show ¬ nI 4 = (0 : Int32) by decide), if_neg (show ¬ nI 4 = (1 : Int32) by decide), if_neg (show ¬ nI 4 = (2 : Int32) by decide), if_neg (show ¬ nI 4 = (3 : Int32) by decide), if_pos (show nI 4 = (4 : Int32) from rfl)]
    obtain ⟨x, hx, ex, -⟩ := g4 (by omega)
    obtain ⟨y, hy, ey, -⟩ := g5 (by omega)
    have hf : fE_ kd ga gb bo S n = (S x && S y) := by simp [fE_, k4, ex, nI_clamp (show x < 2 ^ 31 by have := hW.1; omega), ey, nI_clamp (show y < 2 ^ 31 by have := hW.1; omega)]
    rw [hf, ex, ey, gd_in (show vp_in (nI x) 80 from vp_in_nI (by have := hW.1; omega) (by omega)), nI_clamp (show x < 2 ^ 31 by have := hW.1; omega), gd_in hin, gd_in (show vp_in (nI y) 80 from vp_in_nI (by have := hW.1; omega) (by omega)), nI_clamp (show y < 2 ^ 31 by have := hW.1; omega), hM x (by omega), hM y (by omega)]
    cases S x <;> cases S y <;> simp [bI]
  by_cases k5 : kd n = 5
  · rw [k5]
    rw [if_neg (show ¬ nI 5 = (0 : Int32) by decide), if_neg (show ¬ nI 5 = (1 : Int32) by decide), if_neg (show ¬ nI 5 = (2 : Int32) by decide), if_neg (show ¬ nI 5 = (3 : Int32) by decide), if_neg (show ¬ nI 5 = (4 : Int32) by decide), if_pos (show nI 5 = (5 : Int32) from rfl)]
    obtain ⟨x, hx, ex, -⟩ := g4 (by omega)
    obtain ⟨y, hy, ey, -⟩ := g5 (by omega)
    have hf : fE_ kd ga gb bo S n = (S x || S y) := by simp [fE_, k5, ex, nI_clamp (show x < 2 ^ 31 by have := hW.1; omega), ey, nI_clamp (show y < 2 ^ 31 by have := hW.1; omega)]
    rw [hf, ex, ey, gd_in (show vp_in (nI x) 80 from vp_in_nI (by have := hW.1; omega) (by omega)), nI_clamp (show x < 2 ^ 31 by have := hW.1; omega), gd_in hin, gd_in (show vp_in (nI y) 80 from vp_in_nI (by have := hW.1; omega) (by omega)), nI_clamp (show y < 2 ^ 31 by have := hW.1; omega), hM x (by omega), hM y (by omega)]
    cases S x <;> cases S y <;> simp [bI]
  by_cases k6 : kd n = 6
  · rw [k6]
    rw [if_neg (show ¬ nI 6 = (0 : Int32) by decide), if_neg (show ¬ nI 6 = (1 : Int32) by decide), if_neg (show ¬ nI 6 = (2 : Int32) by decide), if_neg (show ¬ nI 6 = (3 : Int32) by decide), if_neg (show ¬ nI 6 = (4 : Int32) by decide), if_neg (show ¬ nI 6 = (5 : Int32) by decide), if_pos (show nI 6 = (6 : Int32) from rfl)]
    obtain ⟨x, hx, ex, -⟩ := g4 (by omega)
    have hf : fE_ kd ga gb bo S n = S x := by simp [fE_, k6, ex, nI_clamp (show x < 2 ^ 31 by have := hW.1; omega)]
    rw [hf, ex, gd_in (show vp_in (nI x) 80 from vp_in_nI (by have := hW.1; omega) (by omega)), nI_clamp (show x < 2 ^ 31 by have := hW.1; omega), hM x (by omega), bI_o]
  by_cases k7 : kd n = 7
  · rw [k7]
    rw [if_neg (show ¬ nI 7 = (0 : Int32) by decide), if_neg (show ¬ nI 7 = (1 : Int32) by decide), if_neg (show ¬ nI 7 = (2 : Int32) by decide), if_neg (show ¬ nI 7 = (3 : Int32) by decide), if_neg (show ¬ nI 7 = (4 : Int32) by decide), if_neg (show ¬ nI 7 = (5 : Int32) by decide), if_neg (show ¬ nI 7 = (6 : Int32) by decide), if_pos (show nI 7 = (7 : Int32) from rfl)]
    simp [fE_, k7, bI]
  by_cases k8 : kd n = 8
  · rw [k8]
    rw [if_neg (show ¬ nI 8 = (0 : Int32) by decide), if_neg (show ¬ nI 8 = (1 : Int32) by decide), if_neg (show ¬ nI 8 = (2 : Int32) by decide), if_neg (show ¬ nI 8 = (3 : Int32) by decide), if_neg (show ¬ nI 8 = (4 : Int32) by decide), if_neg (show ¬ nI 8 = (5 : Int32) by decide), if_neg (show ¬ nI 8 = (6 : Int32) by decide), if_neg (show ¬ nI 8 = (7 : Int32) by decide), if_pos (show nI 8 = (8 : Int32) from rfl)]
    simp [fE_, k8, bI]
  by_cases k9 : kd n = 9
  · rw [k9]
    rw [if_neg (show ¬ nI 9 = (0 : Int32) by decide), if_neg (show ¬ nI 9 = (1 : Int32) by decide), if_neg (show ¬ nI 9 = (2 : Int32) by decide), if_neg (show ¬ nI 9 = (3 : Int32) by decide), if_neg (show ¬ nI 9 = (4 : Int32) by decide), if_neg (show ¬ nI 9 = (5 : Int32) by decide), if_neg (show ¬ nI 9 = (6 : Int32) by decide), if_neg (show ¬ nI 9 = (7 : Int32) by decide), if_neg (show ¬ nI 9 = (8 : Int32) by decide), if_pos (show nI 9 = (9 : Int32) from rfl)]
    simp [fE_, k9, bI]
  by_cases k10 : kd n = 10
  · rw [k10]
    rw [if_neg (show ¬ nI 10 = (0 : Int32) by decide), if_neg (show ¬ nI 10 = (1 : Int32) by decide), if_neg (show ¬ nI 10 = (2 : Int32) by decide), if_neg (show ¬ nI 10 = (3 : Int32) by decide), if_neg (show ¬ nI 10 = (4 : Int32) by decide), if_neg (show ¬ nI 10 = (5 : Int32) by decide), if_neg (show ¬ nI 10 = (6 : Int32) by decide), if_neg (show ¬ nI 10 = (7 : Int32) by decide), if_neg (show ¬ nI 10 = (8 : Int32) by decide), if_neg (show ¬ nI 10 = (9 : Int32) by decide), if_pos (show nI 10 = (10 : Int32) from rfl)]
    obtain ⟨x, hx, ex, -⟩ := g4 (by omega)
    obtain ⟨y, hy, ey, -⟩ := g5 (by omega)
    have hf : fE_ kd ga gb bo S n = S x := by simp [fE_, k10, ex, nI_clamp (show x < 2 ^ 31 by have := hW.1; omega), ey, nI_clamp (show y < 2 ^ 31 by have := hW.1; omega)]
    rw [hf, ex, gd_in (show vp_in (nI x) 80 from vp_in_nI (by have := hW.1; omega) (by omega)), nI_clamp (show x < 2 ^ 31 by have := hW.1; omega), hM x (by omega), bI_o]
  by_cases k11 : kd n = 11
  · rw [k11]
    rw [if_neg (show ¬ nI 11 = (0 : Int32) by decide), if_neg (show ¬ nI 11 = (1 : Int32) by decide), if_neg (show ¬ nI 11 = (2 : Int32) by decide), if_neg (show ¬ nI 11 = (3 : Int32) by decide), if_neg (show ¬ nI 11 = (4 : Int32) by decide), if_neg (show ¬ nI 11 = (5 : Int32) by decide), if_neg (show ¬ nI 11 = (6 : Int32) by decide), if_neg (show ¬ nI 11 = (7 : Int32) by decide), if_neg (show ¬ nI 11 = (8 : Int32) by decide), if_neg (show ¬ nI 11 = (9 : Int32) by decide), if_neg (show ¬ nI 11 = (10 : Int32) by decide), if_pos (show nI 11 = (11 : Int32) from rfl)]
    obtain ⟨r, hr, er⟩ := g8 k11
    have hf : fE_ kd ga gb bo S n = sb_ bo S r := by simp [fE_, k11, er, nI_clamp (show r < 2 ^ 31 by omega)]
    have hri : vp_in (nI r) 6 := vp_in_nI hr (by omega)
    have hrc : (nI r).toNatClampNeg = r := nI_clamp (by omega)
    rw [hf, er, gd_in hri, hrc]
    unfold sb_
    cases hb : bo r with
    | none => rw [hX.2.2.2 r hr hb, if_pos (by decide)]; rfl
    | some b =>
      have hbg := hW.2.2 r b hr hb
      have hb80 := hW.1
      have hneg : ¬ nI (b + 1) ≤ 0 := fun hh => by have := (li_le 0 rfl (by omega) (by omega)).mp hh; omega
      rw [hX.2.2.1 r b hr hb, if_neg hneg, gd_in hri, if_neg hneg, gd_in hri, li_m1 (x := nI (b + 1)) rfl, gd_in (vp_in_nI (show b < 80 by omega) (by omega)), nI_clamp (show b < 2 ^ 31 by omega), hM b hbg]
      show _ = some (bI (S b))
      cases S b <;> simp [bI]
  by_cases k12 : kd n = 12
  · rw [k12]
    rw [if_neg (show ¬ nI 12 = (0 : Int32) by decide), if_neg (show ¬ nI 12 = (1 : Int32) by decide), if_neg (show ¬ nI 12 = (2 : Int32) by decide), if_neg (show ¬ nI 12 = (3 : Int32) by decide), if_neg (show ¬ nI 12 = (4 : Int32) by decide), if_neg (show ¬ nI 12 = (5 : Int32) by decide), if_neg (show ¬ nI 12 = (6 : Int32) by decide), if_neg (show ¬ nI 12 = (7 : Int32) by decide), if_neg (show ¬ nI 12 = (8 : Int32) by decide), if_neg (show ¬ nI 12 = (9 : Int32) by decide), if_neg (show ¬ nI 12 = (10 : Int32) by decide), if_neg (show ¬ nI 12 = (11 : Int32) by decide), if_pos (show nI 12 = (12 : Int32) from rfl)]
    obtain ⟨x, hx, ex, -⟩ := g4 (by omega)
    have hf : fE_ kd ga gb bo S n = S x := by simp [fE_, k12, ex, nI_clamp (show x < 2 ^ 31 by have := hW.1; omega)]
    rw [hf, ex, gd_in (show vp_in (nI x) 80 from vp_in_nI (by have := hW.1; omega) (by omega)), nI_clamp (show x < 2 ^ 31 by have := hW.1; omega), hM x (by omega), bI_o]
  by_cases k13 : kd n = 13
  · rw [k13]
    rw [if_neg (show ¬ nI 13 = (0 : Int32) by decide), if_neg (show ¬ nI 13 = (1 : Int32) by decide), if_neg (show ¬ nI 13 = (2 : Int32) by decide), if_neg (show ¬ nI 13 = (3 : Int32) by decide), if_neg (show ¬ nI 13 = (4 : Int32) by decide), if_neg (show ¬ nI 13 = (5 : Int32) by decide), if_neg (show ¬ nI 13 = (6 : Int32) by decide), if_neg (show ¬ nI 13 = (7 : Int32) by decide), if_neg (show ¬ nI 13 = (8 : Int32) by decide), if_neg (show ¬ nI 13 = (9 : Int32) by decide), if_neg (show ¬ nI 13 = (10 : Int32) by decide), if_neg (show ¬ nI 13 = (11 : Int32) by decide), if_neg (show ¬ nI 13 = (12 : Int32) by decide), if_pos (show nI 13 = (13 : Int32) from rfl)]
    simp [fE_, k13, bI]
  omega
theorem rb_now {S E : Nat → Bool} {c : Int32} (hX : RG_ σ g kd ga gb gc hg bo) (hW : WF_ g kd ga gb gc hg bo) (hE : MK_ (σ 8) g E) (hM : MK_ (σ 9) g S) {n : Nat} (hn : n < g) : f_R_beginsNow σ (nI n) c = some (bI (fB_ kd ga gb bo E c S n)) := by
  obtain ⟨hin, hcl, ek, ea, eb⟩ := rg_a hX hW.1 hn
  obtain ⟨g1, -, g3, g4, g5, -, -, g8, -, -⟩ := hW.2.1 n hn
  have hz : ∀ (f : Nat → Int32) (T : Nat → Bool) (i : Nat), MK_ f g T → i < g → (f i = 0 ↔ T i = false) := fun f T i h hi => by rw [h i hi]; cases T i <;> simp [bI]
  unfold f_R_beginsNow
  rw [gd_in hin, gd_in hin, hcl, ek, ea, eb]
  by_cases k0 : kd n = 0
  · rw [k0]
    rw [if_neg (show ¬ nI 0 = (1 : Int32) by decide), if_neg (show ¬ nI 0 = (2 : Int32) by decide), if_neg (show ¬ nI 0 = (3 : Int32) by decide), if_neg (show ¬ nI 0 = (4 : Int32) by decide), if_neg (show ¬ nI 0 = (5 : Int32) by decide), if_neg (show ¬ nI 0 = (6 : Int32) by decide), if_neg (show ¬ nI 0 = (7 : Int32) by decide), if_neg (show ¬ nI 0 = (8 : Int32) by decide), if_neg (show ¬ nI 0 = (9 : Int32) by decide), if_neg (show ¬ nI 0 = (10 : Int32) by decide), if_neg (show ¬ nI 0 = (11 : Int32) by decide), if_neg (show ¬ nI 0 = (12 : Int32) by decide)]
    simp [fB_, k0, bI]
  by_cases k1 : kd n = 1
  · rw [k1]
    rw [if_pos (show nI 1 = (1 : Int32) from rfl)]
    by_cases q : c = ga n
    · rw [if_pos q]; simp [fB_, k1, q, bI]
    · rw [if_neg q]; simp [fB_, k1, q, bI]
  by_cases k2 : kd n = 2
  · rw [k2]
    rw [if_neg (show ¬ nI 2 = (1 : Int32) by decide), if_pos (show nI 2 = (2 : Int32) from rfl)]
    have hf : fB_ kd ga gb bo E c S n = decide (ga n ≤ c ∧ c ≤ gb n) := by simp [fB_, k2]
    rw [hf, gd_in hin, bd_s (in_f _ _ _)]
    by_cases q : ga n ≤ c ∧ c ≤ gb n
    · rw [if_pos q, decide_eq_true q]; rfl
    · rw [if_neg q, decide_eq_false q]; rfl
  by_cases k3 : kd n = 3
  · rw [k3]
    rw [if_neg (show ¬ nI 3 = (1 : Int32) by decide), if_neg (show ¬ nI 3 = (2 : Int32) by decide), if_pos (show nI 3 = (3 : Int32) from rfl)]
    simp [fB_, k3, bI]
  by_cases k4 : kd n = 4
  · rw [k4]
    rw [if_neg (show ¬ nI 4 = (1 : Int32) by decide), if_neg (show ¬ nI 4 = (2 : Int32) by decide), if_neg (show ¬ nI 4 = (3 : Int32) by decide), if_pos (show nI 4 = (4 : Int32) from rfl)]
    obtain ⟨x, hx, ex, -⟩ := g4 (by omega)
    obtain ⟨y, hy, ey, -⟩ := g5 (by omega)
    have hf : fB_ kd ga gb bo E c S n = (S x || (E x && S y)) := by simp [fB_, k4, ex, nI_clamp (show x < 2 ^ 31 by have := hW.1; omega), ey, nI_clamp (show y < 2 ^ 31 by have := hW.1; omega)]
    rw [hf, ex, ey, gd_in (show vp_in (nI x) 80 from vp_in_nI (by have := hW.1; omega) (by omega)), nI_clamp (show x < 2 ^ 31 by have := hW.1; omega), gd_in (show vp_in (nI x) 80 from vp_in_nI (by have := hW.1; omega) (by omega)), gd_in hin, gd_in (show vp_in (nI y) 80 from vp_in_nI (by have := hW.1; omega) (by omega)), nI_clamp (show y < 2 ^ 31 by have := hW.1; omega), hM x (by omega), hM y (by omega), hE x (by omega)]
    cases S x <;> cases S y <;> cases E x <;> simp [bI]
  by_cases k5 : kd n = 5
  · rw [k5]
    rw [if_neg (show ¬ nI 5 = (1 : Int32) by decide), if_neg (show ¬ nI 5 = (2 : Int32) by decide), if_neg (show ¬ nI 5 = (3 : Int32) by decide), if_neg (show ¬ nI 5 = (4 : Int32) by decide), if_pos (show nI 5 = (5 : Int32) from rfl)]
    obtain ⟨x, hx, ex, -⟩ := g4 (by omega)
    obtain ⟨y, hy, ey, -⟩ := g5 (by omega)
    have hf : fB_ kd ga gb bo E c S n = (S x || S y) := by simp [fB_, k5, ex, nI_clamp (show x < 2 ^ 31 by have := hW.1; omega), ey, nI_clamp (show y < 2 ^ 31 by have := hW.1; omega)]
    rw [hf, ex, ey, gd_in (show vp_in (nI x) 80 from vp_in_nI (by have := hW.1; omega) (by omega)), nI_clamp (show x < 2 ^ 31 by have := hW.1; omega), gd_in hin, gd_in (show vp_in (nI y) 80 from vp_in_nI (by have := hW.1; omega) (by omega)), nI_clamp (show y < 2 ^ 31 by have := hW.1; omega), hM x (by omega), hM y (by omega)]
    cases S x <;> cases S y <;> simp [bI]
  by_cases k6 : kd n = 6
  · rw [k6]
    rw [if_neg (show ¬ nI 6 = (1 : Int32) by decide), if_neg (show ¬ nI 6 = (2 : Int32) by decide), if_neg (show ¬ nI 6 = (3 : Int32) by decide), if_neg (show ¬ nI 6 = (4 : Int32) by decide), if_neg (show ¬ nI 6 = (5 : Int32) by decide), if_pos (show nI 6 = (6 : Int32) from rfl)]
    obtain ⟨x, hx, ex, -⟩ := g4 (by omega)
    have hf : fB_ kd ga gb bo E c S n = S x := by simp [fB_, k6, ex, nI_clamp (show x < 2 ^ 31 by have := hW.1; omega)]
    rw [hf, ex, gd_in (show vp_in (nI x) 80 from vp_in_nI (by have := hW.1; omega) (by omega)), nI_clamp (show x < 2 ^ 31 by have := hW.1; omega), hM x (by omega), bI_o]
  by_cases k7 : kd n = 7
  · rw [k7]
    rw [if_neg (show ¬ nI 7 = (1 : Int32) by decide), if_neg (show ¬ nI 7 = (2 : Int32) by decide), if_neg (show ¬ nI 7 = (3 : Int32) by decide), if_neg (show ¬ nI 7 = (4 : Int32) by decide), if_neg (show ¬ nI 7 = (5 : Int32) by decide), if_neg (show ¬ nI 7 = (6 : Int32) by decide), if_pos (show nI 7 = (7 : Int32) from rfl)]
    simp [fB_, k7, bI]
  by_cases k8 : kd n = 8
  · rw [k8]
    rw [if_neg (show ¬ nI 8 = (1 : Int32) by decide), if_neg (show ¬ nI 8 = (2 : Int32) by decide), if_neg (show ¬ nI 8 = (3 : Int32) by decide), if_neg (show ¬ nI 8 = (4 : Int32) by decide), if_neg (show ¬ nI 8 = (5 : Int32) by decide), if_neg (show ¬ nI 8 = (6 : Int32) by decide), if_neg (show ¬ nI 8 = (7 : Int32) by decide), if_pos (show nI 8 = (8 : Int32) from rfl)]
    simp [fB_, k8, bI]
  by_cases k9 : kd n = 9
  · rw [k9]
    rw [if_neg (show ¬ nI 9 = (1 : Int32) by decide), if_neg (show ¬ nI 9 = (2 : Int32) by decide), if_neg (show ¬ nI 9 = (3 : Int32) by decide), if_neg (show ¬ nI 9 = (4 : Int32) by decide), if_neg (show ¬ nI 9 = (5 : Int32) by decide), if_neg (show ¬ nI 9 = (6 : Int32) by decide), if_neg (show ¬ nI 9 = (7 : Int32) by decide), if_neg (show ¬ nI 9 = (8 : Int32) by decide), if_pos (show nI 9 = (9 : Int32) from rfl)]
    obtain ⟨x, hx, ex, -⟩ := g4 (by omega)
    have hf : fB_ kd ga gb bo E c S n = S x := by simp [fB_, k9, ex, nI_clamp (show x < 2 ^ 31 by have := hW.1; omega)]
    rw [hf, ex, gd_in (show vp_in (nI x) 80 from vp_in_nI (by have := hW.1; omega) (by omega)), nI_clamp (show x < 2 ^ 31 by have := hW.1; omega), hM x (by omega), bI_o]
  by_cases k10 : kd n = 10
  · rw [k10]
    rw [if_neg (show ¬ nI 10 = (1 : Int32) by decide), if_neg (show ¬ nI 10 = (2 : Int32) by decide), if_neg (show ¬ nI 10 = (3 : Int32) by decide), if_neg (show ¬ nI 10 = (4 : Int32) by decide), if_neg (show ¬ nI 10 = (5 : Int32) by decide), if_neg (show ¬ nI 10 = (6 : Int32) by decide), if_neg (show ¬ nI 10 = (7 : Int32) by decide), if_neg (show ¬ nI 10 = (8 : Int32) by decide), if_neg (show ¬ nI 10 = (9 : Int32) by decide), if_pos (show nI 10 = (10 : Int32) from rfl)]
    obtain ⟨x, hx, ex, -⟩ := g4 (by omega)
    obtain ⟨y, hy, ey, -⟩ := g5 (by omega)
    have hf : fB_ kd ga gb bo E c S n = (S x || (E x && S y)) := by simp [fB_, k10, ex, nI_clamp (show x < 2 ^ 31 by have := hW.1; omega), ey, nI_clamp (show y < 2 ^ 31 by have := hW.1; omega)]
    rw [hf, ex, ey, gd_in (show vp_in (nI x) 80 from vp_in_nI (by have := hW.1; omega) (by omega)), nI_clamp (show x < 2 ^ 31 by have := hW.1; omega), gd_in (show vp_in (nI x) 80 from vp_in_nI (by have := hW.1; omega) (by omega)), gd_in hin, gd_in (show vp_in (nI y) 80 from vp_in_nI (by have := hW.1; omega) (by omega)), nI_clamp (show y < 2 ^ 31 by have := hW.1; omega), hM x (by omega), hM y (by omega), hE x (by omega)]
    cases S x <;> cases S y <;> cases E x <;> simp [bI]
  by_cases k11 : kd n = 11
  · rw [k11]
    rw [if_neg (show ¬ nI 11 = (1 : Int32) by decide), if_neg (show ¬ nI 11 = (2 : Int32) by decide), if_neg (show ¬ nI 11 = (3 : Int32) by decide), if_neg (show ¬ nI 11 = (4 : Int32) by decide), if_neg (show ¬ nI 11 = (5 : Int32) by decide), if_neg (show ¬ nI 11 = (6 : Int32) by decide), if_neg (show ¬ nI 11 = (7 : Int32) by decide), if_neg (show ¬ nI 11 = (8 : Int32) by decide), if_neg (show ¬ nI 11 = (9 : Int32) by decide), if_neg (show ¬ nI 11 = (10 : Int32) by decide), if_pos (show nI 11 = (11 : Int32) from rfl)]
    obtain ⟨r, hr, er⟩ := g8 k11
    have hf : fB_ kd ga gb bo E c S n = sb_ bo S r := by simp [fB_, k11, er, nI_clamp (show r < 2 ^ 31 by omega)]
    have hri : vp_in (nI r) 6 := vp_in_nI hr (by omega)
    have hrc : (nI r).toNatClampNeg = r := nI_clamp (by omega)
    rw [hf, er, gd_in hri, hrc]
    unfold sb_
    cases hb : bo r with
    | none => rw [hX.2.2.2 r hr hb, if_pos (by decide)]; rfl
    | some b =>
      have hbg := hW.2.2 r b hr hb
      have hb80 := hW.1
      have hneg : ¬ nI (b + 1) ≤ 0 := fun hh => by have := (li_le 0 rfl (by omega) (by omega)).mp hh; omega
      rw [hX.2.2.1 r b hr hb, if_neg hneg, gd_in hri, if_neg hneg, gd_in hri, li_m1 (x := nI (b + 1)) rfl, gd_in (vp_in_nI (show b < 80 by omega) (by omega)), nI_clamp (show b < 2 ^ 31 by omega), hM b hbg]
      show _ = some (bI (S b))
      cases S b <;> simp [bI]
  by_cases k12 : kd n = 12
  · rw [k12]
    rw [if_neg (show ¬ nI 12 = (1 : Int32) by decide), if_neg (show ¬ nI 12 = (2 : Int32) by decide), if_neg (show ¬ nI 12 = (3 : Int32) by decide), if_neg (show ¬ nI 12 = (4 : Int32) by decide), if_neg (show ¬ nI 12 = (5 : Int32) by decide), if_neg (show ¬ nI 12 = (6 : Int32) by decide), if_neg (show ¬ nI 12 = (7 : Int32) by decide), if_neg (show ¬ nI 12 = (8 : Int32) by decide), if_neg (show ¬ nI 12 = (9 : Int32) by decide), if_neg (show ¬ nI 12 = (10 : Int32) by decide), if_neg (show ¬ nI 12 = (11 : Int32) by decide), if_pos (show nI 12 = (12 : Int32) from rfl)]
    obtain ⟨x, hx, ex, -⟩ := g4 (by omega)
    have hf : fB_ kd ga gb bo E c S n = S x := by simp [fB_, k12, ex, nI_clamp (show x < 2 ^ 31 by have := hW.1; omega)]
    rw [hf, ex, gd_in (show vp_in (nI x) 80 from vp_in_nI (by have := hW.1; omega) (by omega)), nI_clamp (show x < 2 ^ 31 by have := hW.1; omega), hM x (by omega), bI_o]
  by_cases k13 : kd n = 13
  · rw [k13]
    rw [if_neg (show ¬ nI 13 = (1 : Int32) by decide), if_neg (show ¬ nI 13 = (2 : Int32) by decide), if_neg (show ¬ nI 13 = (3 : Int32) by decide), if_neg (show ¬ nI 13 = (4 : Int32) by decide), if_neg (show ¬ nI 13 = (5 : Int32) by decide), if_neg (show ¬ nI 13 = (6 : Int32) by decide), if_neg (show ¬ nI 13 = (7 : Int32) by decide), if_neg (show ¬ nI 13 = (8 : Int32) by decide), if_neg (show ¬ nI 13 = (9 : Int32) by decide), if_neg (show ¬ nI 13 = (10 : Int32) by decide), if_neg (show ¬ nI 13 = (11 : Int32) by decide), if_neg (show ¬ nI 13 = (12 : Int32) by decide)]
    simp [fB_, k13, bI]
  omega
theorem rl_now {E : Nat → Bool} {L : Nat → Int32} (hX : RG_ σ g kd ga gb gc hg bo) (hW : WF_ g kd ga gb gc hg bo) (hE : MK_ (σ 8) g E) {n : Nat} (hn : n < g) (hM : ∀ i, i < n → σ 10 i = L i) : f_R_leadsNow σ (nI n) = some (fL_ kd ga gb E L n) := by
  obtain ⟨hin, hcl, ek, ea, eb⟩ := rg_a hX hW.1 hn
  obtain ⟨g1, -, g3, g4, g5, -, -, g8, -, -⟩ := hW.2.1 n hn
  have hz : ∀ (f : Nat → Int32) (T : Nat → Bool) (i : Nat), MK_ f g T → i < g → (f i = 0 ↔ T i = false) := fun f T i h hi => by rw [h i hi]; cases T i <;> simp [bI]
  unfold f_R_leadsNow
  rw [gd_in hin, gd_in hin, hcl, ek, ea, eb]
  by_cases k0 : kd n = 0
  · rw [k0]
    rw [if_neg (show ¬ nI 0 = (4 : Int32) by decide), if_neg (show ¬ nI 0 = (5 : Int32) by decide), if_neg (show ¬ nI 0 = (6 : Int32) by decide), if_neg (show ¬ nI 0 = (7 : Int32) by decide), if_neg (show ¬ nI 0 = (8 : Int32) by decide), if_neg (show ¬ nI 0 = (9 : Int32) by decide), if_neg (show ¬ nI 0 = (10 : Int32) by decide), if_neg (show ¬ nI 0 = (11 : Int32) by decide), if_neg (show ¬ nI 0 = (12 : Int32) by decide)]
    simp [fL_, k0]
  by_cases k1 : kd n = 1
  · rw [k1]
    rw [if_neg (show ¬ nI 1 = (4 : Int32) by decide), if_neg (show ¬ nI 1 = (5 : Int32) by decide), if_neg (show ¬ nI 1 = (6 : Int32) by decide), if_neg (show ¬ nI 1 = (7 : Int32) by decide), if_neg (show ¬ nI 1 = (8 : Int32) by decide), if_neg (show ¬ nI 1 = (9 : Int32) by decide), if_neg (show ¬ nI 1 = (10 : Int32) by decide), if_neg (show ¬ nI 1 = (11 : Int32) by decide), if_neg (show ¬ nI 1 = (12 : Int32) by decide)]
    simp [fL_, k1]
  by_cases k2 : kd n = 2
  · rw [k2]
    rw [if_neg (show ¬ nI 2 = (4 : Int32) by decide), if_neg (show ¬ nI 2 = (5 : Int32) by decide), if_neg (show ¬ nI 2 = (6 : Int32) by decide), if_neg (show ¬ nI 2 = (7 : Int32) by decide), if_neg (show ¬ nI 2 = (8 : Int32) by decide), if_neg (show ¬ nI 2 = (9 : Int32) by decide), if_neg (show ¬ nI 2 = (10 : Int32) by decide), if_neg (show ¬ nI 2 = (11 : Int32) by decide), if_neg (show ¬ nI 2 = (12 : Int32) by decide)]
    simp [fL_, k2]
  by_cases k3 : kd n = 3
  · rw [k3]
    rw [if_neg (show ¬ nI 3 = (4 : Int32) by decide), if_neg (show ¬ nI 3 = (5 : Int32) by decide), if_neg (show ¬ nI 3 = (6 : Int32) by decide), if_neg (show ¬ nI 3 = (7 : Int32) by decide), if_neg (show ¬ nI 3 = (8 : Int32) by decide), if_neg (show ¬ nI 3 = (9 : Int32) by decide), if_neg (show ¬ nI 3 = (10 : Int32) by decide), if_neg (show ¬ nI 3 = (11 : Int32) by decide), if_neg (show ¬ nI 3 = (12 : Int32) by decide)]
    simp [fL_, k3]
  by_cases k4 : kd n = 4
  · rw [k4]
    rw [if_pos (show nI 4 = (4 : Int32) from rfl)]
    obtain ⟨x, hx, ex, -⟩ := g4 (by omega)
    obtain ⟨y, hy, ey, -⟩ := g5 (by omega)
    have hf : fL_ kd ga gb E L n = (if E x then L x ||| L y else L x) := by simp [fL_, k4, ex, nI_clamp (show x < 2 ^ 31 by have := hW.1; omega), ey, nI_clamp (show y < 2 ^ 31 by have := hW.1; omega)]
    rw [hf, ex, ey, gd_in (show vp_in (nI x) 80 from vp_in_nI (by have := hW.1; omega) (by omega)), nI_clamp (show x < 2 ^ 31 by have := hW.1; omega), gd_in (show vp_in (nI x) 80 from vp_in_nI (by have := hW.1; omega) (by omega)), gd_in (show vp_in (nI x) 80 from vp_in_nI (by have := hW.1; omega) (by omega)), gd_in hin, gd_in (show vp_in (nI y) 80 from vp_in_nI (by have := hW.1; omega) (by omega)), nI_clamp (show y < 2 ^ 31 by have := hW.1; omega), hM x hx, hM y hy, hE x (by omega)]
    cases E x <;> simp [bI]
  by_cases k5 : kd n = 5
  · rw [k5]
    rw [if_neg (show ¬ nI 5 = (4 : Int32) by decide), if_pos (show nI 5 = (5 : Int32) from rfl)]
    obtain ⟨x, hx, ex, -⟩ := g4 (by omega)
    obtain ⟨y, hy, ey, -⟩ := g5 (by omega)
    have hf : fL_ kd ga gb E L n = (L x ||| L y) := by simp [fL_, k5, ex, nI_clamp (show x < 2 ^ 31 by have := hW.1; omega), ey, nI_clamp (show y < 2 ^ 31 by have := hW.1; omega)]
    rw [hf, ex, ey, gd_in (show vp_in (nI x) 80 from vp_in_nI (by have := hW.1; omega) (by omega)), nI_clamp (show x < 2 ^ 31 by have := hW.1; omega), gd_in hin, gd_in (show vp_in (nI y) 80 from vp_in_nI (by have := hW.1; omega) (by omega)), nI_clamp (show y < 2 ^ 31 by have := hW.1; omega), hM x hx, hM y hy]
  by_cases k6 : kd n = 6
  · rw [k6]
    rw [if_neg (show ¬ nI 6 = (4 : Int32) by decide), if_neg (show ¬ nI 6 = (5 : Int32) by decide), if_pos (show nI 6 = (6 : Int32) from rfl)]
    obtain ⟨x, hx, ex, -⟩ := g4 (by omega)
    have hf : fL_ kd ga gb E L n = L x := by simp [fL_, k6, ex, nI_clamp (show x < 2 ^ 31 by have := hW.1; omega)]
    rw [hf, ex, gd_in (show vp_in (nI x) 80 from vp_in_nI (by have := hW.1; omega) (by omega)), nI_clamp (show x < 2 ^ 31 by have := hW.1; omega), hM x hx]
  by_cases k7 : kd n = 7
  · rw [k7]
    rw [if_neg (show ¬ nI 7 = (4 : Int32) by decide), if_neg (show ¬ nI 7 = (5 : Int32) by decide), if_neg (show ¬ nI 7 = (6 : Int32) by decide), if_pos (show nI 7 = (7 : Int32) from rfl)]
    obtain ⟨x, hx, ex, -⟩ := g4 (by omega)
    have hf : fL_ kd ga gb E L n = L x := by simp [fL_, k7, ex, nI_clamp (show x < 2 ^ 31 by have := hW.1; omega)]
    rw [hf, ex, gd_in (show vp_in (nI x) 80 from vp_in_nI (by have := hW.1; omega) (by omega)), nI_clamp (show x < 2 ^ 31 by have := hW.1; omega), hM x hx]
  by_cases k8 : kd n = 8
  · rw [k8]
    rw [if_neg (show ¬ nI 8 = (4 : Int32) by decide), if_neg (show ¬ nI 8 = (5 : Int32) by decide), if_neg (show ¬ nI 8 = (6 : Int32) by decide), if_neg (show ¬ nI 8 = (7 : Int32) by decide), if_pos (show nI 8 = (8 : Int32) from rfl)]
    obtain ⟨x, hx, ex, -⟩ := g4 (by omega)
    have hf : fL_ kd ga gb E L n = L x := by simp [fL_, k8, ex, nI_clamp (show x < 2 ^ 31 by have := hW.1; omega)]
    rw [hf, ex, gd_in (show vp_in (nI x) 80 from vp_in_nI (by have := hW.1; omega) (by omega)), nI_clamp (show x < 2 ^ 31 by have := hW.1; omega), hM x hx]
  by_cases k9 : kd n = 9
  · rw [k9]
    rw [if_neg (show ¬ nI 9 = (4 : Int32) by decide), if_neg (show ¬ nI 9 = (5 : Int32) by decide), if_neg (show ¬ nI 9 = (6 : Int32) by decide), if_neg (show ¬ nI 9 = (7 : Int32) by decide), if_neg (show ¬ nI 9 = (8 : Int32) by decide), if_pos (show nI 9 = (9 : Int32) from rfl)]
    obtain ⟨x, hx, ex, -⟩ := g4 (by omega)
    have hf : fL_ kd ga gb E L n = L x := by simp [fL_, k9, ex, nI_clamp (show x < 2 ^ 31 by have := hW.1; omega)]
    rw [hf, ex, gd_in (show vp_in (nI x) 80 from vp_in_nI (by have := hW.1; omega) (by omega)), nI_clamp (show x < 2 ^ 31 by have := hW.1; omega), hM x hx]
  by_cases k10 : kd n = 10
  · rw [k10]
    rw [if_neg (show ¬ nI 10 = (4 : Int32) by decide), if_neg (show ¬ nI 10 = (5 : Int32) by decide), if_neg (show ¬ nI 10 = (6 : Int32) by decide), if_neg (show ¬ nI 10 = (7 : Int32) by decide), if_neg (show ¬ nI 10 = (8 : Int32) by decide), if_neg (show ¬ nI 10 = (9 : Int32) by decide), if_pos (show nI 10 = (10 : Int32) from rfl)]
    obtain ⟨x, hx, ex, -⟩ := g4 (by omega)
    obtain ⟨y, hy, ey, -⟩ := g5 (by omega)
    have hf : fL_ kd ga gb E L n = (if E x then L x ||| L y else L x) := by simp [fL_, k10, ex, nI_clamp (show x < 2 ^ 31 by have := hW.1; omega), ey, nI_clamp (show y < 2 ^ 31 by have := hW.1; omega)]
    rw [hf, ex, ey, gd_in (show vp_in (nI x) 80 from vp_in_nI (by have := hW.1; omega) (by omega)), nI_clamp (show x < 2 ^ 31 by have := hW.1; omega), gd_in (show vp_in (nI x) 80 from vp_in_nI (by have := hW.1; omega) (by omega)), gd_in (show vp_in (nI x) 80 from vp_in_nI (by have := hW.1; omega) (by omega)), gd_in hin, gd_in (show vp_in (nI y) 80 from vp_in_nI (by have := hW.1; omega) (by omega)), nI_clamp (show y < 2 ^ 31 by have := hW.1; omega), hM x hx, hM y hy, hE x (by omega)]
    cases E x <;> simp [bI]
  by_cases k11 : kd n = 11
  · rw [k11]
    rw [if_neg (show ¬ nI 11 = (4 : Int32) by decide), if_neg (show ¬ nI 11 = (5 : Int32) by decide), if_neg (show ¬ nI 11 = (6 : Int32) by decide), if_neg (show ¬ nI 11 = (7 : Int32) by decide), if_neg (show ¬ nI 11 = (8 : Int32) by decide), if_neg (show ¬ nI 11 = (9 : Int32) by decide), if_neg (show ¬ nI 11 = (10 : Int32) by decide), if_pos (show nI 11 = (11 : Int32) from rfl)]
    obtain ⟨r, hr, er⟩ := g8 k11
    simp [fL_, k11]
  by_cases k12 : kd n = 12
  · rw [k12]
    rw [if_neg (show ¬ nI 12 = (4 : Int32) by decide), if_neg (show ¬ nI 12 = (5 : Int32) by decide), if_neg (show ¬ nI 12 = (6 : Int32) by decide), if_neg (show ¬ nI 12 = (7 : Int32) by decide), if_neg (show ¬ nI 12 = (8 : Int32) by decide), if_neg (show ¬ nI 12 = (9 : Int32) by decide), if_neg (show ¬ nI 12 = (10 : Int32) by decide), if_neg (show ¬ nI 12 = (11 : Int32) by decide), if_pos (show nI 12 = (12 : Int32) from rfl)]
    obtain ⟨x, hx, ex, -⟩ := g4 (by omega)
    have hf : fL_ kd ga gb E L n = L x := by simp [fL_, k12, ex, nI_clamp (show x < 2 ^ 31 by have := hW.1; omega)]
    rw [hf, ex, gd_in (show vp_in (nI x) 80 from vp_in_nI (by have := hW.1; omega) (by omega)), nI_clamp (show x < 2 ^ 31 by have := hW.1; omega), hM x hx]
  by_cases k13 : kd n = 13
  · rw [k13]
    rw [if_neg (show ¬ nI 13 = (4 : Int32) by decide), if_neg (show ¬ nI 13 = (5 : Int32) by decide), if_neg (show ¬ nI 13 = (6 : Int32) by decide), if_neg (show ¬ nI 13 = (7 : Int32) by decide), if_neg (show ¬ nI 13 = (8 : Int32) by decide), if_neg (show ¬ nI 13 = (9 : Int32) by decide), if_neg (show ¬ nI 13 = (10 : Int32) by decide), if_neg (show ¬ nI 13 = (11 : Int32) by decide), if_neg (show ¬ nI 13 = (12 : Int32) by decide)]
    simp [fL_, k13]
  omega
end GRAM
