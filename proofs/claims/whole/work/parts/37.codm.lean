/-! the code of a grammar with no fault is what the machine wants of it -/
section CODM
variable {σ : MZ_} {g : Nat} {kd : Nat → Nat} {ga gb gc : Nat → Int32} {hg : Nat → Nat} {bo : Nat → Option Nat}
theorem cl_600 (t : Nat) (ht : t ≤ 600) : (nI t).toNatClampNeg = t := nI_clamp (by omega)
theorem cl_2 : (2 : Int32).toNatClampNeg = 2 := cl_600 2 (by omega)
theorem cl_3 : (3 : Int32).toNatClampNeg = 3 := cl_600 3 (by omega)
theorem cl_4 : (4 : Int32).toNatClampNeg = 4 := cl_600 4 (by omega)
theorem cl_5 : (5 : Int32).toNatClampNeg = 5 := cl_600 5 (by omega)
theorem wm_k0 {cd : Nat → Nat × Int32 × Int32} {en pc : Nat → Nat} {E : Nat → Bool} {I : Nat → Prop} (hW : WF_ g kd ga gb gc hg bo) (hI : ∀ n, I n → n < g) (hP : ∀ n, I n → (h1_ (kd n) = true → I (ga n).toNatClampNeg) ∧ (h2_ (kd n) = true → I (gb n).toNatClampNeg)) (hB : ∀ r b, r < 6 → bo r = some b → I b) (hpc : ∀ n, n < g → pc n + 6 ≤ 561) (hcd : ∀ n, I n → ∀ k a, (pe_ kd ga gb gc pc n)[k]? = some a → cd (pc n + k) = a) (hE : ∀ n, n < g → E n = fE_ kd ga gb bo E n) (hN : ∀ n, I n → kd n = 11 → bo (ga n).toNatClampNeg ≠ none) (hR : ∀ n, I n → rd_ kd ga gb E n = false) (hen : ∀ r b, r < 6 → bo r = some b → en r = pc b) {n : Nat} (hn : I n) (k0 : kd n = 0) : (kd n = 0 ∧ E n = true ∧ cd (pc n) = (1, ga n, 0) ∧ cd (pc n + 1) = (6, 0, 0)) := by
  have hg80 := hW.1
  have hng := hI n hn
  have hpn := hpc n hng
  obtain ⟨i1, i2⟩ := hP n hn
  have cdn := hcd n hn
  have em := hE n hng
  have rr := hR n hn
  have nn := hN n hn
  obtain ⟨g1, ⟨gh, gh8⟩, -, g4, g5, -, -, g8, -⟩ := hW.2.1 n hng
  clear hcd hE hR hN
  have hp : pe_ kd ga gb gc pc n = [(1, ga n, 0), (6, 0, 0)] := by unfold pe_; rw [if_pos k0]
  rw [hp] at cdn
  have em2 : E n = true := by rw [em]; simp [fE_, k0]
  exact ⟨k0, em2, cdn 0 _ rfl, cdn 1 _ rfl⟩
theorem wm_k1 {cd : Nat → Nat × Int32 × Int32} {en pc : Nat → Nat} {E : Nat → Bool} {I : Nat → Prop} (hW : WF_ g kd ga gb gc hg bo) (hI : ∀ n, I n → n < g) (hP : ∀ n, I n → (h1_ (kd n) = true → I (ga n).toNatClampNeg) ∧ (h2_ (kd n) = true → I (gb n).toNatClampNeg)) (hB : ∀ r b, r < 6 → bo r = some b → I b) (hpc : ∀ n, n < g → pc n + 6 ≤ 561) (hcd : ∀ n, I n → ∀ k a, (pe_ kd ga gb gc pc n)[k]? = some a → cd (pc n + k) = a) (hE : ∀ n, n < g → E n = fE_ kd ga gb bo E n) (hN : ∀ n, I n → kd n = 11 → bo (ga n).toNatClampNeg ≠ none) (hR : ∀ n, I n → rd_ kd ga gb E n = false) (hen : ∀ r b, r < 6 → bo r = some b → en r = pc b) {n : Nat} (hn : I n) (k1 : kd n = 1) : (kd n = 1 ∧ cd (pc n) = (2, ga n, ga n) ∧ cd (pc n + 1) = (6, 0, 0)) := by
  have hg80 := hW.1
  have hng := hI n hn
  have hpn := hpc n hng
  obtain ⟨i1, i2⟩ := hP n hn
  have cdn := hcd n hn
  have em := hE n hng
  have rr := hR n hn
  have nn := hN n hn
  obtain ⟨g1, ⟨gh, gh8⟩, -, g4, g5, -, -, g8, -⟩ := hW.2.1 n hng
  clear hcd hE hR hN
  have hp : pe_ kd ga gb gc pc n = [(2, ga n, ga n), (6, 0, 0)] := by unfold pe_; rw [if_neg (show ¬ kd n = 0 by omega), if_pos k1]
  rw [hp] at cdn
  exact ⟨k1, cdn 0 _ rfl, cdn 1 _ rfl⟩
theorem wm_k2 {cd : Nat → Nat × Int32 × Int32} {en pc : Nat → Nat} {E : Nat → Bool} {I : Nat → Prop} (hW : WF_ g kd ga gb gc hg bo) (hI : ∀ n, I n → n < g) (hP : ∀ n, I n → (h1_ (kd n) = true → I (ga n).toNatClampNeg) ∧ (h2_ (kd n) = true → I (gb n).toNatClampNeg)) (hB : ∀ r b, r < 6 → bo r = some b → I b) (hpc : ∀ n, n < g → pc n + 6 ≤ 561) (hcd : ∀ n, I n → ∀ k a, (pe_ kd ga gb gc pc n)[k]? = some a → cd (pc n + k) = a) (hE : ∀ n, n < g → E n = fE_ kd ga gb bo E n) (hN : ∀ n, I n → kd n = 11 → bo (ga n).toNatClampNeg ≠ none) (hR : ∀ n, I n → rd_ kd ga gb E n = false) (hen : ∀ r b, r < 6 → bo r = some b → en r = pc b) {n : Nat} (hn : I n) (k2 : kd n = 2) : (kd n = 2 ∧ cd (pc n) = (2, ga n, gb n) ∧ cd (pc n + 1) = (6, 0, 0)) := by
  have hg80 := hW.1
  have hng := hI n hn
  have hpn := hpc n hng
  obtain ⟨i1, i2⟩ := hP n hn
  have cdn := hcd n hn
  have em := hE n hng
  have rr := hR n hn
  have nn := hN n hn
  obtain ⟨g1, ⟨gh, gh8⟩, -, g4, g5, -, -, g8, -⟩ := hW.2.1 n hng
  clear hcd hE hR hN
  have hp : pe_ kd ga gb gc pc n = [(2, ga n, gb n), (6, 0, 0)] := by unfold pe_; rw [if_neg (show ¬ kd n = 0 by omega), if_neg (show ¬ kd n = 1 by omega), if_pos k2]
  rw [hp] at cdn
  exact ⟨k2, cdn 0 _ rfl, cdn 1 _ rfl⟩
theorem wm_k3 {cd : Nat → Nat × Int32 × Int32} {en pc : Nat → Nat} {E : Nat → Bool} {I : Nat → Prop} (hW : WF_ g kd ga gb gc hg bo) (hI : ∀ n, I n → n < g) (hP : ∀ n, I n → (h1_ (kd n) = true → I (ga n).toNatClampNeg) ∧ (h2_ (kd n) = true → I (gb n).toNatClampNeg)) (hB : ∀ r b, r < 6 → bo r = some b → I b) (hpc : ∀ n, n < g → pc n + 6 ≤ 561) (hcd : ∀ n, I n → ∀ k a, (pe_ kd ga gb gc pc n)[k]? = some a → cd (pc n + k) = a) (hE : ∀ n, n < g → E n = fE_ kd ga gb bo E n) (hN : ∀ n, I n → kd n = 11 → bo (ga n).toNatClampNeg ≠ none) (hR : ∀ n, I n → rd_ kd ga gb E n = false) (hen : ∀ r b, r < 6 → bo r = some b → en r = pc b) {n : Nat} (hn : I n) (k3 : kd n = 3) : (kd n = 3 ∧ cd (pc n) = (3, 0, 0)) := by
  have hg80 := hW.1
  have hng := hI n hn
  have hpn := hpc n hng
  obtain ⟨i1, i2⟩ := hP n hn
  have cdn := hcd n hn
  have em := hE n hng
  have rr := hR n hn
  have nn := hN n hn
  obtain ⟨g1, ⟨gh, gh8⟩, -, g4, g5, -, -, g8, -⟩ := hW.2.1 n hng
  clear hcd hE hR hN
  have hp : pe_ kd ga gb gc pc n = [(3, 0, 0), (6, 0, 0)] := by unfold pe_; rw [if_neg (show ¬ kd n = 0 by omega), if_neg (show ¬ kd n = 1 by omega), if_neg (show ¬ kd n = 2 by omega), if_pos k3]
  rw [hp] at cdn
  exact ⟨k3, cdn 0 _ rfl⟩
theorem wm_k4 {cd : Nat → Nat × Int32 × Int32} {en pc : Nat → Nat} {E : Nat → Bool} {I : Nat → Prop} (hW : WF_ g kd ga gb gc hg bo) (hI : ∀ n, I n → n < g) (hP : ∀ n, I n → (h1_ (kd n) = true → I (ga n).toNatClampNeg) ∧ (h2_ (kd n) = true → I (gb n).toNatClampNeg)) (hB : ∀ r b, r < 6 → bo r = some b → I b) (hpc : ∀ n, n < g → pc n + 6 ≤ 561) (hcd : ∀ n, I n → ∀ k a, (pe_ kd ga gb gc pc n)[k]? = some a → cd (pc n + k) = a) (hE : ∀ n, n < g → E n = fE_ kd ga gb bo E n) (hN : ∀ n, I n → kd n = 11 → bo (ga n).toNatClampNeg ≠ none) (hR : ∀ n, I n → rd_ kd ga gb E n = false) (hen : ∀ r b, r < 6 → bo r = some b → en r = pc b) {n : Nat} (hn : I n) (k4 : kd n = 4) : (kd n = 4 ∧ ∃ x y, I x ∧ I y ∧ (ga n).toNatClampNeg = x ∧ (gb n).toNatClampNeg = y ∧ hg x + 1 ≤ hg n ∧ hg y + 1 ≤ hg n ∧ (E x = true → E y = true → E n = true) ∧ ∃ a0 a1, cd (pc n) = (4, a0, 0) ∧ a0.toNatClampNeg = pc x ∧ cd (pc n + 1) = (4, a1, 0) ∧ a1.toNatClampNeg = pc y ∧ cd (pc n + 2) = (7, gc n, 0) ∧ cd (pc n + 3) = (6, 0, 0)) := by
  have hg80 := hW.1
  have hng := hI n hn
  have hpn := hpc n hng
  obtain ⟨i1, i2⟩ := hP n hn
  have cdn := hcd n hn
  have em := hE n hng
  have rr := hR n hn
  have nn := hN n hn
  obtain ⟨g1, ⟨gh, gh8⟩, -, g4, g5, -, -, g8, -⟩ := hW.2.1 n hng
  clear hcd hE hR hN
  obtain ⟨x, hx, ex, hhx⟩ := g4 (by omega)
  have hxl := hpc x (by omega)
  have ecx : (ga n).toNatClampNeg = x := by rw [ex]; exact cl_600 x (by omega)
  have j1 := i1 (by rw [k4]; rfl)
  rw [ecx] at j1
  obtain ⟨y, hy, ey, hhy⟩ := g5 (by omega)
  have hyl := hpc y (by omega)
  have ecy : (gb n).toNatClampNeg = y := by rw [ey]; exact cl_600 y (by omega)
  have j2 := i2 (by rw [k4]; rfl)
  rw [ecy] at j2
  have hp : pe_ kd ga gb gc pc n = [(4, nI (pc x), 0), (4, nI (pc y), 0), (7, gc n, 0), (6, 0, 0)] := by unfold pe_; rw [if_neg (show ¬ kd n = 0 by omega), if_neg (show ¬ kd n = 1 by omega), if_neg (show ¬ kd n = 2 by omega), if_neg (show ¬ kd n = 3 by omega), if_pos k4, ecx, ecy]
  rw [hp] at cdn
  have em2 : E n = (E x && E y) := by rw [em]; simp [fE_, k4, ecx, ecy]
  exact ⟨k4, x, y, j1, j2, ecx, ecy, hhx, hhy, fun a b => by rw [em2, a, b]; rfl, _, _, cdn 0 _ rfl, cl_600 _ (by omega), cdn 1 _ rfl, cl_600 _ (by omega), cdn 2 _ rfl, cdn 3 _ rfl⟩
theorem wm_k5 {cd : Nat → Nat × Int32 × Int32} {en pc : Nat → Nat} {E : Nat → Bool} {I : Nat → Prop} (hW : WF_ g kd ga gb gc hg bo) (hI : ∀ n, I n → n < g) (hP : ∀ n, I n → (h1_ (kd n) = true → I (ga n).toNatClampNeg) ∧ (h2_ (kd n) = true → I (gb n).toNatClampNeg)) (hB : ∀ r b, r < 6 → bo r = some b → I b) (hpc : ∀ n, n < g → pc n + 6 ≤ 561) (hcd : ∀ n, I n → ∀ k a, (pe_ kd ga gb gc pc n)[k]? = some a → cd (pc n + k) = a) (hE : ∀ n, n < g → E n = fE_ kd ga gb bo E n) (hN : ∀ n, I n → kd n = 11 → bo (ga n).toNatClampNeg ≠ none) (hR : ∀ n, I n → rd_ kd ga gb E n = false) (hen : ∀ r b, r < 6 → bo r = some b → en r = pc b) {n : Nat} (hn : I n) (k5 : kd n = 5) : (kd n = 5 ∧ ∃ x y, I x ∧ I y ∧ (ga n).toNatClampNeg = x ∧ (gb n).toNatClampNeg = y ∧ hg x + 1 ≤ hg n ∧ hg y + 1 ≤ hg n ∧ (E x = true → E n = true) ∧ (E y = true → E n = true) ∧ ∃ a0 b0 a1 a4, cd (pc n) = (9, a0, b0) ∧ a0.toNatClampNeg = 2 ∧ b0.toNatClampNeg = pc n + 4 ∧ cd (pc n + 1) = (4, a1, 0) ∧ a1.toNatClampNeg = pc x ∧ cd (pc n + 2) = (10, 0, 0) ∧ cd (pc n + 3) = (6, 0, 0) ∧ cd (pc n + 4) = (4, a4, 0) ∧ a4.toNatClampNeg = pc y ∧ cd (pc n + 5) = (6, 0, 0)) := by
  have hg80 := hW.1
  have hng := hI n hn
  have hpn := hpc n hng
  obtain ⟨i1, i2⟩ := hP n hn
  have cdn := hcd n hn
  have em := hE n hng
  have rr := hR n hn
  have nn := hN n hn
  obtain ⟨g1, ⟨gh, gh8⟩, -, g4, g5, -, -, g8, -⟩ := hW.2.1 n hng
  clear hcd hE hR hN
  obtain ⟨x, hx, ex, hhx⟩ := g4 (by omega)
  have hxl := hpc x (by omega)
  have ecx : (ga n).toNatClampNeg = x := by rw [ex]; exact cl_600 x (by omega)
  have j1 := i1 (by rw [k5]; rfl)
  rw [ecx] at j1
  obtain ⟨y, hy, ey, hhy⟩ := g5 (by omega)
  have hyl := hpc y (by omega)
  have ecy : (gb n).toNatClampNeg = y := by rw [ey]; exact cl_600 y (by omega)
  have j2 := i2 (by rw [k5]; rfl)
  rw [ecy] at j2
  have hp : pe_ kd ga gb gc pc n = [(9, 2, nI (pc n + 4)), (4, nI (pc x), 0), (10, 0, 0), (6, 0, 0), (4, nI (pc y), 0), (6, 0, 0)] := by unfold pe_; rw [if_neg (show ¬ kd n = 0 by omega), if_neg (show ¬ kd n = 1 by omega), if_neg (show ¬ kd n = 2 by omega), if_neg (show ¬ kd n = 3 by omega), if_neg (show ¬ kd n = 4 by omega), if_pos k5, ecx, ecy]
  rw [hp] at cdn
  have em2 : E n = (E x || E y) := by rw [em]; simp [fE_, k5, ecx, ecy]
  exact ⟨k5, x, y, j1, j2, ecx, ecy, hhx, hhy, fun a => by rw [em2, a]; rfl, fun b => by rw [em2, b, Bool.or_true], _, _, _, _, cdn 0 _ rfl, cl_2, cl_600 _ (by omega), cdn 1 _ rfl, cl_600 _ (by omega), cdn 2 _ rfl, cdn 3 _ rfl, cdn 4 _ rfl, cl_600 _ (by omega), cdn 5 _ rfl⟩
theorem wm_k6 {cd : Nat → Nat × Int32 × Int32} {en pc : Nat → Nat} {E : Nat → Bool} {I : Nat → Prop} (hW : WF_ g kd ga gb gc hg bo) (hI : ∀ n, I n → n < g) (hP : ∀ n, I n → (h1_ (kd n) = true → I (ga n).toNatClampNeg) ∧ (h2_ (kd n) = true → I (gb n).toNatClampNeg)) (hB : ∀ r b, r < 6 → bo r = some b → I b) (hpc : ∀ n, n < g → pc n + 6 ≤ 561) (hcd : ∀ n, I n → ∀ k a, (pe_ kd ga gb gc pc n)[k]? = some a → cd (pc n + k) = a) (hE : ∀ n, n < g → E n = fE_ kd ga gb bo E n) (hN : ∀ n, I n → kd n = 11 → bo (ga n).toNatClampNeg ≠ none) (hR : ∀ n, I n → rd_ kd ga gb E n = false) (hen : ∀ r b, r < 6 → bo r = some b → en r = pc b) {n : Nat} (hn : I n) (k6 : kd n = 6) : (kd n = 6 ∧ ∃ x, I x ∧ (ga n).toNatClampNeg = x ∧ hg x + 1 ≤ hg n ∧ (E x = true → E n = true) ∧ ∃ a0 b0 a1, cd (pc n) = (9, a0, b0) ∧ a0.toNatClampNeg = 3 ∧ cd (pc n + 1) = (4, a1, 0) ∧ a1.toNatClampNeg = pc x ∧ cd (pc n + 2) = (10, 0, 0) ∧ cd (pc n + 3) = (6, 0, 0)) := by
  have hg80 := hW.1
  have hng := hI n hn
  have hpn := hpc n hng
  obtain ⟨i1, i2⟩ := hP n hn
  have cdn := hcd n hn
  have em := hE n hng
  have rr := hR n hn
  have nn := hN n hn
  obtain ⟨g1, ⟨gh, gh8⟩, -, g4, g5, -, -, g8, -⟩ := hW.2.1 n hng
  clear hcd hE hR hN
  obtain ⟨x, hx, ex, hhx⟩ := g4 (by omega)
  have hxl := hpc x (by omega)
  have ecx : (ga n).toNatClampNeg = x := by rw [ex]; exact cl_600 x (by omega)
  have j1 := i1 (by rw [k6]; rfl)
  rw [ecx] at j1
  have hp : pe_ kd ga gb gc pc n = [(9, 3, 0), (4, nI (pc x), 0), (10, 0, 0), (6, 0, 0)] := by unfold pe_; rw [if_neg (show ¬ kd n = 0 by omega), if_neg (show ¬ kd n = 1 by omega), if_neg (show ¬ kd n = 2 by omega), if_neg (show ¬ kd n = 3 by omega), if_neg (show ¬ kd n = 4 by omega), if_neg (show ¬ kd n = 5 by omega), if_pos k6, ecx]
  rw [hp] at cdn
  have em2 : E n = E x := by rw [em]; simp [fE_, k6, ecx]
  exact ⟨k6, x, j1, ecx, hhx, fun a => by rw [em2, a], _, _, _, cdn 0 _ rfl, cl_3, cdn 1 _ rfl, cl_600 _ (by omega), cdn 2 _ rfl, cdn 3 _ rfl⟩
theorem wm_k7 {cd : Nat → Nat × Int32 × Int32} {en pc : Nat → Nat} {E : Nat → Bool} {I : Nat → Prop} (hW : WF_ g kd ga gb gc hg bo) (hI : ∀ n, I n → n < g) (hP : ∀ n, I n → (h1_ (kd n) = true → I (ga n).toNatClampNeg) ∧ (h2_ (kd n) = true → I (gb n).toNatClampNeg)) (hB : ∀ r b, r < 6 → bo r = some b → I b) (hpc : ∀ n, n < g → pc n + 6 ≤ 561) (hcd : ∀ n, I n → ∀ k a, (pe_ kd ga gb gc pc n)[k]? = some a → cd (pc n + k) = a) (hE : ∀ n, n < g → E n = fE_ kd ga gb bo E n) (hN : ∀ n, I n → kd n = 11 → bo (ga n).toNatClampNeg ≠ none) (hR : ∀ n, I n → rd_ kd ga gb E n = false) (hen : ∀ r b, r < 6 → bo r = some b → en r = pc b) {n : Nat} (hn : I n) (k7 : kd n = 7) : (kd n = 7 ∧ E n = true ∧ ∃ x, I x ∧ (ga n).toNatClampNeg = x ∧ hg x + 1 ≤ hg n ∧ ∃ a0 b0 a1, cd (pc n) = (9, a0, b0) ∧ a0.toNatClampNeg = 4 ∧ cd (pc n + 1) = (4, a1, 0) ∧ a1.toNatClampNeg = pc x ∧ cd (pc n + 2) = (11, 0, 0) ∧ cd (pc n + 3) = (6, 0, 0)) := by
  have hg80 := hW.1
  have hng := hI n hn
  have hpn := hpc n hng
  obtain ⟨i1, i2⟩ := hP n hn
  have cdn := hcd n hn
  have em := hE n hng
  have rr := hR n hn
  have nn := hN n hn
  obtain ⟨g1, ⟨gh, gh8⟩, -, g4, g5, -, -, g8, -⟩ := hW.2.1 n hng
  clear hcd hE hR hN
  obtain ⟨x, hx, ex, hhx⟩ := g4 (by omega)
  have hxl := hpc x (by omega)
  have ecx : (ga n).toNatClampNeg = x := by rw [ex]; exact cl_600 x (by omega)
  have j1 := i1 (by rw [k7]; rfl)
  rw [ecx] at j1
  have hp : pe_ kd ga gb gc pc n = [(9, 4, 0), (4, nI (pc x), 0), (11, 0, 0), (6, 0, 0)] := by unfold pe_; rw [if_neg (show ¬ kd n = 0 by omega), if_neg (show ¬ kd n = 1 by omega), if_neg (show ¬ kd n = 2 by omega), if_neg (show ¬ kd n = 3 by omega), if_neg (show ¬ kd n = 4 by omega), if_neg (show ¬ kd n = 5 by omega), if_neg (show ¬ kd n = 6 by omega), if_pos k7, ecx]
  rw [hp] at cdn
  have em2 : E n = true := by rw [em]; simp [fE_, k7]
  exact ⟨k7, em2, x, j1, ecx, hhx, _, _, _, cdn 0 _ rfl, cl_4, cdn 1 _ rfl, cl_600 _ (by omega), cdn 2 _ rfl, cdn 3 _ rfl⟩
theorem wm_k8 {cd : Nat → Nat × Int32 × Int32} {en pc : Nat → Nat} {E : Nat → Bool} {I : Nat → Prop} (hW : WF_ g kd ga gb gc hg bo) (hI : ∀ n, I n → n < g) (hP : ∀ n, I n → (h1_ (kd n) = true → I (ga n).toNatClampNeg) ∧ (h2_ (kd n) = true → I (gb n).toNatClampNeg)) (hB : ∀ r b, r < 6 → bo r = some b → I b) (hpc : ∀ n, n < g → pc n + 6 ≤ 561) (hcd : ∀ n, I n → ∀ k a, (pe_ kd ga gb gc pc n)[k]? = some a → cd (pc n + k) = a) (hE : ∀ n, n < g → E n = fE_ kd ga gb bo E n) (hN : ∀ n, I n → kd n = 11 → bo (ga n).toNatClampNeg ≠ none) (hR : ∀ n, I n → rd_ kd ga gb E n = false) (hen : ∀ r b, r < 6 → bo r = some b → en r = pc b) {n : Nat} (hn : I n) (k8 : kd n = 8) : (kd n = 8 ∧ E n = true ∧ ∃ x, I x ∧ (ga n).toNatClampNeg = x ∧ hg x + 1 ≤ hg n ∧ ∃ a0 b0 a1, cd (pc n) = (9, a0, b0) ∧ a0.toNatClampNeg = 5 ∧ b0.toNatClampNeg = pc n + 4 ∧ cd (pc n + 1) = (4, a1, 0) ∧ a1.toNatClampNeg = pc x ∧ cd (pc n + 2) = (11, 0, 0) ∧ cd (pc n + 3) = (3, 0, 0) ∧ cd (pc n + 4) = (1, 0, 0) ∧ cd (pc n + 5) = (6, 0, 0)) := by
  have hg80 := hW.1
  have hng := hI n hn
  have hpn := hpc n hng
  obtain ⟨i1, i2⟩ := hP n hn
  have cdn := hcd n hn
  have em := hE n hng
  have rr := hR n hn
  have nn := hN n hn
  obtain ⟨g1, ⟨gh, gh8⟩, -, g4, g5, -, -, g8, -⟩ := hW.2.1 n hng
  clear hcd hE hR hN
  obtain ⟨x, hx, ex, hhx⟩ := g4 (by omega)
  have hxl := hpc x (by omega)
  have ecx : (ga n).toNatClampNeg = x := by rw [ex]; exact cl_600 x (by omega)
  have j1 := i1 (by rw [k8]; rfl)
  rw [ecx] at j1
  have hp : pe_ kd ga gb gc pc n = [(9, 5, nI (pc n + 4)), (4, nI (pc x), 0), (11, 0, 0), (3, 0, 0), (1, 0, 0), (6, 0, 0)] := by unfold pe_; rw [if_neg (show ¬ kd n = 0 by omega), if_neg (show ¬ kd n = 1 by omega), if_neg (show ¬ kd n = 2 by omega), if_neg (show ¬ kd n = 3 by omega), if_neg (show ¬ kd n = 4 by omega), if_neg (show ¬ kd n = 5 by omega), if_neg (show ¬ kd n = 6 by omega), if_neg (show ¬ kd n = 7 by omega), if_pos k8, ecx]
  rw [hp] at cdn
  have em2 : E n = true := by rw [em]; simp [fE_, k8]
  exact ⟨k8, em2, x, j1, ecx, hhx, _, _, _, cdn 0 _ rfl, cl_5, cl_600 _ (by omega), cdn 1 _ rfl, cl_600 _ (by omega), cdn 2 _ rfl, cdn 3 _ rfl, cdn 4 _ rfl, cdn 5 _ rfl⟩
theorem wm_k9 {cd : Nat → Nat × Int32 × Int32} {en pc : Nat → Nat} {E : Nat → Bool} {I : Nat → Prop} (hW : WF_ g kd ga gb gc hg bo) (hI : ∀ n, I n → n < g) (hP : ∀ n, I n → (h1_ (kd n) = true → I (ga n).toNatClampNeg) ∧ (h2_ (kd n) = true → I (gb n).toNatClampNeg)) (hB : ∀ r b, r < 6 → bo r = some b → I b) (hpc : ∀ n, n < g → pc n + 6 ≤ 561) (hcd : ∀ n, I n → ∀ k a, (pe_ kd ga gb gc pc n)[k]? = some a → cd (pc n + k) = a) (hE : ∀ n, n < g → E n = fE_ kd ga gb bo E n) (hN : ∀ n, I n → kd n = 11 → bo (ga n).toNatClampNeg ≠ none) (hR : ∀ n, I n → rd_ kd ga gb E n = false) (hen : ∀ r b, r < 6 → bo r = some b → en r = pc b) {n : Nat} (hn : I n) (k9 : kd n = 9) : (kd n = 9 ∧ E n = true ∧ ∃ x, I x ∧ (ga n).toNatClampNeg = x ∧ hg x + 1 ≤ hg n ∧ E x = false ∧ ∃ a1 b1 a2 a4, cd (pc n) = (1, 0, 0) ∧ cd (pc n + 1) = (9, a1, b1) ∧ a1.toNatClampNeg = 2 ∧ b1.toNatClampNeg = pc n + 5 ∧ cd (pc n + 2) = (4, a2, 0) ∧ a2.toNatClampNeg = pc x ∧ cd (pc n + 3) = (7, gb n, 0) ∧ cd (pc n + 4) = (12, a4, 0) ∧ a4.toNatClampNeg = pc n + 2 ∧ cd (pc n + 5) = (6, 0, 0)) := by
  have hg80 := hW.1
  have hng := hI n hn
  have hpn := hpc n hng
  obtain ⟨i1, i2⟩ := hP n hn
  have cdn := hcd n hn
  have em := hE n hng
  have rr := hR n hn
  have nn := hN n hn
  obtain ⟨g1, ⟨gh, gh8⟩, -, g4, g5, -, -, g8, -⟩ := hW.2.1 n hng
  clear hcd hE hR hN
  obtain ⟨x, hx, ex, hhx⟩ := g4 (by omega)
  have hxl := hpc x (by omega)
  have ecx : (ga n).toNatClampNeg = x := by rw [ex]; exact cl_600 x (by omega)
  have j1 := i1 (by rw [k9]; rfl)
  rw [ecx] at j1
  have hp : pe_ kd ga gb gc pc n = [(1, 0, 0), (9, 2, nI (pc n + 5)), (4, nI (pc x), 0), (7, gb n, 0), (12, nI (pc n + 2), 0), (6, 0, 0)] := by unfold pe_; rw [if_neg (show ¬ kd n = 0 by omega), if_neg (show ¬ kd n = 1 by omega), if_neg (show ¬ kd n = 2 by omega), if_neg (show ¬ kd n = 3 by omega), if_neg (show ¬ kd n = 4 by omega), if_neg (show ¬ kd n = 5 by omega), if_neg (show ¬ kd n = 6 by omega), if_neg (show ¬ kd n = 7 by omega), if_neg (show ¬ kd n = 8 by omega), if_pos k9, ecx]
  rw [hp] at cdn
  have em2 : E n = true := by rw [em]; simp [fE_, k9]
  have rx : E x = false := by simpa [rd_, k9, ecx] using rr
  exact ⟨k9, em2, x, j1, ecx, hhx, rx, _, _, _, _, cdn 0 _ rfl, cdn 1 _ rfl, cl_2, cl_600 _ (by omega), cdn 2 _ rfl, cl_600 _ (by omega), cdn 3 _ rfl, cdn 4 _ rfl, cl_600 _ (by omega), cdn 5 _ rfl⟩
theorem wm_k10 {cd : Nat → Nat × Int32 × Int32} {en pc : Nat → Nat} {E : Nat → Bool} {I : Nat → Prop} (hW : WF_ g kd ga gb gc hg bo) (hI : ∀ n, I n → n < g) (hP : ∀ n, I n → (h1_ (kd n) = true → I (ga n).toNatClampNeg) ∧ (h2_ (kd n) = true → I (gb n).toNatClampNeg)) (hB : ∀ r b, r < 6 → bo r = some b → I b) (hpc : ∀ n, n < g → pc n + 6 ≤ 561) (hcd : ∀ n, I n → ∀ k a, (pe_ kd ga gb gc pc n)[k]? = some a → cd (pc n + k) = a) (hE : ∀ n, n < g → E n = fE_ kd ga gb bo E n) (hN : ∀ n, I n → kd n = 11 → bo (ga n).toNatClampNeg ≠ none) (hR : ∀ n, I n → rd_ kd ga gb E n = false) (hen : ∀ r b, r < 6 → bo r = some b → en r = pc b) {n : Nat} (hn : I n) (k10 : kd n = 10) : (kd n = 10 ∧ ∃ x y, I x ∧ I y ∧ (ga n).toNatClampNeg = x ∧ (gb n).toNatClampNeg = y ∧ hg x + 1 ≤ hg n ∧ hg y + 1 ≤ hg n ∧ (E x = true → E n = true) ∧ ¬ (E x = true ∧ E y = true) ∧ ∃ a0 a1 b1 a2 a3 a5, cd (pc n) = (4, a0, 0) ∧ a0.toNatClampNeg = pc x ∧ cd (pc n + 1) = (9, a1, b1) ∧ a1.toNatClampNeg = 2 ∧ b1.toNatClampNeg = pc n + 6 ∧ cd (pc n + 2) = (4, a2, 0) ∧ a2.toNatClampNeg = pc y ∧ cd (pc n + 3) = (4, a3, 0) ∧ a3.toNatClampNeg = pc x ∧ cd (pc n + 4) = (8, 0, 0) ∧ cd (pc n + 5) = (12, a5, 0) ∧ a5.toNatClampNeg = pc n + 2 ∧ cd (pc n + 6) = (6, 0, 0)) := by
  have hg80 := hW.1
  have hng := hI n hn
  have hpn := hpc n hng
  obtain ⟨i1, i2⟩ := hP n hn
  have cdn := hcd n hn
  have em := hE n hng
  have rr := hR n hn
  have nn := hN n hn
  obtain ⟨g1, ⟨gh, gh8⟩, -, g4, g5, -, -, g8, -⟩ := hW.2.1 n hng
  clear hcd hE hR hN
  obtain ⟨x, hx, ex, hhx⟩ := g4 (by omega)
  have hxl := hpc x (by omega)
  have ecx : (ga n).toNatClampNeg = x := by rw [ex]; exact cl_600 x (by omega)
  have j1 := i1 (by rw [k10]; rfl)
  rw [ecx] at j1
  obtain ⟨y, hy, ey, hhy⟩ := g5 (by omega)
  have hyl := hpc y (by omega)
  have ecy : (gb n).toNatClampNeg = y := by rw [ey]; exact cl_600 y (by omega)
  have j2 := i2 (by rw [k10]; rfl)
  rw [ecy] at j2
  have hp : pe_ kd ga gb gc pc n = [(4, nI (pc x), 0), (9, 2, nI (pc n + 6)), (4, nI (pc y), 0), (4, nI (pc x), 0), (8, 0, 0), (12, nI (pc n + 2), 0), (6, 0, 0)] := by unfold pe_; rw [if_neg (show ¬ kd n = 0 by omega), if_neg (show ¬ kd n = 1 by omega), if_neg (show ¬ kd n = 2 by omega), if_neg (show ¬ kd n = 3 by omega), if_neg (show ¬ kd n = 4 by omega), if_neg (show ¬ kd n = 5 by omega), if_neg (show ¬ kd n = 6 by omega), if_neg (show ¬ kd n = 7 by omega), if_neg (show ¬ kd n = 8 by omega), if_neg (show ¬ kd n = 9 by omega), if_pos k10, ecx, ecy]
  rw [hp] at cdn
  have em2 : E n = E x := by rw [em]; simp [fE_, k10, ecx]
  have rx : ¬ (E x = true ∧ E y = true) := fun a => by simp [rd_, k10, ecx, ecy, a.1, a.2] at rr
  exact ⟨k10, x, y, j1, j2, ecx, ecy, hhx, hhy, fun a => by rw [em2, a], rx, _, _, _, _, _, _, cdn 0 _ rfl, cl_600 _ (by omega), cdn 1 _ rfl, cl_2, cl_600 _ (by omega), cdn 2 _ rfl, cl_600 _ (by omega), cdn 3 _ rfl, cl_600 _ (by omega), cdn 4 _ rfl, cdn 5 _ rfl, cl_600 _ (by omega), cdn 6 _ rfl⟩
theorem wm_k11 {cd : Nat → Nat × Int32 × Int32} {en pc : Nat → Nat} {E : Nat → Bool} {I : Nat → Prop} (hW : WF_ g kd ga gb gc hg bo) (hI : ∀ n, I n → n < g) (hP : ∀ n, I n → (h1_ (kd n) = true → I (ga n).toNatClampNeg) ∧ (h2_ (kd n) = true → I (gb n).toNatClampNeg)) (hB : ∀ r b, r < 6 → bo r = some b → I b) (hpc : ∀ n, n < g → pc n + 6 ≤ 561) (hcd : ∀ n, I n → ∀ k a, (pe_ kd ga gb gc pc n)[k]? = some a → cd (pc n + k) = a) (hE : ∀ n, n < g → E n = fE_ kd ga gb bo E n) (hN : ∀ n, I n → kd n = 11 → bo (ga n).toNatClampNeg ≠ none) (hR : ∀ n, I n → rd_ kd ga gb E n = false) (hen : ∀ r b, r < 6 → bo r = some b → en r = pc b) {n : Nat} (hn : I n) (k11 : kd n = 11) : (kd n = 11 ∧ ∃ b, I b ∧ (fun r => (bo r).getD 0) (ga n).toNatClampNeg = b ∧ (E b = true → E n = true) ∧ cd (pc n) = (5, ga n, 0) ∧ en (ga n).toNatClampNeg = pc b ∧ cd (pc n + 1) = (6, 0, 0)) := by
  have hg80 := hW.1
  have hng := hI n hn
  have hpn := hpc n hng
  obtain ⟨i1, i2⟩ := hP n hn
  have cdn := hcd n hn
  have em := hE n hng
  have rr := hR n hn
  have nn := hN n hn
  obtain ⟨g1, ⟨gh, gh8⟩, -, g4, g5, -, -, g8, -⟩ := hW.2.1 n hng
  clear hcd hE hR hN
  obtain ⟨r, hr, er⟩ := g8 k11
  have ecr : (ga n).toNatClampNeg = r := by rw [er]; exact cl_600 r (by omega)
  have hp : pe_ kd ga gb gc pc n = [(5, ga n, 0), (6, 0, 0)] := by unfold pe_; rw [if_neg (show ¬ kd n = 0 by omega), if_neg (show ¬ kd n = 1 by omega), if_neg (show ¬ kd n = 2 by omega), if_neg (show ¬ kd n = 3 by omega), if_neg (show ¬ kd n = 4 by omega), if_neg (show ¬ kd n = 5 by omega), if_neg (show ¬ kd n = 6 by omega), if_neg (show ¬ kd n = 7 by omega), if_neg (show ¬ kd n = 8 by omega), if_neg (show ¬ kd n = 9 by omega), if_neg (show ¬ kd n = 10 by omega), if_pos k11]
  rw [hp] at cdn
  have em2 : E n = sb_ bo E r := by rw [em]; simp [fE_, k11, ecr]
  rw [ecr] at nn
  obtain ⟨b, hb⟩ : ∃ b, bo r = some b := Option.ne_none_iff_exists'.mp (nn k11)
  have e3 : sb_ bo E r = E b := by unfold sb_; rw [hb]
  exact ⟨k11, b, hB r b hr hb, by rw [ecr]; show (bo r).getD 0 = b; rw [hb]; rfl, fun a => by rw [em2, e3, a], cdn 0 _ rfl, by rw [ecr]; exact hen r b hr hb, cdn 1 _ rfl⟩
theorem wm_k12 {cd : Nat → Nat × Int32 × Int32} {en pc : Nat → Nat} {E : Nat → Bool} {I : Nat → Prop} (hW : WF_ g kd ga gb gc hg bo) (hI : ∀ n, I n → n < g) (hP : ∀ n, I n → (h1_ (kd n) = true → I (ga n).toNatClampNeg) ∧ (h2_ (kd n) = true → I (gb n).toNatClampNeg)) (hB : ∀ r b, r < 6 → bo r = some b → I b) (hpc : ∀ n, n < g → pc n + 6 ≤ 561) (hcd : ∀ n, I n → ∀ k a, (pe_ kd ga gb gc pc n)[k]? = some a → cd (pc n + k) = a) (hE : ∀ n, n < g → E n = fE_ kd ga gb bo E n) (hN : ∀ n, I n → kd n = 11 → bo (ga n).toNatClampNeg ≠ none) (hR : ∀ n, I n → rd_ kd ga gb E n = false) (hen : ∀ r b, r < 6 → bo r = some b → en r = pc b) {n : Nat} (hn : I n) (k12 : kd n = 12) : (kd n = 12 ∧ ∃ x, I x ∧ (ga n).toNatClampNeg = x ∧ hg x + 1 ≤ hg n ∧ (E x = true → E n = true) ∧ ∃ a0, cd (pc n) = (4, a0, 0) ∧ a0.toNatClampNeg = pc x ∧ cd (pc n + 1) = (13, gb n, 0) ∧ cd (pc n + 2) = (6, 0, 0)) := by
  have hg80 := hW.1
  have hng := hI n hn
  have hpn := hpc n hng
  obtain ⟨i1, i2⟩ := hP n hn
  have cdn := hcd n hn
  have em := hE n hng
  have rr := hR n hn
  have nn := hN n hn
  obtain ⟨g1, ⟨gh, gh8⟩, -, g4, g5, -, -, g8, -⟩ := hW.2.1 n hng
  clear hcd hE hR hN
  obtain ⟨x, hx, ex, hhx⟩ := g4 (by omega)
  have hxl := hpc x (by omega)
  have ecx : (ga n).toNatClampNeg = x := by rw [ex]; exact cl_600 x (by omega)
  have j1 := i1 (by rw [k12]; rfl)
  rw [ecx] at j1
  have hp : pe_ kd ga gb gc pc n = [(4, nI (pc x), 0), (13, gb n, 0), (6, 0, 0)] := by unfold pe_; rw [if_neg (show ¬ kd n = 0 by omega), if_neg (show ¬ kd n = 1 by omega), if_neg (show ¬ kd n = 2 by omega), if_neg (show ¬ kd n = 3 by omega), if_neg (show ¬ kd n = 4 by omega), if_neg (show ¬ kd n = 5 by omega), if_neg (show ¬ kd n = 6 by omega), if_neg (show ¬ kd n = 7 by omega), if_neg (show ¬ kd n = 8 by omega), if_neg (show ¬ kd n = 9 by omega), if_neg (show ¬ kd n = 10 by omega), if_neg (show ¬ kd n = 11 by omega), if_pos k12, ecx]
  rw [hp] at cdn
  have em2 : E n = E x := by rw [em]; simp [fE_, k12, ecx]
  exact ⟨k12, x, j1, ecx, hhx, fun a => by rw [em2, a], _, cdn 0 _ rfl, cl_600 _ (by omega), cdn 1 _ rfl, cdn 2 _ rfl⟩
theorem wm_k13 {cd : Nat → Nat × Int32 × Int32} {en pc : Nat → Nat} {E : Nat → Bool} {I : Nat → Prop} (hW : WF_ g kd ga gb gc hg bo) (hI : ∀ n, I n → n < g) (hP : ∀ n, I n → (h1_ (kd n) = true → I (ga n).toNatClampNeg) ∧ (h2_ (kd n) = true → I (gb n).toNatClampNeg)) (hB : ∀ r b, r < 6 → bo r = some b → I b) (hpc : ∀ n, n < g → pc n + 6 ≤ 561) (hcd : ∀ n, I n → ∀ k a, (pe_ kd ga gb gc pc n)[k]? = some a → cd (pc n + k) = a) (hE : ∀ n, n < g → E n = fE_ kd ga gb bo E n) (hN : ∀ n, I n → kd n = 11 → bo (ga n).toNatClampNeg ≠ none) (hR : ∀ n, I n → rd_ kd ga gb E n = false) (hen : ∀ r b, r < 6 → bo r = some b → en r = pc b) {n : Nat} (hn : I n) (k13 : kd n = 13) : (kd n = 13 ∧ E n = true ∧ cd (pc n) = (14, ga n, 0) ∧ cd (pc n + 1) = (6, 0, 0)) := by
  have hg80 := hW.1
  have hng := hI n hn
  have hpn := hpc n hng
  obtain ⟨i1, i2⟩ := hP n hn
  have cdn := hcd n hn
  have em := hE n hng
  have rr := hR n hn
  have nn := hN n hn
  obtain ⟨g1, ⟨gh, gh8⟩, -, g4, g5, -, -, g8, -⟩ := hW.2.1 n hng
  clear hcd hE hR hN
  have hp : pe_ kd ga gb gc pc n = [(14, ga n, 0), (6, 0, 0)] := by unfold pe_; rw [if_neg (show ¬ kd n = 0 by omega), if_neg (show ¬ kd n = 1 by omega), if_neg (show ¬ kd n = 2 by omega), if_neg (show ¬ kd n = 3 by omega), if_neg (show ¬ kd n = 4 by omega), if_neg (show ¬ kd n = 5 by omega), if_neg (show ¬ kd n = 6 by omega), if_neg (show ¬ kd n = 7 by omega), if_neg (show ¬ kd n = 8 by omega), if_neg (show ¬ kd n = 9 by omega), if_neg (show ¬ kd n = 10 by omega), if_neg (show ¬ kd n = 11 by omega), if_neg (show ¬ kd n = 12 by omega)]
  rw [hp] at cdn
  have em2 : E n = true := by rw [em]; simp [fE_, k13]
  exact ⟨k13, em2, cdn 0 _ rfl, cdn 1 _ rfl⟩
theorem wm_of {cd : Nat → Nat × Int32 × Int32} {en pc : Nat → Nat} {E : Nat → Bool} {I : Nat → Prop} (hW : WF_ g kd ga gb gc hg bo) (hI : ∀ n, I n → n < g) (hP : ∀ n, I n → (h1_ (kd n) = true → I (ga n).toNatClampNeg) ∧ (h2_ (kd n) = true → I (gb n).toNatClampNeg)) (hB : ∀ r b, r < 6 → bo r = some b → I b) (hpc : ∀ n, n < g → pc n + 6 ≤ 561) (hcd : ∀ n, I n → ∀ k a, (pe_ kd ga gb gc pc n)[k]? = some a → cd (pc n + k) = a) (hE : ∀ n, n < g → E n = fE_ kd ga gb bo E n) (hN : ∀ n, I n → kd n = 11 → bo (ga n).toNatClampNeg ≠ none) (hR : ∀ n, I n → rd_ kd ga gb E n = false) (hen : ∀ r b, r < 6 → bo r = some b → en r = pc b) : WM_ cd en pc hg kd ga gb gc (fun r => (bo r).getD 0) E I := by
  intro n hn
  obtain ⟨g1, ⟨gh, gh8⟩, -⟩ := hW.2.1 n (hI n hn)
  refine ⟨gh, gh8, ?_⟩
  by_cases k0 : kd n = 0
  · exact Or.inl (wm_k0 hW hI hP hB hpc hcd hE hN hR hen hn k0)
  refine Or.inr ?_
  by_cases k1 : kd n = 1
  · exact Or.inl (wm_k1 hW hI hP hB hpc hcd hE hN hR hen hn k1)
  refine Or.inr ?_
  by_cases k2 : kd n = 2
  · exact Or.inl (wm_k2 hW hI hP hB hpc hcd hE hN hR hen hn k2)
  refine Or.inr ?_
  by_cases k3 : kd n = 3
  · exact Or.inl (wm_k3 hW hI hP hB hpc hcd hE hN hR hen hn k3)
  refine Or.inr ?_
  by_cases k4 : kd n = 4
  · exact Or.inl (wm_k4 hW hI hP hB hpc hcd hE hN hR hen hn k4)
  refine Or.inr ?_
  by_cases k5 : kd n = 5
  · exact Or.inl (wm_k5 hW hI hP hB hpc hcd hE hN hR hen hn k5)
  refine Or.inr ?_
  by_cases k6 : kd n = 6
  · exact Or.inl (wm_k6 hW hI hP hB hpc hcd hE hN hR hen hn k6)
  refine Or.inr ?_
  by_cases k7 : kd n = 7
  · exact Or.inl (wm_k7 hW hI hP hB hpc hcd hE hN hR hen hn k7)
  refine Or.inr ?_
  by_cases k8 : kd n = 8
  · exact Or.inl (wm_k8 hW hI hP hB hpc hcd hE hN hR hen hn k8)
  refine Or.inr ?_
  by_cases k9 : kd n = 9
  · exact Or.inl (wm_k9 hW hI hP hB hpc hcd hE hN hR hen hn k9)
  refine Or.inr ?_
  by_cases k10 : kd n = 10
  · exact Or.inl (wm_k10 hW hI hP hB hpc hcd hE hN hR hen hn k10)
  refine Or.inr ?_
  by_cases k11 : kd n = 11
  · exact Or.inl (wm_k11 hW hI hP hB hpc hcd hE hN hR hen hn k11)
  refine Or.inr ?_
  by_cases k12 : kd n = 12
  · exact Or.inl (wm_k12 hW hI hP hB hpc hcd hE hN hR hen hn k12)
  refine Or.inr ?_
  exact wm_k13 hW hI hP hB hpc hcd hE hN hR hen hn (by omega)
theorem wm_all (hW : WF_ g kd ga gb gc hg bo) (hF : Fa_ g kd ga gb bo = 0) (hC : CL_ σ (lc_ kd ga gb gc (Ib_ g kd ga gb bo) g)) (hE : ∀ i, i < 6 → σ 19 i = nI (eb_ bo (ln_ kd (Ib_ g kd ga gb bo)) i)) : WM_ (cdf_ σ (lc_ kd ga gb gc (Ib_ g kd ga gb bo) g).length) (enf_ σ) (ln_ kd (Ib_ g kd ga gb bo)) hg kd ga gb gc (fun r => (bo r).getD 0) (Em_ g kd ga gb bo) (fun n => Ib_ g kd ga gb bo n = true) := by
  have hg80 := hW.1
  obtain ⟨f1, f2⟩ := fa_0 hF
  have hlen : ∀ m, m < g → ln_ kd (Ib_ g kd ga gb bo) m + 6 ≤ 561 := fun m hm => by have := (lc_len (ga := ga) (gb := gb) (gc := gc) (J := Ib_ g kd ga gb bo) (fun n hn => (hW.2.1 n hn).1) m (by omega)).2; omega
  refine wm_of hW (fun n hn => ib_lt hW hn) (fun n hn => ib_parts hW hn) (fun r b hr hb => ib_body hr hb) hlen (fun n hn k a ha => cd_at hW hC (ib_lt hW hn) hn ha) (fun n hn => em_one hW hn) (fun n hn k11 hb => ?_) (fun n hn => ?_) (fun r b hr hb => ?_)
  · have := ay_no g 0 f1 n (by omega) (by have := ib_lt hW hn; omega)
    unfold p1_ at this
    rw [hn, hb, k11] at this
    exact absurd this (by decide)
  · have := ay_no g 0 f2 n (by omega) (by have := ib_lt hW hn; omega)
    unfold p2_ at this
    rw [hn, Bool.true_and] at this
    exact this
  · unfold enf_
    rw [hE r hr]
    unfold eb_
    rw [hb]
    have := hlen b (hW.2.2 r b hr hb)
    show (nI (ln_ kd (Ib_ g kd ga gb bo) b)).toNatClampNeg = ln_ kd (Ib_ g kd ga gb bo) b
    exact nI_clamp (by omega)
end CODM
