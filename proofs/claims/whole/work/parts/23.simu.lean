/-! both machines at a node: the same end, and how much it costs -/
section SIMU
def al_ : Nat → Nat
  | 0 => 0
  | h + 1 => 2 * al_ h + 8
def be_ : Nat → Nat
  | 0 => 2042
  | h + 1 => be_ h + 2 * al_ h + 8
theorem be_ge : ∀ h, 2042 ≤ be_ h := by
  intro h
  induction h with
  | zero => exact Nat.le_refl _
  | succ h ih => show 2042 ≤ be_ h + 2 * al_ h + 8; omega
theorem be_8 : ∀ h, h ≤ 8 → be_ h ≤ 6058 ∧ al_ h ≤ 2040 := by decide +kernel
/-- what is known of a run of a node: its end r, the looks and bodies that it made itself (ow) and within bodies (ns), its steps k -/
def PR_ (E : Nat → Bool) (n h : Nat) (ps : PS_) (r : Nat) (ps' : PS_) (k ow ns : Nat) : Prop :=
  (r = 0 ∨ r = 1 ∨ r = 2) ∧ ps'.2.1 + ps'.2.2.2.1 = ps.2.1 + ps.2.2.2.1 + ow + ns ∧ ps'.2.1 ≤ 1500 ∧ ps'.2.2.2.1 ≤ 300 ∧
  (r = 1 → ps.1 ≤ ps'.1 ∧ (ps'.1 = ps.1 → E n = true) ∧ (ps'.1 ≠ ps.1 → 1 ≤ ow)) ∧ k ≤ al_ h + be_ h * ow + 6058 * ns
/-- the same of a loop from the head of a turn -/
def PL_ (h z c : Nat) (ps : PS_) (r : Nat) (ps' : PS_) (k ow ns : Nat) : Prop :=
  (r = 0 ∨ r = 1 ∨ r = 2) ∧ ps'.2.1 + ps'.2.2.2.1 = ps.2.1 + ps.2.2.2.1 + ow + ns ∧ ps'.2.1 ≤ 1500 ∧ ps'.2.2.2.1 ≤ 300 ∧
  (r = 1 → ps.1 ≤ ps'.1 ∧ (ps'.1 ≠ ps.1 → 1 ≤ ow)) ∧ k ≤ al_ h + al_ h * z + 3 + (be_ h + 2 * al_ h + 4) * ow + 6058 * ns
variable (cd : Nat → Nat × Int32 × Int32) (en : Nat → Nat) (tx : Nat → Int32) (len : Nat) (pc hg kd : Nat → Nat) (ga gb gc : Nat → Int32) (bd : Nat → Nat) (E : Nat → Bool) (I : Nat → Prop)
/-- a node that is part of a body, its code, its marks -/
def WM_ : Prop := ∀ n, I n → 1 ≤ hg n ∧ hg n ≤ 8 ∧
  ((kd n = 0 ∧ E n = true ∧ cd (pc n) = (1, ga n, 0) ∧ cd (pc n + 1) = (6, 0, 0)) ∨
   (kd n = 1 ∧ cd (pc n) = (2, ga n, ga n) ∧ cd (pc n + 1) = (6, 0, 0)) ∨
   (kd n = 2 ∧ cd (pc n) = (2, ga n, gb n) ∧ cd (pc n + 1) = (6, 0, 0)) ∨
   (kd n = 3 ∧ cd (pc n) = (3, 0, 0)) ∨
   (kd n = 4 ∧ ∃ x y, I x ∧ I y ∧ (ga n).toNatClampNeg = x ∧ (gb n).toNatClampNeg = y ∧ hg x + 1 ≤ hg n ∧ hg y + 1 ≤ hg n ∧ (E x = true → E y = true → E n = true) ∧
      ∃ a0 a1, cd (pc n) = (4, a0, 0) ∧ a0.toNatClampNeg = pc x ∧ cd (pc n + 1) = (4, a1, 0) ∧ a1.toNatClampNeg = pc y ∧ cd (pc n + 2) = (7, gc n, 0) ∧ cd (pc n + 3) = (6, 0, 0)) ∨
   (kd n = 5 ∧ ∃ x y, I x ∧ I y ∧ (ga n).toNatClampNeg = x ∧ (gb n).toNatClampNeg = y ∧ hg x + 1 ≤ hg n ∧ hg y + 1 ≤ hg n ∧ (E x = true → E n = true) ∧ (E y = true → E n = true) ∧
      ∃ a0 b0 a1 a4, cd (pc n) = (9, a0, b0) ∧ a0.toNatClampNeg = 2 ∧ b0.toNatClampNeg = pc n + 4 ∧ cd (pc n + 1) = (4, a1, 0) ∧ a1.toNatClampNeg = pc x ∧ cd (pc n + 2) = (10, 0, 0) ∧ cd (pc n + 3) = (6, 0, 0) ∧ cd (pc n + 4) = (4, a4, 0) ∧ a4.toNatClampNeg = pc y ∧ cd (pc n + 5) = (6, 0, 0)) ∨
   (kd n = 6 ∧ ∃ x, I x ∧ (ga n).toNatClampNeg = x ∧ hg x + 1 ≤ hg n ∧ (E x = true → E n = true) ∧
      ∃ a0 b0 a1, cd (pc n) = (9, a0, b0) ∧ a0.toNatClampNeg = 3 ∧ cd (pc n + 1) = (4, a1, 0) ∧ a1.toNatClampNeg = pc x ∧ cd (pc n + 2) = (10, 0, 0) ∧ cd (pc n + 3) = (6, 0, 0)) ∨
   (kd n = 7 ∧ E n = true ∧ ∃ x, I x ∧ (ga n).toNatClampNeg = x ∧ hg x + 1 ≤ hg n ∧
      ∃ a0 b0 a1, cd (pc n) = (9, a0, b0) ∧ a0.toNatClampNeg = 4 ∧ cd (pc n + 1) = (4, a1, 0) ∧ a1.toNatClampNeg = pc x ∧ cd (pc n + 2) = (11, 0, 0) ∧ cd (pc n + 3) = (6, 0, 0)) ∨
   (kd n = 8 ∧ E n = true ∧ ∃ x, I x ∧ (ga n).toNatClampNeg = x ∧ hg x + 1 ≤ hg n ∧
      ∃ a0 b0 a1, cd (pc n) = (9, a0, b0) ∧ a0.toNatClampNeg = 5 ∧ b0.toNatClampNeg = pc n + 4 ∧ cd (pc n + 1) = (4, a1, 0) ∧ a1.toNatClampNeg = pc x ∧ cd (pc n + 2) = (11, 0, 0) ∧ cd (pc n + 3) = (3, 0, 0) ∧ cd (pc n + 4) = (1, 0, 0) ∧ cd (pc n + 5) = (6, 0, 0)) ∨
   (kd n = 9 ∧ E n = true ∧ ∃ x, I x ∧ (ga n).toNatClampNeg = x ∧ hg x + 1 ≤ hg n ∧ E x = false ∧
      ∃ a1 b1 a2 a4, cd (pc n) = (1, 0, 0) ∧ cd (pc n + 1) = (9, a1, b1) ∧ a1.toNatClampNeg = 2 ∧ b1.toNatClampNeg = pc n + 5 ∧ cd (pc n + 2) = (4, a2, 0) ∧ a2.toNatClampNeg = pc x ∧ cd (pc n + 3) = (7, gb n, 0) ∧ cd (pc n + 4) = (12, a4, 0) ∧ a4.toNatClampNeg = pc n + 2 ∧ cd (pc n + 5) = (6, 0, 0)) ∨
   (kd n = 10 ∧ ∃ x y, I x ∧ I y ∧ (ga n).toNatClampNeg = x ∧ (gb n).toNatClampNeg = y ∧ hg x + 1 ≤ hg n ∧ hg y + 1 ≤ hg n ∧ (E x = true → E n = true) ∧ ¬ (E x = true ∧ E y = true) ∧
      ∃ a0 a1 b1 a2 a3 a5, cd (pc n) = (4, a0, 0) ∧ a0.toNatClampNeg = pc x ∧ cd (pc n + 1) = (9, a1, b1) ∧ a1.toNatClampNeg = 2 ∧ b1.toNatClampNeg = pc n + 6 ∧ cd (pc n + 2) = (4, a2, 0) ∧ a2.toNatClampNeg = pc y ∧ cd (pc n + 3) = (4, a3, 0) ∧ a3.toNatClampNeg = pc x ∧ cd (pc n + 4) = (8, 0, 0) ∧ cd (pc n + 5) = (12, a5, 0) ∧ a5.toNatClampNeg = pc n + 2 ∧ cd (pc n + 6) = (6, 0, 0)) ∨
   (kd n = 11 ∧ ∃ b, I b ∧ bd (ga n).toNatClampNeg = b ∧ (E b = true → E n = true) ∧ cd (pc n) = (5, ga n, 0) ∧ en (ga n).toNatClampNeg = pc b ∧ cd (pc n + 1) = (6, 0, 0)) ∨
   (kd n = 12 ∧ ∃ x, I x ∧ (ga n).toNatClampNeg = x ∧ hg x + 1 ≤ hg n ∧ (E x = true → E n = true) ∧
      ∃ a0, cd (pc n) = (4, a0, 0) ∧ a0.toNatClampNeg = pc x ∧ cd (pc n + 1) = (13, gb n, 0) ∧ cd (pc n + 2) = (6, 0, 0)) ∨
   (kd n = 13 ∧ E n = true ∧ cd (pc n) = (14, ga n, 0) ∧ cd (pc n + 1) = (6, 0, 0)))
/-- both machines come to one end at n -/
def Q_ (h n d : Nat) (ps : PS_) : Prop := ∃ (r : Nat) (v : Int32) (ps' : PS_) (k ow ns : Nat), CS_ cd en tx len pc hg n d ps r v ps' k ∧ RS_ kd ga gb gc bd tx len hg n d ps r v ps' ∧ PR_ E n h ps r ps' k ow ns
/-- and at a loop of n -/
def QL_ (h z L t y st n d sa : Nat) (acc : Int32) (ps : PS_) : Prop := ∃ (r : Nat) (v : Int32) (ps' : PS_) (k ow ns : Nat), CM_ cd en tx len hg L t n d acc ps r v ps' k ∧ RL_ kd ga gb gc bd tx len hg y st n d sa acc ps r v ps' ∧ PL_ h z 0 ps r ps' k ow ns
variable {cd en tx len pc hg kd ga gb gc bd E I}
theorem cs_any {n d r k : Nat} {ps ps' : PS_} {v w : Int32} (hr : r ≠ 1) (h : CS_ cd en tx len pc hg n d ps r v ps' k) : CS_ cd en tx len pc hg n d ps r w ps' k :=
  fun fr F As hF hA hd => ⟨fun e => absurd e hr, (h fr F As hF hA hd).2⟩
theorem rs_any {n d r : Nat} {ps ps' : PS_} {v w : Int32} (hr : r ≠ 1) (h : RS_ kd ga gb gc bd tx len hg n d ps r v ps') : RS_ kd ga gb gc bd tx len hg n d ps r w ps' := fun S gd vl hS hd => by
  obtain ⟨k, c', g, -, q⟩ := h S gd vl hS hd
  exact ⟨k, c', g, fun e => absurd e hr, q⟩
theorem be_s (h o : Nat) : be_ (h + 1) * o = be_ h * o + 2 * (al_ h * o) + 8 * o := by
  show (be_ h + 2 * al_ h + 8) * o = _
  rw [Nat.add_mul, Nat.add_mul, Nat.mul_assoc]
theorem kc_2 {h k1 k2 o1 o2 n1 n2 c : Nat} (h1 : k1 ≤ al_ h + be_ h * o1 + 6058 * n1) (h2 : k2 ≤ al_ h + be_ h * o2 + 6058 * n2) (hc : c ≤ 8) : k1 + k2 + c ≤ al_ (h + 1) + be_ (h + 1) * (o1 + o2) + 6058 * (n1 + n2) := by
  rw [be_s, Nat.mul_add, Nat.mul_add]
  show _ ≤ 2 * al_ h + 8 + _ + _
  omega
theorem kc_1 {h k1 o1 n1 c : Nat} (h1 : k1 ≤ al_ h + be_ h * o1 + 6058 * n1) (hc : c ≤ 8) : k1 + c ≤ al_ (h + 1) + be_ (h + 1) * o1 + 6058 * n1 := by
  rw [be_s]
  show _ ≤ 2 * al_ h + 8 + _ + _
  omega
theorem kc_0 {h c o n : Nat} (hc : c ≤ 8) : c ≤ al_ (h + 1) + be_ (h + 1) * o + 6058 * n := by
  show _ ≤ 2 * al_ h + 8 + _ + _
  omega
section LEAF
variable {h n d : Nat} {ps : PS_}
theorem q_pure (h1 : 1 ≤ hg n) (hk : kd n = 0) (hE : E n = true) (c0 : cd (pc n) = (1, ga n, 0)) (c1 : cd (pc n + 1) = (6, 0, 0)) (hl : ps.2.1 ≤ 1500) (hb : ps.2.2.2.1 ≤ 300) : Q_ cd en tx len pc hg kd ga gb gc bd E (h + 1) n d ps :=
  ⟨1, ga n, ps, 2, 0, 0, cs_pure c0 c1, rs_pure h1 hk, Or.inr (Or.inl rfl), rfl, hl, hb, fun _ => ⟨Nat.le_refl _, fun _ => hE, fun e => absurd rfl e⟩, kc_0 (by omega)⟩
theorem q_kept (h1 : 1 ≤ hg n) (hk : kd n = 13) (hE : E n = true) (c0 : cd (pc n) = (14, ga n, 0)) (c1 : cd (pc n + 1) = (6, 0, 0)) (hl : ps.2.1 ≤ 1500) (hb : ps.2.2.2.1 ≤ 300) : Q_ cd en tx len pc hg kd ga gb gc bd E (h + 1) n d ps :=
  ⟨1, _, ps, 2, 0, 0, cs_kept c0 c1, rs_kept h1 hk, Or.inr (Or.inl rfl), rfl, hl, hb, fun _ => ⟨Nat.le_refl _, fun _ => hE, fun e => absurd rfl e⟩, kc_0 (by omega)⟩
theorem q_none (h1 : 1 ≤ hg n) (hk : kd n = 3) (c0 : cd (pc n) = (3, 0, 0)) (hl : ps.2.1 ≤ 1500) (hb : ps.2.2.2.1 ≤ 300) : Q_ cd en tx len pc hg kd ga gb gc bd E (h + 1) n d ps :=
  ⟨0, 0, ps, 1, 0, 0, cs_none c0, rs_none h1 hk, Or.inl rfl, rfl, hl, hb, fun e => by omega, kc_0 (by omega)⟩
theorem q_look {hi : Int32} (h1 : 1 ≤ hg n) (hk : (kd n = 1 ∧ hi = ga n) ∨ (kd n = 2 ∧ hi = gb n)) (c0 : cd (pc n) = (2, ga n, hi)) (c1 : cd (pc n + 1) = (6, 0, 0)) (hl : ps.2.1 ≤ 1500) (hb : ps.2.2.2.1 ≤ 300) : Q_ cd en tx len pc hg kd ga gb gc bd E (h + 1) n d ps := by
  obtain ⟨q2, q1, q0⟩ := rs_look (kd := kd) (ga := ga) (gb := gb) (gc := gc) (bd := bd) (tx := tx) (len := len) (d := d) (ps := ps) h1 hk
  by_cases a : 1500 ≤ ps.2.1
  · exact ⟨2, 0, ps, 1, 0, 0, cs_look2 c0 a, q2 a, Or.inr (Or.inr rfl), rfl, hl, hb, fun e => by omega, kc_0 (by omega)⟩
  · by_cases b : lk_ tx len ps.1 (ga n) hi
    · exact ⟨1, _, _, 2, 1, 0, cs_look1 c0 c1 a b, q1 a b, Or.inr (Or.inl rfl), by simp; omega, by simp; omega, hb, fun _ => ⟨by simp, fun e => by simp at e, fun _ => Nat.le_refl _⟩, kc_0 (by omega)⟩
    · exact ⟨0, 0, _, 1, 1, 0, cs_look0 c0 a b, q0 a b, Or.inl rfl, by simp; omega, by simp; omega, hb, fun e => by omega, kc_0 (by omega)⟩
end LEAF
section NODE
variable {h n d Rm : Nat} {ps : PS_}
theorem q_then {x y : Nat} {a0 a1 : Int32} (hk : kd n = 4) (ex : (ga n).toNatClampNeg = x) (ey : (gb n).toNatClampNeg = y) (h1 : hg x + 1 ≤ hg n) (h2 : hg y + 1 ≤ hg n) (h3 : 1 ≤ hg x) (h4 : 1 ≤ hg y) (hE : E x = true → E y = true → E n = true)
    (c0 : cd (pc n) = (4, a0, 0)) (e0 : a0.toNatClampNeg = pc x) (c1 : cd (pc n + 1) = (4, a1, 0)) (e1 : a1.toNatClampNeg = pc y) (c2 : cd (pc n + 2) = (7, gc n, 0)) (c3 : cd (pc n + 3) = (6, 0, 0))
    (hx : Q_ cd en tx len pc hg kd ga gb gc bd E h x d ps) (hy : ∀ p1 : PS_, ps.2.1 + ps.2.2.2.1 ≤ p1.2.1 + p1.2.2.2.1 → p1.2.1 ≤ 1500 → p1.2.2.2.1 ≤ 300 → Q_ cd en tx len pc hg kd ga gb gc bd E h y d p1) : Q_ cd en tx len pc hg kd ga gb gc bd E (h + 1) n d ps := by
  obtain ⟨r1, v1, p1, k1, o1, n1, a, b, ⟨hr, hev, hl, hb, hs, hc⟩⟩ := hx
  rcases hr with rfl | rfl | rfl
  · refine ⟨0, 0, p1, 0 + (k1 + 1), o1, n1, cs_first0 (by omega) c0 e0 a h1 h3, rs_after0 (v2 := 0) (Or.inl hk) ex b h1 h3 (Or.inr ⟨rfl, fun S w => ⟨w, by simp [rs_, hk]⟩⟩), Or.inl rfl, hev, hl, hb, fun e => by omega, ?_⟩
    rw [Nat.zero_add]; exact kc_1 hc (by omega)
  · obtain ⟨s1, s2, s3⟩ := hs rfl
    obtain ⟨r2, v2, p2, k2, o2, n2, a', b', ⟨hr', hev', hl', hb', hs', hc'⟩⟩ := hy p1 (by omega) hl hb
    rcases hr' with rfl | rfl | rfl
    · refine ⟨0, 0, p2, k1 + 1 + (k2 + 1), o1 + o2, n1 + n2, cs_then0 (by omega) c0 c1 e0 e1 a a' h1 h2 h3 h4, rs_then hk ex ey b b' h1 h2 h3 h4 (Or.inr (Or.inl ⟨rfl, rfl⟩)), Or.inl rfl, by omega, hl', hb', fun e => by omega, ?_⟩
      have := kc_2 hc hc' (c := 2) (by omega); omega
    · obtain ⟨t1, t2, t3⟩ := hs' rfl
      refine ⟨1, _, p2, k1 + k2 + 4, o1 + o2, n1 + n2, cs_then1 c0 c1 c2 c3 e0 e1 a a' h1 h2 h3 h4, rs_then hk ex ey b b' h1 h2 h3 h4 (Or.inl ⟨rfl, rfl, rfl⟩), Or.inr (Or.inl rfl), by omega, hl', hb', fun _ => ⟨by omega, fun e => hE (s2 (by omega)) (t2 (by omega)), fun e => ?_⟩, kc_2 hc hc' (by omega)⟩
      by_cases q : p1.1 = ps.1
      · have := t3 (by omega); omega
      · have := s3 q; omega
    · refine ⟨2, 0, p2, k1 + 1 + (k2 + 1), o1 + o2, n1 + n2, cs_then0 (by omega) c0 c1 e0 e1 a a' h1 h2 h3 h4, rs_then hk ex ey b b' h1 h2 h3 h4 (Or.inr (Or.inr ⟨rfl, rfl⟩)), Or.inr (Or.inr rfl), by omega, hl', hb', fun e => by omega, ?_⟩
      have := kc_2 hc hc' (c := 2) (by omega); omega
  · refine ⟨2, 0, p1, 0 + (k1 + 1), o1, n1, cs_first0 (by omega) c0 e0 a h1 h3, rs_first2 (Or.inl hk) ex b h1 h3, Or.inr (Or.inr rfl), hev, hl, hb, fun e => by omega, ?_⟩
    rw [Nat.zero_add]; exact kc_1 hc (by omega)
theorem q_or {x y : Nat} {a0 b0 a1 a4 : Int32} (hk : kd n = 5) (ex : (ga n).toNatClampNeg = x) (ey : (gb n).toNatClampNeg = y) (h1 : hg x + 1 ≤ hg n) (h2 : hg y + 1 ≤ hg n) (h3 : 1 ≤ hg x) (h4 : 1 ≤ hg y) (hEx : E x = true → E n = true) (hEy : E y = true → E n = true)
    (c0 : cd (pc n) = (9, a0, b0)) (e0 : a0.toNatClampNeg = 2) (f0 : b0.toNatClampNeg = pc n + 4) (c1 : cd (pc n + 1) = (4, a1, 0)) (e1 : a1.toNatClampNeg = pc x) (c2 : cd (pc n + 2) = (10, 0, 0)) (c3 : cd (pc n + 3) = (6, 0, 0)) (c4 : cd (pc n + 4) = (4, a4, 0)) (e4 : a4.toNatClampNeg = pc y) (c5 : cd (pc n + 5) = (6, 0, 0))
    (hx : Q_ cd en tx len pc hg kd ga gb gc bd E h x d ps) (hy : ∀ p1 : PS_, ps.2.1 + ps.2.2.2.1 ≤ p1.2.1 + p1.2.2.2.1 → p1.2.1 ≤ 1500 → p1.2.2.2.1 ≤ 300 → Q_ cd en tx len pc hg kd ga gb gc bd E h y d p1) : Q_ cd en tx len pc hg kd ga gb gc bd E (h + 1) n d ps := by
  obtain ⟨r1, v1, p1, k1, o1, n1, a, b, ⟨hr, hev, hl, hb, hs, hc⟩⟩ := hx
  rcases hr with rfl | rfl | rfl
  · by_cases q : p1.1 = ps.1
    · obtain ⟨r2, v2, p2, k2, o2, n2, a', b', ⟨hr', hev', hl', hb', hs', hc'⟩⟩ := hy p1 (by omega) hl hb
      by_cases q2 : r2 = 1
      · subst q2
        obtain ⟨t1, t2, t3⟩ := hs' rfl
        exact ⟨1, v2, p2, k1 + k2 + 4, o1 + o2, n1 + n2, cs_or21 c0 c1 c4 c5 e0 f0 e1 e4 q a a' h1 h2 h3 h4, rs_or2 hk ex ey q b b' h1 h2 h3 h4 hr', hr', by omega, hl', hb', fun _ => ⟨by omega, fun e => hEy (t2 (by omega)), fun e => by have := t3 (by omega); omega⟩, kc_2 hc hc' (by omega)⟩
      · refine ⟨r2, 0, p2, k1 + 2 + (k2 + 1), o1 + o2, n1 + n2, cs_or20 q2 c0 c1 c4 e0 f0 e1 e4 q a a' h1 h2 h3 h4, rs_any q2 (rs_or2 hk ex ey q b b' h1 h2 h3 h4 hr'), hr', by omega, hl', hb', fun e => absurd e q2, ?_⟩
        have := kc_2 hc hc' (c := 3) (by omega); omega
    · exact ⟨0, 0, p1, k1 + 2, o1, n1, cs_or0 c0 c1 e0 e1 q a h1 h3, rs_after0 (v2 := 0) (Or.inr (Or.inl hk)) ex b h1 h3 (Or.inr ⟨rfl, fun S w => ⟨w, by simp [rs_, hk, q]⟩⟩), Or.inl rfl, hev, hl, hb, fun e => by omega, kc_1 hc (by omega)⟩
  · obtain ⟨s1, s2, s3⟩ := hs rfl
    exact ⟨1, v1, p1, k1 + 4, o1, n1, cs_or1 c0 c1 c2 c3 e1 a h1 h3, rs_after1 (Or.inr (Or.inl hk)) ex b h1 h3 (Or.inl ⟨rfl, fun S => by simp [rs_, hk]⟩), Or.inr (Or.inl rfl), hev, hl, hb, fun _ => ⟨s1, fun e => hEx (s2 e), s3⟩, kc_1 hc (by omega)⟩
  · exact ⟨2, 0, p1, k1 + 2, o1, n1, cs_guard2 c0 c1 e1 a h1 h3, rs_first2 (Or.inr (Or.inl hk)) ex b h1 h3, Or.inr (Or.inr rfl), hev, hl, hb, fun e => by omega, kc_1 hc (by omega)⟩
theorem q_try {x : Nat} {a0 b0 a1 : Int32} (hk : kd n = 6) (ex : (ga n).toNatClampNeg = x) (h1 : hg x + 1 ≤ hg n) (h3 : 1 ≤ hg x) (hEx : E x = true → E n = true)
    (c0 : cd (pc n) = (9, a0, b0)) (e0 : a0.toNatClampNeg = 3) (c1 : cd (pc n + 1) = (4, a1, 0)) (e1 : a1.toNatClampNeg = pc x) (c2 : cd (pc n + 2) = (10, 0, 0)) (c3 : cd (pc n + 3) = (6, 0, 0))
    (hx : Q_ cd en tx len pc hg kd ga gb gc bd E h x d ps) : Q_ cd en tx len pc hg kd ga gb gc bd E (h + 1) n d ps := by
  obtain ⟨r1, v1, p1, k1, o1, n1, a, b, ⟨hr, hev, hl, hb, hs, hc⟩⟩ := hx
  rcases hr with rfl | rfl | rfl
  · exact ⟨0, 0, (ps.1, p1.2), k1 + 2, o1, n1, cs_try0 c0 c1 e0 e1 a h1 h3, rs_after0 (v2 := 0) (by omega) ex b h1 h3 (Or.inr ⟨rfl, fun S w => ⟨w, by simp [rs_, hk]⟩⟩), Or.inl rfl, hev, hl, hb, fun e => by omega, kc_1 hc (by omega)⟩
  · obtain ⟨s1, s2, s3⟩ := hs rfl
    exact ⟨1, v1, p1, k1 + 4, o1, n1, cs_try1 c0 c1 c2 c3 e1 a h1 h3, rs_after1 (by omega) ex b h1 h3 (Or.inl ⟨rfl, fun S => by simp [rs_, hk]⟩), Or.inr (Or.inl rfl), hev, hl, hb, fun _ => ⟨s1, fun e => hEx (s2 e), s3⟩, kc_1 hc (by omega)⟩
  · exact ⟨2, 0, p1, k1 + 2, o1, n1, cs_guard2 c0 c1 e1 a h1 h3, rs_first2 (by omega) ex b h1 h3, Or.inr (Or.inr rfl), hev, hl, hb, fun e => by omega, kc_1 hc (by omega)⟩
theorem q_lookx {x : Nat} {a0 b0 a1 : Int32} (hk : kd n = 7) (hE : E n = true) (ex : (ga n).toNatClampNeg = x) (h1 : hg x + 1 ≤ hg n) (h3 : 1 ≤ hg x)
    (c0 : cd (pc n) = (9, a0, b0)) (e0 : a0.toNatClampNeg = 4) (c1 : cd (pc n + 1) = (4, a1, 0)) (e1 : a1.toNatClampNeg = pc x) (c2 : cd (pc n + 2) = (11, 0, 0)) (c3 : cd (pc n + 3) = (6, 0, 0))
    (hx : Q_ cd en tx len pc hg kd ga gb gc bd E h x d ps) : Q_ cd en tx len pc hg kd ga gb gc bd E (h + 1) n d ps := by
  obtain ⟨r1, v1, p1, k1, o1, n1, a, b, ⟨hr, hev, hl, hb, hs, hc⟩⟩ := hx
  rcases hr with rfl | rfl | rfl
  · exact ⟨0, 0, p1, k1 + 2, o1, n1, cs_look_0 c0 c1 e0 e1 a h1 h3, rs_after0 (v2 := 0) (by omega) ex b h1 h3 (Or.inr ⟨rfl, fun S w => ⟨w, by simp [rs_, hk]⟩⟩), Or.inl rfl, hev, hl, hb, fun e => by omega, kc_1 hc (by omega)⟩
  · exact ⟨1, v1, (ps.1, p1.2), k1 + 4, o1, n1, cs_look_1 c0 c1 c2 c3 e1 a h1 h3, rs_after1 (by omega) ex b h1 h3 (Or.inl ⟨rfl, fun S => by simp [rs_, hk]⟩), Or.inr (Or.inl rfl), hev, hl, hb, fun _ => ⟨Nat.le_refl _, fun _ => hE, fun e => absurd rfl e⟩, kc_1 hc (by omega)⟩
  · exact ⟨2, 0, p1, k1 + 2, o1, n1, cs_guard2 c0 c1 e1 a h1 h3, rs_first2 (by omega) ex b h1 h3, Or.inr (Or.inr rfl), hev, hl, hb, fun e => by omega, kc_1 hc (by omega)⟩
theorem q_not {x : Nat} {a0 b0 a1 : Int32} (hk : kd n = 8) (hE : E n = true) (ex : (ga n).toNatClampNeg = x) (h1 : hg x + 1 ≤ hg n) (h3 : 1 ≤ hg x)
    (c0 : cd (pc n) = (9, a0, b0)) (e0 : a0.toNatClampNeg = 5) (f0 : b0.toNatClampNeg = pc n + 4) (c1 : cd (pc n + 1) = (4, a1, 0)) (e1 : a1.toNatClampNeg = pc x) (c2 : cd (pc n + 2) = (11, 0, 0)) (c3 : cd (pc n + 3) = (3, 0, 0)) (c4 : cd (pc n + 4) = (1, 0, 0)) (c5 : cd (pc n + 5) = (6, 0, 0))
    (hx : Q_ cd en tx len pc hg kd ga gb gc bd E h x d ps) : Q_ cd en tx len pc hg kd ga gb gc bd E (h + 1) n d ps := by
  obtain ⟨r1, v1, p1, k1, o1, n1, a, b, ⟨hr, hev, hl, hb, hs, hc⟩⟩ := hx
  rcases hr with rfl | rfl | rfl
  · exact ⟨1, 0, (ps.1, p1.2), k1 + 4, o1, n1, cs_not0 c0 c1 c4 c5 e0 f0 e1 a h1 h3, rs_after0 (by omega) ex b h1 h3 (Or.inl ⟨rfl, fun S w => by simp [rs_, hk]⟩), Or.inr (Or.inl rfl), hev, hl, hb, fun _ => ⟨Nat.le_refl _, fun _ => hE, fun e => absurd rfl e⟩, kc_1 hc (by omega)⟩
  · exact ⟨0, 0, (ps.1, p1.2), k1 + 4, o1, n1, cs_not1 c0 c1 c2 c3 e1 a h1 h3, rs_after1 (v2 := 0) (by omega) ex b h1 h3 (Or.inr ⟨rfl, fun S => ⟨v1, by simp [rs_, hk]⟩⟩), Or.inl rfl, hev, hl, hb, fun e => by omega, kc_1 hc (by omega)⟩
  · exact ⟨2, 0, p1, k1 + 2, o1, n1, cs_guard2 c0 c1 e1 a h1 h3, rs_first2 (by omega) ex b h1 h3, Or.inr (Or.inr rfl), hev, hl, hb, fun e => by omega, kc_1 hc (by omega)⟩
theorem q_keep {x : Nat} {a0 : Int32} (hk : kd n = 12) (ex : (ga n).toNatClampNeg = x) (h1 : hg x + 1 ≤ hg n) (h3 : 1 ≤ hg x) (hEx : E x = true → E n = true)
    (c0 : cd (pc n) = (4, a0, 0)) (e0 : a0.toNatClampNeg = pc x) (c1 : cd (pc n + 1) = (13, gb n, 0)) (c2 : cd (pc n + 2) = (6, 0, 0))
    (hx : Q_ cd en tx len pc hg kd ga gb gc bd E h x d ps) : Q_ cd en tx len pc hg kd ga gb gc bd E (h + 1) n d ps := by
  obtain ⟨r1, v1, p1, k1, o1, n1, a, b, ⟨hr, hev, hl, hb, hs, hc⟩⟩ := hx
  rcases hr with rfl | rfl | rfl
  · refine ⟨0, 0, p1, 0 + (k1 + 1), o1, n1, cs_first0 (by omega) c0 e0 a h1 h3, rs_after0 (v2 := 0) (by omega) ex b h1 h3 (Or.inr ⟨rfl, fun S w => ⟨w, by simp [rs_, hk]⟩⟩), Or.inl rfl, hev, hl, hb, fun e => by omega, ?_⟩
    rw [Nat.zero_add]; exact kc_1 hc (by omega)
  · obtain ⟨s1, s2, s3⟩ := hs rfl
    exact ⟨1, v1, _, k1 + 3, o1, n1, cs_keep c0 c1 c2 e0 a h1 h3, rs_after1 (by omega) ex b h1 h3 (Or.inl ⟨rfl, fun S => by simp [rs_, hk]⟩), Or.inr (Or.inl rfl), hev, hl, hb, fun _ => ⟨s1, fun e => hEx (s2 e), s3⟩, kc_1 hc (by omega)⟩
  · refine ⟨2, 0, p1, 0 + (k1 + 1), o1, n1, cs_first0 (by omega) c0 e0 a h1 h3, rs_first2 (by omega) ex b h1 h3, Or.inr (Or.inr rfl), hev, hl, hb, fun e => by omega, ?_⟩
    rw [Nat.zero_add]; exact kc_1 hc (by omega)
theorem q_rule {b : Nat} (hk : kd n = 11) (h1 : 1 ≤ hg n) (eb : bd (ga n).toNatClampNeg = b) (hb8 : hg b ≤ 8) (hEb : E b = true → E n = true) (c0 : cd (pc n) = (5, ga n, 0)) (e0 : en (ga n).toNatClampNeg = pc b) (c1 : cd (pc n + 1) = (6, 0, 0)) (hl : ps.2.1 ≤ 1500) (hb : ps.2.2.2.1 ≤ 300)
    (hx : ¬ (40 ≤ d ∨ 300 ≤ ps.2.2.2.1) → Q_ cd en tx len pc hg kd ga gb gc bd E 8 b (d + 1) (ps.1, ps.2.1, ps.2.2.1, ps.2.2.2.1 + 1, ps.2.2.2.2)) : Q_ cd en tx len pc hg kd ga gb gc bd E (h + 1) n d ps := by
  by_cases q : 40 ≤ d ∨ 300 ≤ ps.2.2.2.1
  · exact ⟨2, 0, ps, 1, 0, 0, cs_rule2 c0 q, rs_rule2 h1 hk q, Or.inr (Or.inr rfl), rfl, hl, hb, fun e => by omega, kc_0 (by omega)⟩
  · obtain ⟨r1, v1, p1, k1, o1, n1, a, b', ⟨hr, hev, hl', hb', hs, hc⟩⟩ := hx q
    have hC := cs_rule c0 c1 e0 q hb8 a
    have hR := rs_rule h1 hk eb q hb8 b' hr
    have hcost : k1 + 2 ≤ al_ (h + 1) + be_ (h + 1) * 1 + 6058 * (o1 + n1) := by
      have g1 := be_ge (h + 1)
      have g2 := be_8 8 (by omega)
      have g3 : be_ 8 * o1 ≤ 6058 * o1 := Nat.mul_le_mul_right _ g2.1
      omega
    simp only at hev
    rcases hr with rfl | rfl | rfl
    · exact ⟨0, 0, p1, k1 + 1, 1, o1 + n1, hC.2.1 rfl, rs_any (by omega) hR, Or.inl rfl, by omega, hl', hb', fun e => by omega, by omega⟩
    · obtain ⟨s1, s2, s3⟩ := hs rfl
      exact ⟨1, v1, p1, k1 + 2, 1, o1 + n1, hC.1 rfl, hR, Or.inr (Or.inl rfl), by omega, hl', hb', fun _ => ⟨s1, fun e => hEb (s2 e), fun _ => Nat.le_refl _⟩, hcost⟩
    · exact ⟨2, 0, p1, k1 + 1, 1, o1 + n1, hC.2.2 rfl, rs_any (by omega) hR, Or.inr (Or.inr rfl), by omega, hl', hb', fun e => by omega, by omega⟩
theorem pl_e (h o : Nat) : (be_ h + 2 * al_ h + 4) * o = be_ h * o + 2 * (al_ h * o) + 4 * o := by
  rw [Nat.add_mul, Nat.add_mul, Nat.mul_assoc]
theorem al_m {h o : Nat} (ho : 1 ≤ o) : al_ h ≤ al_ h * o := Nat.le_mul_of_pos_right _ ho
theorem q_manyL {x L t e0 : Nat} {a2 a4 a9 b9 : Int32} (hk : kd n = 9) (ex : (ga n).toNatClampNeg = x) (h1 : hg x + 1 ≤ hg n) (h3 : 1 ≤ hg x) (hE : E x = false)
    (c0 : cd L = (4, a2, 0)) (ec : a2.toNatClampNeg = pc x) (c1 : cd (L + 1) = (7, gb n, 0)) (c2 : cd (L + 2) = (12, a4, 0)) (e2 : a4.toNatClampNeg = L) (c9 : cd t = (6, a9, b9))
    (hx : ∀ p1 : PS_, e0 ≤ p1.2.1 + p1.2.2.2.1 → p1.2.1 ≤ 1500 → p1.2.2.2.1 ≤ 300 → Q_ cd en tx len pc hg kd ga gb gc bd E h x d p1) :
    ∀ (R sa : Nat) (acc : Int32) (ps : PS_), e0 ≤ ps.2.1 + ps.2.2.2.1 → 1800 ≤ ps.2.1 + ps.2.2.2.1 + R → ps.2.1 ≤ 1500 → ps.2.2.2.1 ≤ 300 → QL_ cd en tx len hg kd ga gb gc bd h 0 L t x 1 n d sa acc ps := by
  intro R
  induction R with
  | zero =>
    intro sa acc ps he hR hl hb
    obtain ⟨r1, v1, p1, k1, o1, n1, a, b, ⟨hr, hev, hl', hb', hs, hc⟩⟩ := hx ps he hl hb
    have hr1 : r1 ≠ 1 := by
      rintro rfl
      obtain ⟨s1, s2, s3⟩ := hs rfl
      by_cases q : p1.1 = ps.1
      · rw [s2 q] at hE; cases hE
      · have := s3 q; omega
    obtain ⟨m1, m0, m2⟩ := cm_last1 (acc := acc) hr1 c0 c9 ec a h1 h3
    obtain ⟨w1, w0, w2⟩ := rl_many_last (sa := sa) (acc := acc) hk hr1 b h1 h3
    have hcost : 0 + (k1 + 1) + 1 ≤ al_ h + al_ h * 0 + 3 + (be_ h + 2 * al_ h + 4) * o1 + 6058 * n1 := by rw [pl_e]; omega
    rcases hr with rfl | rfl | rfl
    · by_cases q : p1.1 = ps.1
      · exact ⟨1, acc, p1, _, o1, n1, m1 rfl q, w1 rfl q, Or.inr (Or.inl rfl), hev, hl', hb', fun _ => ⟨by omega, fun e => absurd q e⟩, hcost⟩
      · exact ⟨0, 0, p1, _, o1, n1, m0 rfl q, w0 rfl q, Or.inl rfl, hev, hl', hb', fun e => by omega, by omega⟩
    · exact absurd rfl hr1
    · exact ⟨2, 0, p1, _, o1, n1, m2 rfl, w2 rfl, Or.inr (Or.inr rfl), hev, hl', hb', fun e => by omega, by omega⟩
  | succ R ih =>
    intro sa acc ps he hR hl hb
    obtain ⟨r1, v1, p1, k1, o1, n1, a, b, ⟨hr, hev, hl', hb', hs, hc⟩⟩ := hx ps he hl hb
    by_cases hr1 : r1 = 1
    · subst hr1
      obtain ⟨s1, s2, s3⟩ := hs rfl
      have ho : 1 ≤ o1 := s3 (fun q => by rw [s2 q] at hE; cases hE)
      obtain ⟨r2, v2, p2, k2, o2, n2, m, w, ⟨hr', hev', hl2, hb2, hs', hc'⟩⟩ := ih sa (jn_ (gb n) acc v1) p1 (by omega) (by omega) hl' hb'
      refine ⟨r2, v2, p2, k1 + 3 + k2, o1 + o2, n1 + n2, cm_many c0 c1 c2 ec e2 a h1 h3 m, rl_many hk ex b h1 h3 w, hr', by omega, hl2, hb2, fun e => ?_, ?_⟩
      · obtain ⟨t1, t2⟩ := hs' e
        exact ⟨by omega, fun _ => by omega⟩
      · rw [pl_e] at hc' ⊢
        rw [Nat.mul_add, Nat.mul_add]
        have := al_m (h := h) ho
        omega
    · obtain ⟨m1, m0, m2⟩ := cm_last1 (acc := acc) hr1 c0 c9 ec a h1 h3
      obtain ⟨w1, w0, w2⟩ := rl_many_last (sa := sa) (acc := acc) hk hr1 b h1 h3
      have hcost : 0 + (k1 + 1) + 1 ≤ al_ h + al_ h * 0 + 3 + (be_ h + 2 * al_ h + 4) * o1 + 6058 * n1 := by rw [pl_e]; omega
      rcases hr with rfl | rfl | rfl
      · by_cases q : p1.1 = ps.1
        · exact ⟨1, acc, p1, _, o1, n1, m1 rfl q, w1 rfl q, Or.inr (Or.inl rfl), hev, hl', hb', fun _ => ⟨by omega, fun e => absurd q e⟩, hcost⟩
        · exact ⟨0, 0, p1, _, o1, n1, m0 rfl q, w0 rfl q, Or.inl rfl, hev, hl', hb', fun e => by omega, by omega⟩
      · exact absurd rfl hr1
      · exact ⟨2, 0, p1, _, o1, n1, m2 rfl, w2 rfl, Or.inr (Or.inr rfl), hev, hl', hb', fun e => by omega, by omega⟩
theorem q_many {x : Nat} {a1 b1 a2 a4 : Int32} (hn : 1 ≤ hg n) (hk : kd n = 9) (hEn : E n = true) (ex : (ga n).toNatClampNeg = x) (h1 : hg x + 1 ≤ hg n) (h3 : 1 ≤ hg x) (hE : E x = false)
    (c0 : cd (pc n) = (1, 0, 0)) (c1 : cd (pc n + 1) = (9, a1, b1)) (e1 : a1.toNatClampNeg = 2) (f1 : b1.toNatClampNeg = pc n + 5) (c2 : cd (pc n + 2) = (4, a2, 0)) (e2 : a2.toNatClampNeg = pc x) (c3 : cd (pc n + 3) = (7, gb n, 0)) (c4 : cd (pc n + 4) = (12, a4, 0)) (e4 : a4.toNatClampNeg = pc n + 2) (c5 : cd (pc n + 5) = (6, 0, 0))
    (hl : ps.2.1 ≤ 1500) (hb : ps.2.2.2.1 ≤ 300) (hx : ∀ p1 : PS_, ps.2.1 + ps.2.2.2.1 ≤ p1.2.1 + p1.2.2.2.1 → p1.2.1 ≤ 1500 → p1.2.2.2.1 ≤ 300 → Q_ cd en tx len pc hg kd ga gb gc bd E h x d p1) : Q_ cd en tx len pc hg kd ga gb gc bd E (h + 1) n d ps := by
  obtain ⟨r, v, p, k, ow, ns, m, w, ⟨hr, hev, hl', hb', hs, hc⟩⟩ := q_manyL (L := pc n + 2) (t := pc n + 5) (h := h) (d := d) hk ex h1 h3 hE c2 e2 c3 c4 e4 c5 hx 1800 ps.1 0 ps (Nat.le_refl _) (by omega) hl hb
  refine ⟨r, v, p, 1 + 1 + k, ow, ns, cs_many c0 c1 e1 f1 rfl m, rs_many hk ex hn w, hr, hev, hl', hb', fun e => ?_, ?_⟩
  · obtain ⟨t1, t2⟩ := hs e
    exact ⟨t1, fun _ => hEn, t2⟩
  · rw [pl_e] at hc
    rw [be_s]
    show _ ≤ 2 * al_ h + 8 + _ + _
    omega
theorem q_chainL {x y L t e0 : Nat} {a2 a3 a5 a9 b9 : Int32} (hk : kd n = 10) (ex : (ga n).toNatClampNeg = x) (ey : (gb n).toNatClampNeg = y) (h1 : hg x + 1 ≤ hg n) (h2 : hg y + 1 ≤ hg n) (h3 : 1 ≤ hg x) (h4 : 1 ≤ hg y) (hE : ¬ (E x = true ∧ E y = true))
    (c0 : cd L = (4, a2, 0)) (f0 : a2.toNatClampNeg = pc y) (c1 : cd (L + 1) = (4, a3, 0)) (f1 : a3.toNatClampNeg = pc x) (c2 : cd (L + 2) = (8, 0, 0)) (c3 : cd (L + 3) = (12, a5, 0)) (f3 : a5.toNatClampNeg = L) (c9 : cd t = (6, a9, b9))
    (hx : ∀ p1 : PS_, e0 ≤ p1.2.1 + p1.2.2.2.1 → p1.2.1 ≤ 1500 → p1.2.2.2.1 ≤ 300 → Q_ cd en tx len pc hg kd ga gb gc bd E h x d p1) (hy : ∀ p1 : PS_, e0 ≤ p1.2.1 + p1.2.2.2.1 → p1.2.1 ≤ 1500 → p1.2.2.2.1 ≤ 300 → Q_ cd en tx len pc hg kd ga gb gc bd E h y d p1) :
    ∀ (R sa : Nat) (acc : Int32) (ps : PS_), e0 ≤ ps.2.1 + ps.2.2.2.1 → 1800 ≤ ps.2.1 + ps.2.2.2.1 + R → ps.2.1 ≤ 1500 → ps.2.2.2.1 ≤ 300 → QL_ cd en tx len hg kd ga gb gc bd h (E y).toNat L t y 2 n d sa acc ps := by
  intro R
  induction R using Nat.strongRecOn with
  | _ R ih =>
    intro sa acc ps he hR hl hb
    obtain ⟨r1, v1, p1, k1, o1, n1, a, b, ⟨hr, hev, hl1, hb1, hs, hc⟩⟩ := hy ps he hl hb
    by_cases hr1 : r1 = 1
    · subst hr1
      obtain ⟨s1, s2, s3⟩ := hs rfl
      obtain ⟨r2, v2, p2, k2, o2, n2, a', b', ⟨hr', hev', hl2, hb2, hs', hc'⟩⟩ := hx p1 (by omega) hl1 hb1
      by_cases hr2 : r2 = 1
      · subst hr2
        obtain ⟨t1, t2, t3⟩ := hs' rfl
        have ho : 1 ≤ o1 + o2 := by
          by_cases q : p1.1 = ps.1
          · by_cases q2 : p2.1 = p1.1
            · exact absurd ⟨t2 q2, s2 q⟩ hE
            · have := t3 q2; omega
          · have := s3 q; omega
        obtain ⟨r3, v3, p3, k3, o3, n3, m, w, ⟨hr3, hev3, hl3, hb3, hs3, hc3⟩⟩ := ih (R - 1) (by omega) sa (jn_ (wy_ v1) acc v2) p2 (by omega) (by omega) hl2 hb2
        refine ⟨r3, v3, p3, k1 + k2 + 4 + k3, o1 + o2 + o3, n1 + n2 + n3, cm_chain c0 c1 c2 c3 f0 f1 f3 a a' h1 h2 h3 h4 m, rl_chain hk ex ey b b' h1 h2 h3 h4 w, hr3, by omega, hl3, hb3, fun e => ?_, ?_⟩
        · obtain ⟨z1, z2⟩ := hs3 e
          exact ⟨by omega, fun _ => by omega⟩
        · rw [pl_e] at hc3 ⊢
          rw [Nat.mul_add (be_ h), Nat.mul_add (be_ h), Nat.mul_add (al_ h)]
          have := al_m (h := h) ho
          omega
      · obtain ⟨m1, m0, m2⟩ := cm_last2 (acc := acc) hr2 c0 c1 c9 f0 f1 a a' h1 h2 h3 h4
        obtain ⟨w1, w0, w2⟩ := rl_chain_last2 (sa := sa) (acc := acc) hk ex hr2 b b' h1 h2 h3 h4
        have hcost : k1 + 1 + (k2 + 1) + 1 ≤ al_ h + al_ h * (E y).toNat + 3 + (be_ h + 2 * al_ h + 4) * (o1 + o2) + 6058 * (n1 + n2) := by
          rw [pl_e, Nat.mul_add (be_ h)]
          by_cases ho : 1 ≤ o1 + o2
          · have := al_m (h := h) ho
            omega
          · have hEy : E y = true := s2 (by
              apply Classical.byContradiction
              intro q
              have := s3 q
              omega)
            rw [hEy, show true.toNat = 1 from rfl]
            omega
        rcases hr' with rfl | rfl | rfl
        · by_cases q : p2.1 = ps.1
          · exact ⟨1, acc, p2, _, o1 + o2, n1 + n2, m1 rfl q, w1 rfl q, Or.inr (Or.inl rfl), by omega, hl2, hb2, fun _ => ⟨by omega, fun e => absurd q e⟩, hcost⟩
          · exact ⟨0, 0, p2, _, o1 + o2, n1 + n2, m0 rfl q, w0 rfl q, Or.inl rfl, by omega, hl2, hb2, fun e => by omega, by omega⟩
        · exact absurd rfl hr2
        · exact ⟨2, 0, p2, _, o1 + o2, n1 + n2, m2 rfl, w2 rfl, Or.inr (Or.inr rfl), by omega, hl2, hb2, fun e => by omega, by omega⟩
    · obtain ⟨m1, m0, m2⟩ := cm_last1 (acc := acc) hr1 c0 c9 f0 a h2 h4
      obtain ⟨w1, w0, w2⟩ := rl_chain_last1 (sa := sa) (acc := acc) hk hr1 b h2 h4
      have hcost : 0 + (k1 + 1) + 1 ≤ al_ h + al_ h * (E y).toNat + 3 + (be_ h + 2 * al_ h + 4) * o1 + 6058 * n1 := by rw [pl_e]; omega
      rcases hr with rfl | rfl | rfl
      · by_cases q : p1.1 = ps.1
        · exact ⟨1, acc, p1, _, o1, n1, m1 rfl q, w1 rfl q, Or.inr (Or.inl rfl), hev, hl1, hb1, fun _ => ⟨by omega, fun e => absurd q e⟩, hcost⟩
        · exact ⟨0, 0, p1, _, o1, n1, m0 rfl q, w0 rfl q, Or.inl rfl, hev, hl1, hb1, fun e => by omega, by omega⟩
      · exact absurd rfl hr1
      · exact ⟨2, 0, p1, _, o1, n1, m2 rfl, w2 rfl, Or.inr (Or.inr rfl), hev, hl1, hb1, fun e => by omega, by omega⟩
theorem q_chain {x y : Nat} {a0 a1 b1 a2 a3 a5 : Int32} (hk : kd n = 10) (ex : (ga n).toNatClampNeg = x) (ey : (gb n).toNatClampNeg = y) (h1 : hg x + 1 ≤ hg n) (h2 : hg y + 1 ≤ hg n) (h3 : 1 ≤ hg x) (h4 : 1 ≤ hg y) (hEx : E x = true → E n = true) (hE : ¬ (E x = true ∧ E y = true))
    (c0 : cd (pc n) = (4, a0, 0)) (f0 : a0.toNatClampNeg = pc x) (c1 : cd (pc n + 1) = (9, a1, b1)) (e1 : a1.toNatClampNeg = 2) (f1 : b1.toNatClampNeg = pc n + 6) (c2 : cd (pc n + 2) = (4, a2, 0)) (f2 : a2.toNatClampNeg = pc y) (c3 : cd (pc n + 3) = (4, a3, 0)) (f3 : a3.toNatClampNeg = pc x) (c4 : cd (pc n + 4) = (8, 0, 0)) (c5 : cd (pc n + 5) = (12, a5, 0)) (f5 : a5.toNatClampNeg = pc n + 2) (c6 : cd (pc n + 6) = (6, 0, 0))
    (hl : ps.2.1 ≤ 1500) (hb : ps.2.2.2.1 ≤ 300) (hx : ∀ p1 : PS_, ps.2.1 + ps.2.2.2.1 ≤ p1.2.1 + p1.2.2.2.1 → p1.2.1 ≤ 1500 → p1.2.2.2.1 ≤ 300 → Q_ cd en tx len pc hg kd ga gb gc bd E h x d p1) (hy : ∀ p1 : PS_, ps.2.1 + ps.2.2.2.1 ≤ p1.2.1 + p1.2.2.2.1 → p1.2.1 ≤ 1500 → p1.2.2.2.1 ≤ 300 → Q_ cd en tx len pc hg kd ga gb gc bd E h y d p1) : Q_ cd en tx len pc hg kd ga gb gc bd E (h + 1) n d ps := by
  obtain ⟨r0, v0, p0, k0, o0, n0, a, b, ⟨hr, hev, hl0, hb0, hs, hc⟩⟩ := hx ps (Nat.le_refl _) hl hb
  rcases hr with rfl | rfl | rfl
  · refine ⟨0, 0, p0, 0 + (k0 + 1), o0, n0, cs_first0 (by omega) c0 f0 a h1 h3, rs_after0 (v2 := 0) (by omega) ex b h1 h3 (Or.inr ⟨rfl, fun S w => ⟨w, by simp [rs_, hk]⟩⟩), Or.inl rfl, hev, hl0, hb0, fun e => by omega, ?_⟩
    rw [Nat.zero_add]; exact kc_1 hc (by omega)
  · obtain ⟨s1, s2, s3⟩ := hs rfl
    obtain ⟨r, v, p, k, ow, ns, m, w, ⟨hr', hev', hl', hb', hs', hc'⟩⟩ := q_chainL (L := pc n + 2) (t := pc n + 6) (h := h) (d := d) hk ex ey h1 h2 h3 h4 hE c2 f2 c3 f3 c4 c5 f5 c6 hx hy 1800 ps.1 v0 p0 (by omega) (by omega) hl0 hb0
    refine ⟨r, v, p, k0 + 1 + 1 + k, o0 + ow, n0 + ns, cs_chain c0 c1 f0 e1 f1 rfl a h1 h3 m, rs_chain hk ex ey b h1 h3 w, hr', by omega, hl', hb', fun e => ?_, ?_⟩
    · obtain ⟨t1, t2⟩ := hs' e
      refine ⟨by omega, fun e => hEx (s2 (by omega)), fun e => ?_⟩
      by_cases q : p0.1 = ps.1
      · have := t2 (by omega); omega
      · have := s3 q; omega
    · rw [pl_e] at hc'
      rw [be_s, Nat.mul_add (be_ h), Nat.mul_add (al_ h)]
      show _ ≤ 2 * al_ h + 8 + _ + _
      cases hEy : E y with
      | false =>
        rw [hEy, show false.toNat = 0 from rfl] at hc'
        omega
      | true =>
        rw [hEy, show true.toNat = 1 from rfl] at hc'
        have ho : 1 ≤ o0 := s3 (fun q => hE ⟨s2 q, hEy⟩)
        have := al_m (h := h) ho
        omega
  · refine ⟨2, 0, p0, 0 + (k0 + 1), o0, n0, cs_first0 (by omega) c0 f0 a h1 h3, rs_first2 (by omega) ex b h1 h3, Or.inr (Or.inr rfl), hev, hl0, hb0, fun e => by omega, ?_⟩
    rw [Nat.zero_add]; exact kc_1 hc (by omega)
end NODE
/-- every node of a body, at every state: both machines come to one end -/
theorem q_all (hW : WM_ cd en pc hg kd ga gb gc bd E I) : ∀ R h n d (ps : PS_), I n → hg n ≤ h → h ≤ 8 → 1800 ≤ ps.2.1 + ps.2.2.2.1 + R → ps.2.1 ≤ 1500 → ps.2.2.2.1 ≤ 300 → Q_ cd en tx len pc hg kd ga gb gc bd E h n d ps := by
  intro R
  induction R using Nat.strongRecOn with
  | _ R ihR =>
    intro h
    induction h with
    | zero =>
      intro n d ps hI hh
      have := (hW n hI).1
      omega
    | succ h ih =>
      intro n d ps hI hh h8 hR hl hb
      obtain ⟨g1, g8, hc⟩ := hW n hI
      have part : ∀ x, I x → hg x + 1 ≤ hg n → ∀ p1 : PS_, ps.2.1 + ps.2.2.2.1 ≤ p1.2.1 + p1.2.2.2.1 → p1.2.1 ≤ 1500 → p1.2.2.2.1 ≤ 300 → Q_ cd en tx len pc hg kd ga gb gc bd E h x d p1 :=
        fun x hx hxn p1 he h1 h2 => ih x d p1 hx (by omega) (by omega) (by omega) h1 h2
      have one : ∀ x, I x → 1 ≤ hg x := fun x hx => (hW x hx).1
      rcases hc with ⟨hk, hE, c0, c1⟩ | ⟨hk, c0, c1⟩ | ⟨hk, c0, c1⟩ | ⟨hk, c0⟩ | ⟨hk, x, y, hx, hy, ex, ey, h1, h2, hE, a0, a1, c0, e0, c1, e1, c2, c3⟩ | ⟨hk, x, y, hx, hy, ex, ey, h1, h2, hEx, hEy, a0, b0, a1, a4, c0, e0, f0, c1, e1, c2, c3, c4, e4, c5⟩ | ⟨hk, x, hx, ex, h1, hEx, a0, b0, a1, c0, e0, c1, e1, c2, c3⟩ | ⟨hk, hE, x, hx, ex, h1, a0, b0, a1, c0, e0, c1, e1, c2, c3⟩ | ⟨hk, hE, x, hx, ex, h1, a0, b0, a1, c0, e0, f0, c1, e1, c2, c3, c4, c5⟩ | ⟨hk, hEn, x, hx, ex, h1, hE, a1, b1, a2, a4, c0, c1, e1, f1, c2, e2, c3, c4, e4, c5⟩ | ⟨hk, x, y, hx, hy, ex, ey, h1, h2, hEx, hE, a0, a1, b1, a2, a3, a5, c0, f0, c1, e1, f1, c2, f2, c3, f3, c4, c5, f5, c6⟩ | ⟨hk, b, hIb, eb, hEb, c0, e0, c1⟩ | ⟨hk, x, hx, ex, h1, hEx, a0, c0, e0, c1, c2⟩ | ⟨hk, hE, c0, c1⟩
      · exact q_pure g1 hk hE c0 c1 hl hb
      · exact q_look g1 (Or.inl ⟨hk, rfl⟩) c0 c1 hl hb
      · exact q_look g1 (Or.inr ⟨hk, rfl⟩) c0 c1 hl hb
      · exact q_none g1 hk c0 hl hb
      · exact q_then hk ex ey h1 h2 (one x hx) (one y hy) hE c0 e0 c1 e1 c2 c3 (part x hx h1 ps (Nat.le_refl _) hl hb) (part y hy h2)
      · exact q_or hk ex ey h1 h2 (one x hx) (one y hy) hEx hEy c0 e0 f0 c1 e1 c2 c3 c4 e4 c5 (part x hx h1 ps (Nat.le_refl _) hl hb) (part y hy h2)
      · exact q_try hk ex h1 (one x hx) hEx c0 e0 c1 e1 c2 c3 (part x hx h1 ps (Nat.le_refl _) hl hb)
      · exact q_lookx hk hE ex h1 (one x hx) c0 e0 c1 e1 c2 c3 (part x hx h1 ps (Nat.le_refl _) hl hb)
      · exact q_not hk hE ex h1 (one x hx) c0 e0 f0 c1 e1 c2 c3 c4 c5 (part x hx h1 ps (Nat.le_refl _) hl hb)
      · exact q_many g1 hk hEn ex h1 (one x hx) hE c0 c1 e1 f1 c2 e2 c3 c4 e4 c5 hl hb (part x hx h1)
      · exact q_chain hk ex ey h1 h2 (one x hx) (one y hy) hEx hE c0 f0 c1 e1 f1 c2 f2 c3 f3 c4 c5 f5 c6 hl hb (part x hx h1) (part y hy h2)
      · refine q_rule hk g1 eb (hW b hIb).2.1 hEb c0 e0 c1 hl hb (fun q => ?_)
        exact ihR (R - 1) (by omega) 8 b (d + 1) _ hIb (hW b hIb).2.1 (Nat.le_refl _) (by simp; omega) hl (by simp; omega)
      · exact q_keep hk ex h1 (one x hx) hEx c0 e0 c1 c2 (part x hx h1 ps (Nat.le_refl _) hl hb)
      · exact q_kept g1 hk hE c0 c1 hl hb
end SIMU
