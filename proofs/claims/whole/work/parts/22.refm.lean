/-! the other machine over a list: nodes that stand begun, the last first -/
section REFM
abbrev RF_ : Type := Nat × Nat × Nat × Int32 × Nat × Int32
abbrev RC_ : Type := List RF_ × Nat × Int32 × Nat × Nat × PS_
def en_ (n pl : Nat) : RF_ := (n, 0, pl, 0, pl, 0)
def rk_ (tx : Nat → Int32) (len : Nat) (f : RF_) (S : List RF_) (gd : Nat) (vl : Int32) (d : Nat) (ps : PS_) (lo hi : Int32) : RC_ :=
  if 1500 ≤ ps.2.1 then (f :: S, gd, vl, d, 1, ps)
  else if ps.1 < len ∧ lo ≤ tx ps.1 ∧ tx ps.1 ≤ hi then (S, 1, tx ps.1, d, 0, (ps.1 + 1, ps.2.1 + 1, ps.2.2))
  else (S, 0, vl, d, 0, (ps.1, ps.2.1 + 1, mx_ ps.2.2.1 ps.1, ps.2.2.2))
def rs_ (kd : Nat → Nat) (ga gb gc : Nat → Int32) (bd : Nat → Nat) (tx : Nat → Int32) (len : Nat) (c : RC_) : RC_ :=
  match c with
  | ([], gd, vl, d, t, ps) => ([], gd, vl, d, t, ps)
  | ((n, st, sa, an, mrk, sg) :: S, gd, vl, d, _, ps) =>
    if st = 0 then
      (if kd n = 0 then (S, 1, ga n, d, 0, ps)
       else if kd n = 1 then rk_ tx len (n, 1, sa, an, mrk, sg) S gd vl d ps (ga n) (ga n)
       else if kd n = 2 then rk_ tx len (n, 1, sa, an, mrk, sg) S gd vl d ps (ga n) (gb n)
       else if kd n = 3 then (S, 0, vl, d, 0, ps)
       else if kd n = 13 then (S, 1, ps.2.2.2.2 (ga n).toNatClampNeg, d, 0, ps)
       else if kd n = 11 then (en_ (bd (ga n).toNatClampNeg) ps.1 :: (n, 1, sa, an, mrk, sg) :: S, gd, vl, d + 1, (if 40 ≤ d ∨ 300 ≤ ps.2.2.2.1 then 1 else 0), (ps.1, ps.2.1, ps.2.2.1, ps.2.2.2.1 + 1, ps.2.2.2.2))
       else (en_ (ga n).toNatClampNeg ps.1 :: (n, 1, sa, an, mrk, sg) :: S, gd, vl, d, 0, ps))
    else if kd n = 4 then
      (if gd = 0 then (S, 0, vl, d, 0, ps)
       else if st = 2 then (S, 1, jn_ (gc n) an vl, d, 0, ps)
       else (en_ (gb n).toNatClampNeg ps.1 :: (n, 2, sa, vl, mrk, sg) :: S, gd, vl, d, 0, ps))
    else if kd n = 5 then
      (if st = 2 ∨ gd ≠ 0 ∨ ps.1 ≠ sa then (S, gd, vl, d, 0, ps)
       else (en_ (gb n).toNatClampNeg ps.1 :: (n, 2, sa, an, mrk, sg) :: S, gd, vl, d, 0, ps))
    else if kd n = 6 then (S, gd, vl, d, 0, (if gd ≠ 0 then ps else (sa, ps.2)))
    else if kd n = 7 then (S, gd, vl, d, 0, (if gd ≠ 0 then (sa, ps.2) else ps))
    else if kd n = 8 then (if gd ≠ 0 then (S, 0, vl, d, 0, (sa, ps.2)) else (S, 1, 0, d, 0, (sa, ps.2)))
    else if kd n = 9 then
      (if gd = 0 then (if ps.1 = mrk then (S, 1, an, d, 0, ps) else (S, 0, vl, d, 0, ps))
       else (en_ (ga n).toNatClampNeg ps.1 :: (n, st, sa, jn_ (gb n) an vl, ps.1, sg) :: S, gd, vl, d, 0, ps))
    else if kd n = 10 then
      (if gd = 0 then (if st = 1 then (S, 0, vl, d, 0, ps) else if ps.1 = mrk then (S, 1, an, d, 0, ps) else (S, 0, vl, d, 0, ps))
       else if st = 2 then (en_ (ga n).toNatClampNeg ps.1 :: (n, 3, sa, an, mrk, vl) :: S, gd, vl, d, 0, ps)
       else (en_ (gb n).toNatClampNeg ps.1 :: (n, 2, sa, (if st = 1 then vl else jn_ (wy_ sg) an vl), ps.1, sg) :: S, gd, vl, d, 0, ps))
    else if kd n = 11 then (S, gd, vl, d - 1, 0, ps)
    else (S, gd, vl, d, 0, (if gd ≠ 0 then (ps.1, ps.2.1, ps.2.2.1, ps.2.2.2.1, va_up ps.2.2.2.2 (gb n).toNatClampNeg vl) else ps))
/-- k steps, each from a state that isn't tired, with something begun and room -/
def Rg_ (kd : Nat → Nat) (ga gb gc : Nat → Int32) (bd : Nat → Nat) (tx : Nat → Int32) (len : Nat) : Nat → RC_ → RC_ → Prop
  | 0, c, c' => c = c'
  | k + 1, c, c' => (c.2.2.2.2.1 = 0 ∧ c.1 ≠ [] ∧ c.1.length < 399) ∧ Rg_ kd ga gb gc bd tx len k (rs_ kd ga gb gc bd tx len c) c'
variable {kd : Nat → Nat} {ga gb gc : Nat → Int32} {bd : Nat → Nat} {tx : Nat → Int32} {len : Nat}
theorem rg_tr : ∀ {j k : Nat} {a b c : RC_}, Rg_ kd ga gb gc bd tx len j a b → Rg_ kd ga gb gc bd tx len k b c → Rg_ kd ga gb gc bd tx len (j + k) a c := by
  intro j
  induction j with
  | zero => intro k a b c h1 h2; cases h1; rw [Nat.zero_add]; exact h2
  | succ j ih =>
    intro k a b c h1 h2
    rw [Nat.succ_add]
    exact ⟨h1.1, ih h1.2 h2⟩
theorem rg_1 {k : Nat} {f : RF_} {S : List RF_} {gd d : Nat} {vl : Int32} {ps : PS_} {c1 c' : RC_} (hS : S.length < 398) (h1 : rs_ kd ga gb gc bd tx len (f :: S, gd, vl, d, 0, ps) = c1) (hk : Rg_ kd ga gb gc bd tx len k c1 c') : Rg_ kd ga gb gc bd tx len (k + 1) (f :: S, gd, vl, d, 0, ps) c' :=
  ⟨⟨rfl, by simp, by simp; omega⟩, by rw [h1]; exact hk⟩
theorem rg_o {f : RF_} {S : List RF_} {gd d : Nat} {vl : Int32} {ps : PS_} {c1 : RC_} (hS : S.length < 398) (h1 : rs_ kd ga gb gc bd tx len (f :: S, gd, vl, d, 0, ps) = c1) : Rg_ kd ga gb gc bd tx len 1 (f :: S, gd, vl, d, 0, ps) c1 := rg_1 (k := 0) hS h1 rfl
/-- what this machine does with a node that is entered -/
def RS_ (kd : Nat → Nat) (ga gb gc : Nat → Int32) (bd : Nat → Nat) (tx : Nat → Int32) (len : Nat) (hg : Nat → Nat) (n d : Nat) (ps : PS_) (r : Nat) (v : Int32) (ps' : PS_) : Prop :=
  ∀ (S : List RF_) (gd : Nat) (vl : Int32), S.length + hg n ≤ 8 * d → d ≤ 40 → ∃ k c', Rg_ kd ga gb gc bd tx len k (en_ n ps.1 :: S, gd, vl, d, 0, ps) c' ∧
    (r = 1 → c' = (S, 1, v, d, 0, ps')) ∧ (r = 0 → ∃ w, c' = (S, 0, w, d, 0, ps')) ∧
    (r = 2 → c'.2.2.2.2.1 = 1 ∧ c'.2.2.2.2.2.2.1 = ps'.2.1 ∧ c'.2.2.2.2.2.2.2.1 = ps'.2.2.1 ∧ c'.2.2.2.2.2.2.2.2.2 = ps'.2.2.2.2)
variable {hg : Nat → Nat} {n d : Nat} {ps : PS_}
theorem rs_give {v : Int32} {ps' : PS_} (h1 : 1 ≤ hg n) (h : ∀ S gd vl, rs_ kd ga gb gc bd tx len (en_ n ps.1 :: S, gd, vl, d, 0, ps) = (S, 1, v, d, 0, ps')) : RS_ kd ga gb gc bd tx len hg n d ps 1 v ps' :=
  fun S gd vl hS hd => ⟨1, _, rg_o (by omega) (h S gd vl), fun _ => rfl, fun e => by omega, fun e => by omega⟩
theorem rs_fail {ps' : PS_} (h1 : 1 ≤ hg n) (h : ∀ S gd vl, rs_ kd ga gb gc bd tx len (en_ n ps.1 :: S, gd, vl, d, 0, ps) = (S, 0, vl, d, 0, ps')) : RS_ kd ga gb gc bd tx len hg n d ps 0 0 ps' :=
  fun S gd vl hS hd => ⟨1, _, rg_o (by omega) (h S gd vl), fun e => by omega, fun _ => ⟨vl, rfl⟩, fun e => by omega⟩
theorem rs_tired (h1 : 1 ≤ hg n) (h : ∀ S gd vl, (rs_ kd ga gb gc bd tx len (en_ n ps.1 :: S, gd, vl, d, 0, ps)).2.2.2.2.1 = 1 ∧ (rs_ kd ga gb gc bd tx len (en_ n ps.1 :: S, gd, vl, d, 0, ps)).2.2.2.2.2.2.1 = ps.2.1 ∧ (rs_ kd ga gb gc bd tx len (en_ n ps.1 :: S, gd, vl, d, 0, ps)).2.2.2.2.2.2.2.1 = ps.2.2.1 ∧ (rs_ kd ga gb gc bd tx len (en_ n ps.1 :: S, gd, vl, d, 0, ps)).2.2.2.2.2.2.2.2.2 = ps.2.2.2.2) : RS_ kd ga gb gc bd tx len hg n d ps 2 0 ps :=
  fun S gd vl hS hd => ⟨1, _, rg_o (by omega) rfl, fun e => by omega, fun e => by omega, fun _ => h S gd vl⟩
theorem rs_pure (h1 : 1 ≤ hg n) (hk : kd n = 0) : RS_ kd ga gb gc bd tx len hg n d ps 1 (ga n) ps := rs_give h1 (fun S gd vl => by simp [rs_, en_, hk])
theorem rs_none (h1 : 1 ≤ hg n) (hk : kd n = 3) : RS_ kd ga gb gc bd tx len hg n d ps 0 0 ps := rs_fail h1 (fun S gd vl => by simp [rs_, en_, hk])
theorem rs_kept (h1 : 1 ≤ hg n) (hk : kd n = 13) : RS_ kd ga gb gc bd tx len hg n d ps 1 (ps.2.2.2.2 (ga n).toNatClampNeg) ps := rs_give h1 (fun S gd vl => by simp [rs_, en_, hk])
/-- SIGN (hi is its own character) and RANGE -/
theorem rs_look {hi : Int32} (h1 : 1 ≤ hg n) (hk : (kd n = 1 ∧ hi = ga n) ∨ (kd n = 2 ∧ hi = gb n)) :
    (1500 ≤ ps.2.1 → RS_ kd ga gb gc bd tx len hg n d ps 2 0 ps) ∧
    (¬ 1500 ≤ ps.2.1 → lk_ tx len ps.1 (ga n) hi → RS_ kd ga gb gc bd tx len hg n d ps 1 (tx ps.1) (ps.1 + 1, ps.2.1 + 1, ps.2.2)) ∧
    (¬ 1500 ≤ ps.2.1 → ¬ lk_ tx len ps.1 (ga n) hi → RS_ kd ga gb gc bd tx len hg n d ps 0 0 (ps.1, ps.2.1 + 1, mx_ ps.2.2.1 ps.1, ps.2.2.2)) := by
  have hs : ∀ S gd vl, rs_ kd ga gb gc bd tx len (en_ n ps.1 :: S, gd, vl, d, 0, ps) = rk_ tx len (n, 1, ps.1, 0, ps.1, 0) S gd vl d ps (ga n) hi := by
    intro S gd vl
    rcases hk with ⟨hk, rfl⟩ | ⟨hk, rfl⟩ <;> simp [rs_, en_, hk]
  refine ⟨fun hl => rs_tired h1 (fun S gd vl => ?_), fun hl hc => rs_give h1 (fun S gd vl => ?_), fun hl hc => rs_fail h1 (fun S gd vl => ?_)⟩
  · rw [hs]; simp [rk_, hl]
  · rw [hs]; unfold lk_ at hc; simp only [rk_]; rw [if_neg hl, if_pos hc]
  · rw [hs]; unfold lk_ at hc; simp only [rk_]; rw [if_neg hl, if_neg hc]
/-- a node that begins with its first part -/
theorem rs_begin {S : List RF_} {gd : Nat} {vl : Int32} (hk : kd n = 4 ∨ kd n = 5 ∨ kd n = 6 ∨ kd n = 7 ∨ kd n = 8 ∨ kd n = 9 ∨ kd n = 10 ∨ kd n = 12) :
    rs_ kd ga gb gc bd tx len (en_ n ps.1 :: S, gd, vl, d, 0, ps) = (en_ (ga n).toNatClampNeg ps.1 :: (n, 1, ps.1, 0, ps.1, 0) :: S, gd, vl, d, 0, ps) := by
  rcases hk with hk | hk | hk | hk | hk | hk | hk | hk <;> simp [rs_, en_, hk]
/-- a part that is tired makes the whole so -/
theorem rs_tired1 {x j : Nat} {p1 ps' : PS_} {v : Int32} (hx : RS_ kd ga gb gc bd tx len hg x d p1 2 v ps') (hh : hg x + 1 ≤ hg n)
    (ha : ∀ S gd vl, S.length + hg n ≤ 8 * d → d ≤ 40 → ∃ j f gd' vl', Rg_ kd ga gb gc bd tx len j (en_ n ps.1 :: S, gd, vl, d, 0, ps) (en_ x p1.1 :: f :: S, gd', vl', d, 0, p1)) : RS_ kd ga gb gc bd tx len hg n d ps 2 0 ps' := by
  intro S gd vl hS hd
  obtain ⟨j, f, gd', vl', g0⟩ := ha S gd vl hS hd
  obtain ⟨k, c', g1, -, -, h2⟩ := hx (f :: S) gd' vl' (by simp; omega) hd
  exact ⟨j + k, c', rg_tr g0 g1, fun e => by omega, fun e => by omega, fun _ => h2 rfl⟩
/-- a first part, run: what stands behind it -/
theorem rs_first {x r : Nat} {p1 : PS_} {v : Int32} (hk : kd n = 4 ∨ kd n = 5 ∨ kd n = 6 ∨ kd n = 7 ∨ kd n = 8 ∨ kd n = 9 ∨ kd n = 10 ∨ kd n = 12) (ex : (ga n).toNatClampNeg = x) (hx : RS_ kd ga gb gc bd tx len hg x d ps r v p1) (hh : hg x + 1 ≤ hg n) (hx1 : 1 ≤ hg x)
    {S : List RF_} {gd : Nat} {vl : Int32} (hS : S.length + hg n ≤ 8 * d) (hd : d ≤ 40) :
    (r = 1 → ∃ k, Rg_ kd ga gb gc bd tx len k (en_ n ps.1 :: S, gd, vl, d, 0, ps) ((n, 1, ps.1, 0, ps.1, 0) :: S, 1, v, d, 0, p1)) ∧
    (r = 0 → ∃ k w, Rg_ kd ga gb gc bd tx len k (en_ n ps.1 :: S, gd, vl, d, 0, ps) ((n, 1, ps.1, 0, ps.1, 0) :: S, 0, w, d, 0, p1)) := by
  have g0 := rg_o (kd := kd) (ga := ga) (gb := gb) (gc := gc) (bd := bd) (tx := tx) (len := len) (S := S) (gd := gd) (vl := vl) (d := d) (ps := ps) (f := en_ n ps.1) (by omega) (rs_begin hk)
  rw [ex] at g0
  obtain ⟨k, c', g1, h1, h0, -⟩ := hx ((n, 1, ps.1, 0, ps.1, 0) :: S) gd vl (by simp; omega) hd
  refine ⟨fun e => ?_, fun e => ?_⟩
  · have := h1 e; subst this
    exact ⟨_, rg_tr g0 g1⟩
  · obtain ⟨w, this⟩ := h0 e; subst this
    exact ⟨_, w, rg_tr g0 g1⟩
/-- what a node does when its first part has given, resp. failed, in one step more -/
theorem rs_after1 {x r : Nat} {p1 p2 : PS_} {v v2 : Int32} (hk : kd n = 4 ∨ kd n = 5 ∨ kd n = 6 ∨ kd n = 7 ∨ kd n = 8 ∨ kd n = 9 ∨ kd n = 10 ∨ kd n = 12) (ex : (ga n).toNatClampNeg = x) (hx : RS_ kd ga gb gc bd tx len hg x d ps 1 v p1) (hh : hg x + 1 ≤ hg n) (hx1 : 1 ≤ hg x)
    (h : (r = 1 ∧ ∀ S, rs_ kd ga gb gc bd tx len ((n, 1, ps.1, 0, ps.1, 0) :: S, 1, v, d, 0, p1) = (S, 1, v2, d, 0, p2)) ∨ (r = 0 ∧ ∀ S, ∃ w, rs_ kd ga gb gc bd tx len ((n, 1, ps.1, 0, ps.1, 0) :: S, 1, v, d, 0, p1) = (S, 0, w, d, 0, p2))) : RS_ kd ga gb gc bd tx len hg n d ps r v2 p2 := by
  intro S gd vl hS hd
  obtain ⟨k, g1⟩ := (rs_first hk ex hx hh hx1 (gd := gd) (vl := vl) hS hd).1 rfl
  rcases h with ⟨rfl, h⟩ | ⟨rfl, h⟩
  · exact ⟨k + 1, _, rg_tr g1 (rg_o (by omega) (h S)), fun _ => rfl, fun e => by omega, fun e => by omega⟩
  · obtain ⟨w, h⟩ := h S
    exact ⟨k + 1, _, rg_tr g1 (rg_o (by omega) h), fun e => by omega, fun _ => ⟨w, rfl⟩, fun e => by omega⟩
theorem rs_after0 {x r : Nat} {p1 p2 : PS_} {v v2 : Int32} (hk : kd n = 4 ∨ kd n = 5 ∨ kd n = 6 ∨ kd n = 7 ∨ kd n = 8 ∨ kd n = 9 ∨ kd n = 10 ∨ kd n = 12) (ex : (ga n).toNatClampNeg = x) (hx : RS_ kd ga gb gc bd tx len hg x d ps 0 v p1) (hh : hg x + 1 ≤ hg n) (hx1 : 1 ≤ hg x)
    (h : (r = 1 ∧ ∀ S w, rs_ kd ga gb gc bd tx len ((n, 1, ps.1, 0, ps.1, 0) :: S, 0, w, d, 0, p1) = (S, 1, v2, d, 0, p2)) ∨ (r = 0 ∧ ∀ S w, ∃ w', rs_ kd ga gb gc bd tx len ((n, 1, ps.1, 0, ps.1, 0) :: S, 0, w, d, 0, p1) = (S, 0, w', d, 0, p2))) : RS_ kd ga gb gc bd tx len hg n d ps r v2 p2 := by
  intro S gd vl hS hd
  obtain ⟨k, w, g1⟩ := (rs_first hk ex hx hh hx1 (gd := gd) (vl := vl) hS hd).2 rfl
  rcases h with ⟨rfl, h⟩ | ⟨rfl, h⟩
  · exact ⟨k + 1, _, rg_tr g1 (rg_o (by omega) (h S w)), fun _ => rfl, fun e => by omega, fun e => by omega⟩
  · obtain ⟨w', h⟩ := h S w
    exact ⟨k + 1, _, rg_tr g1 (rg_o (by omega) h), fun e => by omega, fun _ => ⟨w', rfl⟩, fun e => by omega⟩
theorem rs_first2 {x : Nat} {p1 : PS_} {v : Int32} (hk : kd n = 4 ∨ kd n = 5 ∨ kd n = 6 ∨ kd n = 7 ∨ kd n = 8 ∨ kd n = 9 ∨ kd n = 10 ∨ kd n = 12) (ex : (ga n).toNatClampNeg = x) (hx : RS_ kd ga gb gc bd tx len hg x d ps 2 v p1) (hh : hg x + 1 ≤ hg n) (hx1 : 1 ≤ hg x) : RS_ kd ga gb gc bd tx len hg n d ps 2 0 p1 := by
  refine rs_tired1 (j := 0) hx hh (fun S gd vl hS hd => ⟨1, (n, 1, ps.1, 0, ps.1, 0), gd, vl, ?_⟩)
  have g0 := rg_o (kd := kd) (ga := ga) (gb := gb) (gc := gc) (bd := bd) (tx := tx) (len := len) (S := S) (gd := gd) (vl := vl) (d := d) (ps := ps) (f := en_ n ps.1) (by omega) (rs_begin hk)
  rw [ex] at g0
  exact g0
/-- a second part y, entered over the frame f2 -/
theorem rs_two {y r2 r : Nat} {f2 : RF_} {p1 p2 p3 : PS_} {v2 v3 : Int32} (ha : ∀ (S : List RF_) (gd : Nat) (vl : Int32), S.length + hg n ≤ 8 * d → d ≤ 40 → ∃ j gd' vl', Rg_ kd ga gb gc bd tx len j (en_ n ps.1 :: S, gd, vl, d, 0, ps) (en_ y p1.1 :: f2 :: S, gd', vl', d, 0, p1)) (hy : RS_ kd ga gb gc bd tx len hg y d p1 r2 v2 p2) (hh : hg y + 1 ≤ hg n) (hy1 : 1 ≤ hg y)
    (h : (r2 = 1 ∧ r = 1 ∧ ∀ S, rs_ kd ga gb gc bd tx len (f2 :: S, 1, v2, d, 0, p2) = (S, 1, v3, d, 0, p3)) ∨ (r2 = 0 ∧ r = 0 ∧ ∀ S w, ∃ w', rs_ kd ga gb gc bd tx len (f2 :: S, 0, w, d, 0, p2) = (S, 0, w', d, 0, p3)) ∨ (r2 = 2 ∧ r = 2 ∧ p3 = p2)) : RS_ kd ga gb gc bd tx len hg n d ps r v3 p3 := by
  intro S gd vl hS hd
  obtain ⟨j, gd', vl', g0⟩ := ha S gd vl hS hd
  obtain ⟨k, c', g1, h1, h0, h2⟩ := hy (f2 :: S) gd' vl' (by simp; omega) hd
  rcases h with ⟨rfl, rfl, h⟩ | ⟨rfl, rfl, h⟩ | ⟨rfl, rfl, rfl⟩
  · have := h1 rfl; subst this
    exact ⟨_, _, rg_tr (rg_tr g0 g1) (rg_o (by omega) (h S)), fun _ => rfl, fun e => by omega, fun e => by omega⟩
  · obtain ⟨w, this⟩ := h0 rfl; subst this
    obtain ⟨w', h⟩ := h S w
    exact ⟨_, _, rg_tr (rg_tr g0 g1) (rg_o (by omega) h), fun e => by omega, fun _ => ⟨w', rfl⟩, fun e => by omega⟩
  · exact ⟨_, c', rg_tr g0 g1, fun e => by omega, fun e => by omega, fun _ => h2 rfl⟩
theorem rs_then {x y r2 r : Nat} {p1 p2 : PS_} {v1 v2 v3 : Int32} (hk : kd n = 4) (ex : (ga n).toNatClampNeg = x) (ey : (gb n).toNatClampNeg = y) (hx : RS_ kd ga gb gc bd tx len hg x d ps 1 v1 p1) (hy : RS_ kd ga gb gc bd tx len hg y d p1 r2 v2 p2) (h1 : hg x + 1 ≤ hg n) (h2 : hg y + 1 ≤ hg n) (h3 : 1 ≤ hg x) (h4 : 1 ≤ hg y)
    (h : (r2 = 1 ∧ r = 1 ∧ v3 = jn_ (gc n) v1 v2) ∨ (r2 = 0 ∧ r = 0) ∨ (r2 = 2 ∧ r = 2)) : RS_ kd ga gb gc bd tx len hg n d ps r v3 p2 := by
  refine rs_two (p1 := p1) (f2 := (n, 2, ps.1, v1, ps.1, 0)) (y := y) (fun S gd vl hS hd => ?_) hy h2 h4 ?_
  · obtain ⟨k, g1⟩ := (rs_first (Or.inl hk) ex hx h1 h3 (gd := gd) (vl := vl) hS hd).1 rfl
    exact ⟨k + 1, 1, v1, rg_tr g1 (rg_o (by omega) (by simp [rs_, hk, ey]))⟩
  · rcases h with ⟨rfl, rfl, rfl⟩ | ⟨rfl, rfl⟩ | ⟨rfl, rfl⟩
    · exact Or.inl ⟨rfl, rfl, fun S => by simp [rs_, hk]⟩
    · exact Or.inr (Or.inl ⟨rfl, rfl, fun S w => ⟨w, by simp [rs_, hk]⟩⟩)
    · exact Or.inr (Or.inr ⟨rfl, rfl, rfl⟩)
theorem rs_or2 {x y r2 : Nat} {p1 p2 : PS_} {v1 v2 : Int32} (hk : kd n = 5) (ex : (ga n).toNatClampNeg = x) (ey : (gb n).toNatClampNeg = y) (heq : p1.1 = ps.1) (hx : RS_ kd ga gb gc bd tx len hg x d ps 0 v1 p1) (hy : RS_ kd ga gb gc bd tx len hg y d p1 r2 v2 p2) (h1 : hg x + 1 ≤ hg n) (h2 : hg y + 1 ≤ hg n) (h3 : 1 ≤ hg x) (h4 : 1 ≤ hg y) (hr : r2 = 0 ∨ r2 = 1 ∨ r2 = 2) :
    RS_ kd ga gb gc bd tx len hg n d ps r2 v2 p2 := by
  refine rs_two (p1 := p1) (f2 := (n, 2, ps.1, 0, ps.1, 0)) (y := y) (fun S gd vl hS hd => ?_) hy h2 h4 ?_
  · obtain ⟨k, w, g1⟩ := (rs_first (Or.inr (Or.inl hk)) ex hx h1 h3 (gd := gd) (vl := vl) hS hd).2 rfl
    exact ⟨k + 1, 0, w, rg_tr g1 (rg_o (by omega) (by simp [rs_, hk, ey, heq]))⟩
  · rcases hr with rfl | rfl | rfl
    · exact Or.inr (Or.inl ⟨rfl, rfl, fun S w => ⟨w, by simp [rs_, hk]⟩⟩)
    · exact Or.inl ⟨rfl, rfl, fun S => by simp [rs_, hk]⟩
    · exact Or.inr (Or.inr ⟨rfl, rfl, rfl⟩)
/-- the loops: a turn's head, the part z just entered over the node's frame, whose mark is the turn's place -/
def RL_ (kd : Nat → Nat) (ga gb gc : Nat → Int32) (bd : Nat → Nat) (tx : Nat → Int32) (len : Nat) (hg : Nat → Nat) (z st n d sa : Nat) (acc : Int32) (ps : PS_) (r : Nat) (v : Int32) (ps' : PS_) : Prop :=
  ∀ (sg : Int32) (S : List RF_) (gd : Nat) (vl : Int32), S.length + hg n ≤ 8 * d → d ≤ 40 → ∃ k c', Rg_ kd ga gb gc bd tx len k (en_ z ps.1 :: (n, st, sa, acc, ps.1, sg) :: S, gd, vl, d, 0, ps) c' ∧
    (r = 1 → c' = (S, 1, v, d, 0, ps')) ∧ (r = 0 → ∃ w, c' = (S, 0, w, d, 0, ps')) ∧
    (r = 2 → c'.2.2.2.2.1 = 1 ∧ c'.2.2.2.2.2.2.1 = ps'.2.1 ∧ c'.2.2.2.2.2.2.2.1 = ps'.2.2.1 ∧ c'.2.2.2.2.2.2.2.2.2 = ps'.2.2.2.2)
theorem rl_then {z st sa r : Nat} {acc acc1 v : Int32} {p1 ps' : PS_} (ha : ∀ (sg : Int32) (S : List RF_) (gd : Nat) (vl : Int32), S.length + hg n ≤ 8 * d → d ≤ 40 → ∃ k sg' gd' vl', Rg_ kd ga gb gc bd tx len k (en_ z ps.1 :: (n, st, sa, acc, ps.1, sg) :: S, gd, vl, d, 0, ps) (en_ z p1.1 :: (n, st, sa, acc1, p1.1, sg') :: S, gd', vl', d, 0, p1))
    (h : RL_ kd ga gb gc bd tx len hg z st n d sa acc1 p1 r v ps') : RL_ kd ga gb gc bd tx len hg z st n d sa acc ps r v ps' := by
  intro sg S gd vl hS hd
  obtain ⟨k, sg', gd', vl', g0⟩ := ha sg S gd vl hS hd
  obtain ⟨k2, c', g1, q⟩ := h sg' S gd' vl' hS hd
  exact ⟨_, c', rg_tr g0 g1, q⟩
theorem rl_many {x sa r : Nat} {acc v1 v : Int32} {p1 ps' : PS_} (hk : kd n = 9) (ex : (ga n).toNatClampNeg = x) (hx : RS_ kd ga gb gc bd tx len hg x d ps 1 v1 p1) (h1 : hg x + 1 ≤ hg n) (h3 : 1 ≤ hg x) (h : RL_ kd ga gb gc bd tx len hg x 1 n d sa (jn_ (gb n) acc v1) p1 r v ps') : RL_ kd ga gb gc bd tx len hg x 1 n d sa acc ps r v ps' := by
  refine rl_then (fun sg S gd vl hS hd => ?_) h
  obtain ⟨k, c', g1, q1, -, -⟩ := hx ((n, 1, sa, acc, ps.1, sg) :: S) gd vl (by simp; omega) hd
  have := q1 rfl; subst this
  exact ⟨k + 1, sg, 1, v1, rg_tr g1 (rg_o (by omega) (by simp [rs_, hk, ex]))⟩
theorem rl_chain {x y sa r : Nat} {acc v1 v2 v : Int32} {p1 p2 ps' : PS_} (hk : kd n = 10) (ex : (ga n).toNatClampNeg = x) (ey : (gb n).toNatClampNeg = y) (hy : RS_ kd ga gb gc bd tx len hg y d ps 1 v1 p1) (hx : RS_ kd ga gb gc bd tx len hg x d p1 1 v2 p2) (h1 : hg x + 1 ≤ hg n) (h2 : hg y + 1 ≤ hg n) (h3 : 1 ≤ hg x) (h4 : 1 ≤ hg y)
    (h : RL_ kd ga gb gc bd tx len hg y 2 n d sa (jn_ (wy_ v1) acc v2) p2 r v ps') : RL_ kd ga gb gc bd tx len hg y 2 n d sa acc ps r v ps' := by
  refine rl_then (fun sg S gd vl hS hd => ?_) h
  obtain ⟨k, c', g1, q1, -, -⟩ := hy ((n, 2, sa, acc, ps.1, sg) :: S) gd vl (by simp; omega) hd
  have := q1 rfl; subst this
  have g2 : Rg_ kd ga gb gc bd tx len 1 ((n, 2, sa, acc, ps.1, sg) :: S, 1, v1, d, 0, p1) (en_ x p1.1 :: (n, 3, sa, acc, ps.1, v1) :: S, 1, v1, d, 0, p1) := rg_o (by omega) (by simp [rs_, hk, ex])
  obtain ⟨k3, c', g3, q3, -, -⟩ := hx ((n, 3, sa, acc, ps.1, v1) :: S) 1 v1 (by simp; omega) hd
  have := q3 rfl; subst this
  have g4 : Rg_ kd ga gb gc bd tx len 1 ((n, 3, sa, acc, ps.1, v1) :: S, 1, v2, d, 0, p2) (en_ y p2.1 :: (n, 2, sa, jn_ (wy_ v1) acc v2, p2.1, v1) :: S, 1, v2, d, 0, p2) := rg_o (by omega) (by simp [rs_, hk, ey])
  exact ⟨_, v1, 1, v2, rg_tr g1 (rg_tr g2 (rg_tr g3 g4))⟩
/-- the last turn -/
theorem rl_last {x z st sa r : Nat} {acc v1 : Int32} {p0 p1 : PS_} (hr : r ≠ 1) (hx : RS_ kd ga gb gc bd tx len hg x d p0 r v1 p1) (h1 : hg x + 1 ≤ hg n) (h3 : 1 ≤ hg x) (st' : Nat) (hst : (kd n = 9 ∧ st' = 1) ∨ (kd n = 10 ∧ (st' = 2 ∨ st' = 3)))
    (ha : ∀ (sg : Int32) (S : List RF_) (gd : Nat) (vl : Int32), S.length + hg n ≤ 8 * d → d ≤ 40 → ∃ k sg' gd' vl', Rg_ kd ga gb gc bd tx len k (en_ z ps.1 :: (n, st, sa, acc, ps.1, sg) :: S, gd, vl, d, 0, ps) (en_ x p0.1 :: (n, st', sa, acc, ps.1, sg') :: S, gd', vl', d, 0, p0)) :
    (r = 0 → p1.1 = ps.1 → RL_ kd ga gb gc bd tx len hg z st n d sa acc ps 1 acc p1) ∧ (r = 0 → p1.1 ≠ ps.1 → RL_ kd ga gb gc bd tx len hg z st n d sa acc ps 0 0 p1) ∧ (r = 2 → RL_ kd ga gb gc bd tx len hg z st n d sa acc ps 2 0 p1) := by
  refine ⟨fun e he => ?_, fun e he => ?_, fun e => ?_⟩
  · intro sg S gd vl hS hd
    obtain ⟨k, sg', gd', vl', g0⟩ := ha sg S gd vl hS hd
    obtain ⟨k2, c', g1, -, q0, -⟩ := hx ((n, st', sa, acc, ps.1, sg') :: S) gd' vl' (by simp; omega) hd
    obtain ⟨w, this⟩ := q0 e; subst this
    have g2 : Rg_ kd ga gb gc bd tx len 1 ((n, st', sa, acc, ps.1, sg') :: S, 0, w, d, 0, p1) (S, 1, acc, d, 0, p1) := rg_o (by omega) (by rcases hst with ⟨hk, rfl⟩ | ⟨hk, rfl | rfl⟩ <;> simp [rs_, hk, he])
    exact ⟨_, _, rg_tr g0 (rg_tr g1 g2), fun _ => rfl, fun e => by omega, fun e => by omega⟩
  · intro sg S gd vl hS hd
    obtain ⟨k, sg', gd', vl', g0⟩ := ha sg S gd vl hS hd
    obtain ⟨k2, c', g1, -, q0, -⟩ := hx ((n, st', sa, acc, ps.1, sg') :: S) gd' vl' (by simp; omega) hd
    obtain ⟨w, this⟩ := q0 e; subst this
    have g2 : Rg_ kd ga gb gc bd tx len 1 ((n, st', sa, acc, ps.1, sg') :: S, 0, w, d, 0, p1) (S, 0, w, d, 0, p1) := rg_o (by omega) (by rcases hst with ⟨hk, rfl⟩ | ⟨hk, rfl | rfl⟩ <;> simp [rs_, hk, he])
    exact ⟨_, _, rg_tr g0 (rg_tr g1 g2), fun e => by omega, fun _ => ⟨w, rfl⟩, fun e => by omega⟩
  · intro sg S gd vl hS hd
    obtain ⟨k, sg', gd', vl', g0⟩ := ha sg S gd vl hS hd
    obtain ⟨k2, c', g1, -, -, q2⟩ := hx ((n, st', sa, acc, ps.1, sg') :: S) gd' vl' (by simp; omega) hd
    exact ⟨_, c', rg_tr g0 g1, fun e => by omega, fun e => by omega, fun _ => q2 e⟩
theorem rl_many_last {x sa r : Nat} {acc v1 : Int32} {p1 : PS_} (hk : kd n = 9) (hr : r ≠ 1) (hx : RS_ kd ga gb gc bd tx len hg x d ps r v1 p1) (h1 : hg x + 1 ≤ hg n) (h3 : 1 ≤ hg x) :
    (r = 0 → p1.1 = ps.1 → RL_ kd ga gb gc bd tx len hg x 1 n d sa acc ps 1 acc p1) ∧ (r = 0 → p1.1 ≠ ps.1 → RL_ kd ga gb gc bd tx len hg x 1 n d sa acc ps 0 0 p1) ∧ (r = 2 → RL_ kd ga gb gc bd tx len hg x 1 n d sa acc ps 2 0 p1) :=
  rl_last hr hx h1 h3 1 (Or.inl ⟨hk, rfl⟩) (fun sg S gd vl _ _ => ⟨0, sg, gd, vl, rfl⟩)
theorem rl_chain_last1 {y sa r : Nat} {acc v1 : Int32} {p1 : PS_} (hk : kd n = 10) (hr : r ≠ 1) (hy : RS_ kd ga gb gc bd tx len hg y d ps r v1 p1) (h2 : hg y + 1 ≤ hg n) (h4 : 1 ≤ hg y) :
    (r = 0 → p1.1 = ps.1 → RL_ kd ga gb gc bd tx len hg y 2 n d sa acc ps 1 acc p1) ∧ (r = 0 → p1.1 ≠ ps.1 → RL_ kd ga gb gc bd tx len hg y 2 n d sa acc ps 0 0 p1) ∧ (r = 2 → RL_ kd ga gb gc bd tx len hg y 2 n d sa acc ps 2 0 p1) :=
  rl_last hr hy h2 h4 2 (Or.inr ⟨hk, Or.inl rfl⟩) (fun sg S gd vl _ _ => ⟨0, sg, gd, vl, rfl⟩)
theorem rl_chain_last2 {x y sa r : Nat} {acc v1 v2 : Int32} {p1 p2 : PS_} (hk : kd n = 10) (ex : (ga n).toNatClampNeg = x) (hr : r ≠ 1) (hy : RS_ kd ga gb gc bd tx len hg y d ps 1 v1 p1) (hx : RS_ kd ga gb gc bd tx len hg x d p1 r v2 p2) (h1 : hg x + 1 ≤ hg n) (h2 : hg y + 1 ≤ hg n) (h3 : 1 ≤ hg x) (h4 : 1 ≤ hg y) :
    (r = 0 → p2.1 = ps.1 → RL_ kd ga gb gc bd tx len hg y 2 n d sa acc ps 1 acc p2) ∧ (r = 0 → p2.1 ≠ ps.1 → RL_ kd ga gb gc bd tx len hg y 2 n d sa acc ps 0 0 p2) ∧ (r = 2 → RL_ kd ga gb gc bd tx len hg y 2 n d sa acc ps 2 0 p2) := by
  refine rl_last hr hx h1 h3 3 (Or.inr ⟨hk, Or.inr rfl⟩) (fun sg S gd vl hS hd => ?_)
  obtain ⟨k, c', g1, q1, -, -⟩ := hy ((n, 2, sa, acc, ps.1, sg) :: S) gd vl (by simp; omega) hd
  have := q1 rfl; subst this
  exact ⟨k + 1, v1, 1, v1, rg_tr g1 (rg_o (by omega) (by simp [rs_, hk, ex]))⟩
theorem rs_many {x r : Nat} {v : Int32} {ps' : PS_} (hk : kd n = 9) (ex : (ga n).toNatClampNeg = x) (h1 : 1 ≤ hg n) (h : RL_ kd ga gb gc bd tx len hg x 1 n d ps.1 0 ps r v ps') : RS_ kd ga gb gc bd tx len hg n d ps r v ps' := by
  intro S gd vl hS hd
  have g0 := rg_o (kd := kd) (ga := ga) (gb := gb) (gc := gc) (bd := bd) (tx := tx) (len := len) (S := S) (gd := gd) (vl := vl) (d := d) (ps := ps) (f := en_ n ps.1) (by omega) (rs_begin (by omega))
  rw [ex] at g0
  obtain ⟨k, c', g1, q⟩ := h 0 S gd vl hS hd
  exact ⟨_, c', rg_tr g0 g1, q⟩
theorem rs_chain {x y r : Nat} {v v1 : Int32} {p1 ps' : PS_} (hk : kd n = 10) (ex : (ga n).toNatClampNeg = x) (ey : (gb n).toNatClampNeg = y) (hx : RS_ kd ga gb gc bd tx len hg x d ps 1 v1 p1) (h1 : hg x + 1 ≤ hg n) (h3 : 1 ≤ hg x) (h : RL_ kd ga gb gc bd tx len hg y 2 n d ps.1 v1 p1 r v ps') : RS_ kd ga gb gc bd tx len hg n d ps r v ps' := by
  intro S gd vl hS hd
  obtain ⟨k, g1⟩ := (rs_first (by omega) ex hx h1 h3 (gd := gd) (vl := vl) hS hd).1 rfl
  have g2 : Rg_ kd ga gb gc bd tx len 1 ((n, 1, ps.1, 0, ps.1, 0) :: S, 1, v1, d, 0, p1) (en_ y p1.1 :: (n, 2, ps.1, v1, p1.1, 0) :: S, 1, v1, d, 0, p1) := rg_o (by omega) (by simp [rs_, hk, ey])
  obtain ⟨k2, c', g3, q⟩ := h 0 S 1 v1 hS hd
  exact ⟨_, c', rg_tr g1 (rg_tr g2 g3), q⟩
theorem rs_rule2 (h1 : 1 ≤ hg n) (hk : kd n = 11) (hl : 40 ≤ d ∨ 300 ≤ ps.2.2.2.1) : RS_ kd ga gb gc bd tx len hg n d ps 2 0 ps := rs_tired h1 (fun S gd vl => by simp [rs_, en_, hk, hl])
theorem rs_rule {b r : Nat} {p1 : PS_} {v1 : Int32} (h1 : 1 ≤ hg n) (hk : kd n = 11) (eb : bd (ga n).toNatClampNeg = b) (hl : ¬ (40 ≤ d ∨ 300 ≤ ps.2.2.2.1)) (hb : hg b ≤ 8) (hx : RS_ kd ga gb gc bd tx len hg b (d + 1) (ps.1, ps.2.1, ps.2.2.1, ps.2.2.2.1 + 1, ps.2.2.2.2) r v1 p1) (hr : r = 0 ∨ r = 1 ∨ r = 2) : RS_ kd ga gb gc bd tx len hg n d ps r v1 p1 := by
  intro S gd vl hS hd
  have g0 : Rg_ kd ga gb gc bd tx len 1 (en_ n ps.1 :: S, gd, vl, d, 0, ps) (en_ b ps.1 :: (n, 1, ps.1, 0, ps.1, 0) :: S, gd, vl, d + 1, 0, (ps.1, ps.2.1, ps.2.2.1, ps.2.2.2.1 + 1, ps.2.2.2.2)) := rg_o (by omega) (by
    simp only [rs_, en_, hk, eb]
    simp [hl])
  obtain ⟨k, c', g1, q1, q0, q2⟩ := hx ((n, 1, ps.1, 0, ps.1, 0) :: S) gd vl (by simp; omega) (by omega)
  rcases hr with rfl | rfl | rfl
  · obtain ⟨w, this⟩ := q0 rfl; subst this
    have g2 : Rg_ kd ga gb gc bd tx len 1 ((n, 1, ps.1, 0, ps.1, 0) :: S, 0, w, d + 1, 0, p1) (S, 0, w, d, 0, p1) := rg_o (by omega) (by simp [rs_, hk])
    exact ⟨_, _, rg_tr g0 (rg_tr g1 g2), fun e => by omega, fun _ => ⟨w, rfl⟩, fun e => by omega⟩
  · have := q1 rfl; subst this
    have g2 : Rg_ kd ga gb gc bd tx len 1 ((n, 1, ps.1, 0, ps.1, 0) :: S, 1, v1, d + 1, 0, p1) (S, 1, v1, d, 0, p1) := rg_o (by omega) (by simp [rs_, hk])
    exact ⟨_, _, rg_tr g0 (rg_tr g1 g2), fun _ => rfl, fun e => by omega, fun e => by omega⟩
  · exact ⟨_, c', rg_tr g0 g1, fun e => by omega, fun e => by omega, fun _ => q2 rfl⟩
end REFM
