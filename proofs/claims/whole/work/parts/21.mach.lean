/-! the small machine over lists: frames and answers, the last first -/
section MACH
abbrev Fr_ : Type := Nat × Nat × Nat × Nat
abbrev PS_ : Type := Nat × Nat × Int32 × Nat × (Nat → Int32)
abbrev MC_ : Type := List Fr_ × List Int32 × Nat × Nat × Nat × PS_
def jn_ (way v w : Int32) : Int32 := if way = 1 then w else if way = 2 then v + w else if way = 3 then v - w else if way = 4 then v * w else if way = 5 then 10 * v + w - 48 else if way = 6 then (if v < w then w else v) else if way = 7 then (if v = w then 1 else 0) else v
def wy_ (sign : Int32) : Int32 := if sign = 43 then 2 else if sign = 45 then 3 else if sign = 42 then 4 else 0
/-- a failure at place a goes down through what stands -/
def unw_ : List Fr_ → List Int32 → Nat → Nat → Nat → PS_ → MC_
  | [], As, a, d, nx, ps => ([], As, nx, d, 2, (a, ps.2))
  | fr :: F, As, a, d, nx, ps =>
    if fr.1 = 5 ∨ (fr.1 = 2 ∧ a = fr.2.2.1) then (F, As.drop (As.length - fr.2.2.2), fr.2.1, d, 0, (fr.2.2.1, ps.2))
    else unw_ F As (if fr.1 = 3 then fr.2.2.1 else a) (if fr.1 = 1 then d - 1 else d) nx ps
/-- what a look says: the character is there and lies between -/
def lk_ (tx : Nat → Int32) (len : Nat) (pl : Nat) (lo hi : Int32) : Prop := pl < len ∧ lo ≤ tx pl ∧ tx pl ≤ hi
def mx_ (fa : Int32) (pl : Nat) : Int32 := if fa < nI pl then nI pl else fa
noncomputable def ms_ (cd : Nat → Nat × Int32 × Int32) (en : Nat → Nat) (tx : Nat → Int32) (len : Nat) (c : MC_) : MC_ :=
  let F := c.1
  let As := c.2.1
  let nx := c.2.2.1
  let d := c.2.2.2.1
  let ps := c.2.2.2.2.2
  let o := (cd nx).1
  let p := (cd nx).2.1
  let q := (cd nx).2.2
  if o = 1 then (F, p :: As, nx + 1, d, 0, ps)
  else if o = 2 then
    (if 1500 ≤ ps.2.1 then (F, As, nx + 1, d, 3, ps)
     else if ps.1 < len ∧ p ≤ tx ps.1 ∧ tx ps.1 ≤ q then (F, tx ps.1 :: As, nx + 1, d, 0, (ps.1 + 1, ps.2.1 + 1, ps.2.2))
     else unw_ F As ps.1 d (nx + 1) (ps.1, ps.2.1 + 1, mx_ ps.2.2.1 ps.1, ps.2.2.2))
  else if o = 3 then unw_ F As ps.1 d (nx + 1) ps
  else if o = 4 then ((0, nx + 1, ps.1, As.length) :: F, As, p.toNatClampNeg, d, 0, ps)
  else if o = 5 then
    (if 40 ≤ d ∨ 300 ≤ ps.2.2.2.1 then (F, As, nx + 1, d, 3, ps)
     else ((1, nx + 1, ps.1, As.length) :: F, As, en p.toNatClampNeg, d + 1, 0, (ps.1, ps.2.1, ps.2.2.1, ps.2.2.2.1 + 1, ps.2.2.2.2)))
  else if o = 6 then (F.tail, As, (F.headD (0, 0, 0, 0)).2.1, (if (F.headD (0, 0, 0, 0)).1 = 1 then d - 1 else d), 0, ps)
  else if o = 7 then (F, jn_ p (As.tail.headD 0) (As.headD 0) :: As.tail.tail, nx + 1, d, 0, ps)
  else if o = 8 then (F, jn_ (wy_ (As.tail.headD 0)) (As.tail.tail.headD 0) (As.headD 0) :: As.tail.tail.tail, nx + 1, d, 0, ps)
  else if o = 9 then ((p.toNatClampNeg, q.toNatClampNeg, ps.1, As.length) :: F, As, nx + 1, d, 0, ps)
  else if o = 10 then (F.tail, As, nx + 1, d, 0, ps)
  else if o = 11 then (F.tail, As, nx + 1, d, 0, ((F.headD (0, 0, 0, 0)).2.2.1, ps.2))
  else if o = 12 then ((match F with | [] => [] | fr :: G => (fr.1, fr.2.1, ps.1, fr.2.2.2) :: G), As, p.toNatClampNeg, d, 0, ps)
  else if o = 13 then (F, As, nx + 1, d, 0, (ps.1, ps.2.1, ps.2.2.1, ps.2.2.2.1, va_up ps.2.2.2.2 p.toNatClampNeg (As.headD 0)))
  else if o = 14 then (F, ps.2.2.2.2 p.toNatClampNeg :: As, nx + 1, d, 0, ps)
  else (F, As, nx + 1, d, 1, ps)
/-- k steps, each from a state that runs and has room -/
def Go_ (cd : Nat → Nat × Int32 × Int32) (en : Nat → Nat) (tx : Nat → Int32) (len : Nat) : Nat → MC_ → MC_ → Prop
  | 0, c, c' => c = c'
  | k + 1, c, c' => (c.2.2.2.2.1 = 0 ∧ c.1.length < 640 ∧ c.2.1.length < 641) ∧ Go_ cd en tx len k (ms_ cd en tx len c) c'
variable {cd : Nat → Nat × Int32 × Int32} {en : Nat → Nat} {tx : Nat → Int32} {len : Nat}
theorem go_tr : ∀ {j k : Nat} {a b c : MC_}, Go_ cd en tx len j a b → Go_ cd en tx len k b c → Go_ cd en tx len (j + k) a c := by
  intro j
  induction j with
  | zero => intro k a b c h1 h2; cases h1; rw [Nat.zero_add]; exact h2
  | succ j ih =>
    intro k a b c h1 h2
    rw [Nat.succ_add]
    exact ⟨h1.1, ih h1.2 h2⟩
theorem go_1 {k : Nat} {F : List Fr_} {As : List Int32} {nx d : Nat} {ps : PS_} {c1 c' : MC_} (hF : F.length < 640) (hA : As.length < 641) (h1 : ms_ cd en tx len (F, As, nx, d, 0, ps) = c1) (hk : Go_ cd en tx len k c1 c') : Go_ cd en tx len (k + 1) (F, As, nx, d, 0, ps) c' :=
  ⟨⟨rfl, hF, hA⟩, by rw [h1]; exact hk⟩
theorem go_e {k j : Nat} {a b : MC_} (h : Go_ cd en tx len k a b) (e : k = j) : Go_ cd en tx len j a b := e ▸ h
section OPS
variable {F : List Fr_} {As : List Int32} {nx d : Nat} {ps : PS_} {p q : Int32}
theorem ms_give (h : cd nx = (1, p, q)) : ms_ cd en tx len (F, As, nx, d, 0, ps) = (F, p :: As, nx + 1, d, 0, ps) := by simp [ms_, h]
theorem ms_take0 (h : cd nx = (2, p, q)) (hl : 1500 ≤ ps.2.1) : ms_ cd en tx len (F, As, nx, d, 0, ps) = (F, As, nx + 1, d, 3, ps) := by simp [ms_, h, hl]
theorem ms_take1 (h : cd nx = (2, p, q)) (hl : ¬ 1500 ≤ ps.2.1) (hc : lk_ tx len ps.1 p q) : ms_ cd en tx len (F, As, nx, d, 0, ps) = (F, tx ps.1 :: As, nx + 1, d, 0, (ps.1 + 1, ps.2.1 + 1, ps.2.2)) := by
  unfold lk_ at hc
  simp [ms_, h, hl, hc]
theorem ms_take2 (h : cd nx = (2, p, q)) (hl : ¬ 1500 ≤ ps.2.1) (hc : ¬ lk_ tx len ps.1 p q) : ms_ cd en tx len (F, As, nx, d, 0, ps) = unw_ F As ps.1 d (nx + 1) (ps.1, ps.2.1 + 1, mx_ ps.2.2.1 ps.1, ps.2.2.2) := by
  unfold lk_ at hc
  simp only [ms_, h]
  rw [if_neg (by decide), if_pos trivial, if_neg hl, if_neg hc]
theorem ms_refuse (h : cd nx = (3, p, q)) : ms_ cd en tx len (F, As, nx, d, 0, ps) = unw_ F As ps.1 d (nx + 1) ps := by simp [ms_, h]
theorem ms_call (h : cd nx = (4, p, q)) : ms_ cd en tx len (F, As, nx, d, 0, ps) = ((0, nx + 1, ps.1, As.length) :: F, As, p.toNatClampNeg, d, 0, ps) := by simp [ms_, h]
theorem ms_body0 (h : cd nx = (5, p, q)) (hl : 40 ≤ d ∨ 300 ≤ ps.2.2.2.1) : ms_ cd en tx len (F, As, nx, d, 0, ps) = (F, As, nx + 1, d, 3, ps) := by simp [ms_, h, hl]
theorem ms_body1 (h : cd nx = (5, p, q)) (hl : ¬ (40 ≤ d ∨ 300 ≤ ps.2.2.2.1)) : ms_ cd en tx len (F, As, nx, d, 0, ps) = ((1, nx + 1, ps.1, As.length) :: F, As, en p.toNatClampNeg, d + 1, 0, (ps.1, ps.2.1, ps.2.2.1, ps.2.2.2.1 + 1, ps.2.2.2.2)) := by
  simp only [ms_, h]
  rw [if_neg (by decide), if_neg (by decide), if_neg (by decide), if_neg (by decide), if_pos trivial, if_neg hl]
theorem ms_ret {fr : Fr_} (h : cd nx = (6, p, q)) : ms_ cd en tx len (fr :: F, As, nx, d, 0, ps) = (F, As, fr.2.1, (if fr.1 = 1 then d - 1 else d), 0, ps) := by simp [ms_, h]
theorem ms_join {v w : Int32} (h : cd nx = (7, p, q)) : ms_ cd en tx len (F, w :: v :: As, nx, d, 0, ps) = (F, jn_ p v w :: As, nx + 1, d, 0, ps) := by simp [ms_, h]
theorem ms_link {v w y : Int32} (h : cd nx = (8, p, q)) : ms_ cd en tx len (F, w :: y :: v :: As, nx, d, 0, ps) = (F, jn_ (wy_ y) v w :: As, nx + 1, d, 0, ps) := by simp [ms_, h]
theorem ms_guard (h : cd nx = (9, p, q)) : ms_ cd en tx len (F, As, nx, d, 0, ps) = ((p.toNatClampNeg, q.toNatClampNeg, ps.1, As.length) :: F, As, nx + 1, d, 0, ps) := by simp [ms_, h]
theorem ms_unguard {fr : Fr_} (h : cd nx = (10, p, q)) : ms_ cd en tx len (fr :: F, As, nx, d, 0, ps) = (F, As, nx + 1, d, 0, ps) := by simp [ms_, h]
theorem ms_rewind {fr : Fr_} (h : cd nx = (11, p, q)) : ms_ cd en tx len (fr :: F, As, nx, d, 0, ps) = (F, As, nx + 1, d, 0, (fr.2.2.1, ps.2)) := by simp [ms_, h]
theorem ms_again {fr : Fr_} (h : cd nx = (12, p, q)) : ms_ cd en tx len (fr :: F, As, nx, d, 0, ps) = ((fr.1, fr.2.1, ps.1, fr.2.2.2) :: F, As, p.toNatClampNeg, d, 0, ps) := by simp [ms_, h]
theorem ms_store {v : Int32} (h : cd nx = (13, p, q)) : ms_ cd en tx len (F, v :: As, nx, d, 0, ps) = (F, v :: As, nx + 1, d, 0, (ps.1, ps.2.1, ps.2.2.1, ps.2.2.2.1, va_up ps.2.2.2.2 p.toNatClampNeg v)) := by simp [ms_, h]
theorem ms_fetch (h : cd nx = (14, p, q)) : ms_ cd en tx len (F, As, nx, d, 0, ps) = (F, ps.2.2.2.2 p.toNatClampNeg :: As, nx + 1, d, 0, ps) := by simp [ms_, h]
theorem ms_end (h : cd nx = (0, p, q)) : ms_ cd en tx len (F, As, nx, d, 0, ps) = (F, As, nx + 1, d, 1, ps) := by simp [ms_, h]
end OPS
/-- going down through a frame that doesn't stop a failure -/
theorem unw_call {F : List Fr_} {As : List Int32} {a d nx t pl h : Nat} {ps : PS_} : unw_ ((0, t, pl, h) :: F) As a d nx ps = unw_ F As a d nx ps := by simp [unw_]
theorem unw_body {F : List Fr_} {As : List Int32} {a d nx t pl h : Nat} {ps : PS_} : unw_ ((1, t, pl, h) :: F) As a (d + 1) nx ps = unw_ F As a d nx ps := by simp [unw_]
theorem unw_try {F : List Fr_} {As : List Int32} {a d nx t pl h : Nat} {ps : PS_} : unw_ ((3, t, pl, h) :: F) As a d nx ps = unw_ F As pl d nx ps := by simp [unw_]
theorem unw_let {F : List Fr_} {As : List Int32} {a d nx t pl h : Nat} {ps : PS_} : unw_ ((4, t, pl, h) :: F) As a d nx ps = unw_ F As a d nx ps := by simp [unw_]
theorem unw_not {F : List Fr_} {As : List Int32} {a d nx t pl h : Nat} {ps : PS_} : unw_ ((5, t, pl, h) :: F) As a d nx ps = (F, As.drop (As.length - h), t, d, 0, (pl, ps.2)) := by simp [unw_]
theorem unw_or1 {F : List Fr_} {As : List Int32} {d nx t pl h : Nat} {ps : PS_} : unw_ ((2, t, pl, h) :: F) As pl d nx ps = (F, As.drop (As.length - h), t, d, 0, (pl, ps.2)) := by simp [unw_]
theorem unw_or2 {F : List Fr_} {As : List Int32} {a d nx t pl h : Nat} {ps : PS_} (hne : a ≠ pl) : unw_ ((2, t, pl, h) :: F) As a d nx ps = unw_ F As a d nx ps := by simp [unw_, hne]
/-- a failure's place is what it is told; the place that stood doesn't matter -/
theorem unw_ps : ∀ {F : List Fr_} {As : List Int32} {a d nx : Nat} {ps ps' : PS_}, ps.2 = ps'.2 → unw_ F As a d nx ps = unw_ F As a d nx ps' := by
  intro F
  induction F with
  | nil => intro As a d nx ps ps' h; simp [unw_, h]
  | cons fr F ih =>
    intro As a d nx ps ps' h
    simp only [unw_, h]
    split
    · rfl
    · exact ih h
theorem drop_top (X As : List Int32) : (X ++ As).drop ((X ++ As).length - As.length) = As := by
  rw [List.length_append, Nat.add_sub_cancel, List.drop_left]
/-- what the machine does with a node's piece of code: r = 1 it gives v, r = 0 it fails at the place of ps', r = 2 it is tired; in k steps -/
def CS_ (cd : Nat → Nat × Int32 × Int32) (en : Nat → Nat) (tx : Nat → Int32) (len : Nat) (pc hg : Nat → Nat) (n d : Nat) (ps : PS_) (r : Nat) (v : Int32) (ps' : PS_) (k : Nat) : Prop :=
  ∀ (fr : Fr_) (F : List Fr_) (As : List Int32), F.length + 1 + 2 * (hg n - 1) ≤ 15 * d → As.length + 2 * (hg n - 1) ≤ 14 * d → d ≤ 40 →
    (r = 1 → Go_ cd en tx len k (fr :: F, As, pc n, d, 0, ps) (F, v :: As, fr.2.1, (if fr.1 = 1 then d - 1 else d), 0, ps')) ∧
    (r = 0 → ∃ X nx, Go_ cd en tx len k (fr :: F, As, pc n, d, 0, ps) (unw_ (fr :: F) (X ++ As) ps'.1 d nx ps')) ∧
    (r = 2 → ∃ c', Go_ cd en tx len k (fr :: F, As, pc n, d, 0, ps) c' ∧ c'.2.2.2.2.1 = 3 ∧ c'.2.2.2.2.2.2 = ps'.2)
variable {pc hg : Nat → Nat}
/-- a part is called from frames G -/
theorem cs_part {x d nx r k : Nat} {ps ps' : PS_} {v p q : Int32} {G : List Fr_} {As : List Int32} (hc : cd nx = (4, p, q)) (hp : p.toNatClampNeg = pc x) (hx : CS_ cd en tx len pc hg x d ps r v ps' k)
    (hG : G.length + 1 + 2 * (hg x - 1) ≤ 15 * d) (hA : As.length + 2 * (hg x - 1) ≤ 14 * d) (hd : d ≤ 40) :
    (r = 1 → Go_ cd en tx len (k + 1) (G, As, nx, d, 0, ps) (G, v :: As, nx + 1, d, 0, ps')) ∧
    (r = 0 → ∃ X nx', Go_ cd en tx len (k + 1) (G, As, nx, d, 0, ps) (unw_ G (X ++ As) ps'.1 d nx' ps')) ∧
    (r = 2 → ∃ c', Go_ cd en tx len (k + 1) (G, As, nx, d, 0, ps) c' ∧ c'.2.2.2.2.1 = 3 ∧ c'.2.2.2.2.2.2 = ps'.2) := by
  obtain ⟨h1, h0, h2⟩ := hx (0, nx + 1, ps.1, As.length) G As hG hA hd
  have hm := ms_call (en := en) (tx := tx) (len := len) (F := G) (As := As) (d := d) (ps := ps) hc
  rw [hp] at hm
  refine ⟨fun e => ?_, fun e => ?_, fun e => ?_⟩
  · exact go_1 (by omega) (by omega) hm (h1 e)
  · obtain ⟨X, nx', h⟩ := h0 e
    exact ⟨X, nx', go_1 (by omega) (by omega) hm (by rw [unw_call] at h; exact h)⟩
  · obtain ⟨c', h, a, b⟩ := h2 e
    exact ⟨c', go_1 (by omega) (by omega) hm h, a, b⟩
theorem go_ret {k nx d : Nat} {p q : Int32} {fr : Fr_} {F : List Fr_} {As : List Int32} {ps : PS_} {a : MC_} (hc : cd nx = (6, p, q)) (hF : F.length < 639) (hA : As.length < 641) (h : Go_ cd en tx len k a (fr :: F, As, nx, d, 0, ps)) :
    Go_ cd en tx len (k + 1) a (F, As, fr.2.1, (if fr.1 = 1 then d - 1 else d), 0, ps) :=
  go_tr h (go_1 (k := 0) (by simp; omega) hA (ms_ret hc) rfl)
section KINDS
variable {n d : Nat} {ps : PS_}
theorem cs_pure {p q p1 q1 : Int32} (h0 : cd (pc n) = (1, p, q)) (h1 : cd (pc n + 1) = (6, p1, q1)) : CS_ cd en tx len pc hg n d ps 1 p ps 2 := by
  intro fr F As hF hA hd
  refine ⟨fun _ => ?_, fun e => by omega, fun e => by omega⟩
  exact go_ret h1 (by omega) (by simp; omega) (go_1 (k := 0) (by simp; omega) (by omega) (ms_give h0) rfl)
theorem cs_kept {p q p1 q1 : Int32} (h0 : cd (pc n) = (14, p, q)) (h1 : cd (pc n + 1) = (6, p1, q1)) : CS_ cd en tx len pc hg n d ps 1 (ps.2.2.2.2 p.toNatClampNeg) ps 2 := by
  intro fr F As hF hA hd
  refine ⟨fun _ => ?_, fun e => by omega, fun e => by omega⟩
  exact go_ret h1 (by omega) (by simp; omega) (go_1 (k := 0) (by simp; omega) (by omega) (ms_fetch h0) rfl)
theorem cs_none {p q : Int32} (h0 : cd (pc n) = (3, p, q)) : CS_ cd en tx len pc hg n d ps 0 0 ps 1 := by
  intro fr F As hF hA hd
  refine ⟨fun e => by omega, fun _ => ?_, fun e => by omega⟩
  exact ⟨[], pc n + 1, go_1 (k := 0) (by simp; omega) (by omega) (ms_refuse h0) rfl⟩
theorem cs_look1 {p q p1 q1 : Int32} (h0 : cd (pc n) = (2, p, q)) (h1 : cd (pc n + 1) = (6, p1, q1)) (hl : ¬ 1500 ≤ ps.2.1) (hc : lk_ tx len ps.1 p q) : CS_ cd en tx len pc hg n d ps 1 (tx ps.1) (ps.1 + 1, ps.2.1 + 1, ps.2.2) 2 := by
  intro fr F As hF hA hd
  refine ⟨fun _ => ?_, fun e => by omega, fun e => by omega⟩
  exact go_ret h1 (by omega) (by simp; omega) (go_1 (k := 0) (by simp; omega) (by omega) (ms_take1 h0 hl hc) rfl)
theorem cs_look0 {p q : Int32} (h0 : cd (pc n) = (2, p, q)) (hl : ¬ 1500 ≤ ps.2.1) (hc : ¬ lk_ tx len ps.1 p q) : CS_ cd en tx len pc hg n d ps 0 0 (ps.1, ps.2.1 + 1, mx_ ps.2.2.1 ps.1, ps.2.2.2) 1 := by
  intro fr F As hF hA hd
  refine ⟨fun e => by omega, fun _ => ?_, fun e => by omega⟩
  exact ⟨[], pc n + 1, go_1 (k := 0) (by simp; omega) (by omega) (ms_take2 h0 hl hc) rfl⟩
theorem cs_look2 {p q : Int32} (h0 : cd (pc n) = (2, p, q)) (hl : 1500 ≤ ps.2.1) : CS_ cd en tx len pc hg n d ps 2 0 ps 1 := by
  intro fr F As hF hA hd
  refine ⟨fun e => by omega, fun e => by omega, fun _ => ?_⟩
  exact ⟨_, go_1 (k := 0) (by simp; omega) (by omega) (ms_take0 h0 hl) rfl, rfl, rfl⟩
/-- a part that ends the whole as it ended itself: a failure, or tired -/
theorem cs_stop {x r k j nx : Nat} {ps1 ps' : PS_} {v v' p q : Int32} (hr : r ≠ 1) (hc : cd nx = (4, p, q)) (hp : p.toNatClampNeg = pc x) (hx : CS_ cd en tx len pc hg x d ps1 r v ps' k) (hh : hg x + 1 ≤ hg n) (hx1 : 1 ≤ hg x)
    (ha : ∀ (fr : Fr_) (F : List Fr_) (As : List Int32), F.length + 1 + 2 * (hg n - 1) ≤ 15 * d → As.length + 2 * (hg n - 1) ≤ 14 * d → d ≤ 40 → ∃ Y : List Int32, Y.length ≤ 2 ∧ Go_ cd en tx len j (fr :: F, As, pc n, d, 0, ps) (fr :: F, Y ++ As, nx, d, 0, ps1)) :
    CS_ cd en tx len pc hg n d ps r v' ps' (j + (k + 1)) := by
  intro fr F As hF hA hd
  obtain ⟨Y, hY, g0⟩ := ha fr F As hF hA hd
  obtain ⟨h1, h0, h2⟩ := cs_part (G := fr :: F) (As := Y ++ As) hc hp hx (by simp; omega) (by simp; omega) hd
  refine ⟨fun e => absurd e hr, fun e => ?_, fun e => ?_⟩
  · obtain ⟨X, nx', h⟩ := h0 e
    exact ⟨X ++ Y, nx', by rw [List.append_assoc]; exact go_tr g0 h⟩
  · obtain ⟨c', h, a, b⟩ := h2 e
    exact ⟨c', go_tr g0 h, a, b⟩
theorem cs_then1 {x y k1 k2 : Nat} {p1 p2 : PS_} {v1 v2 a0 b0 a1 b1 a2 b2 a3 b3 : Int32} (c0 : cd (pc n) = (4, a0, b0)) (c1 : cd (pc n + 1) = (4, a1, b1)) (c2 : cd (pc n + 2) = (7, a2, b2)) (c3 : cd (pc n + 3) = (6, a3, b3))
    (e0 : a0.toNatClampNeg = pc x) (e1 : a1.toNatClampNeg = pc y) (hx : CS_ cd en tx len pc hg x d ps 1 v1 p1 k1) (hy : CS_ cd en tx len pc hg y d p1 1 v2 p2 k2) (h1 : hg x + 1 ≤ hg n) (h2 : hg y + 1 ≤ hg n) (h3 : 1 ≤ hg x) (h4 : 1 ≤ hg y) :
    CS_ cd en tx len pc hg n d ps 1 (jn_ a2 v1 v2) p2 (k1 + k2 + 4) := by
  intro fr F As hF hA hd
  refine ⟨fun _ => ?_, fun e => by omega, fun e => by omega⟩
  have g1 := (cs_part (G := fr :: F) (As := As) c0 e0 hx (by simp; omega) (by omega) hd).1 rfl
  have g2 := (cs_part (G := fr :: F) (As := v1 :: As) c1 e1 hy (by simp; omega) (by simp; omega) hd).1 rfl
  have g3 : Go_ cd en tx len 1 (fr :: F, v2 :: v1 :: As, pc n + 1 + 1, d, 0, p2) (fr :: F, jn_ a2 v1 v2 :: As, pc n + 1 + 1 + 1, d, 0, p2) := go_1 (k := 0) (by simp; omega) (by simp; omega) (ms_join c2) rfl
  exact go_e (go_ret c3 (by omega) (by simp; omega) (go_tr g1 (go_tr g2 g3))) (by omega)
theorem cs_then0 {x y k1 k2 r : Nat} {p1 p2 : PS_} {v1 v2 a0 b0 a1 b1 : Int32} (hr : r ≠ 1) (c0 : cd (pc n) = (4, a0, b0)) (c1 : cd (pc n + 1) = (4, a1, b1))
    (e0 : a0.toNatClampNeg = pc x) (e1 : a1.toNatClampNeg = pc y) (hx : CS_ cd en tx len pc hg x d ps 1 v1 p1 k1) (hy : CS_ cd en tx len pc hg y d p1 r v2 p2 k2) (h1 : hg x + 1 ≤ hg n) (h2 : hg y + 1 ≤ hg n) (h3 : 1 ≤ hg x) (h4 : 1 ≤ hg y) :
    CS_ cd en tx len pc hg n d ps r 0 p2 (k1 + 1 + (k2 + 1)) := by
  refine cs_stop hr c1 e1 hy h2 h4 (fun fr F As hF hA hd => ⟨[v1], by simp, ?_⟩)
  exact (cs_part (G := fr :: F) (As := As) c0 e0 hx (by simp; omega) (by omega) hd).1 rfl
theorem cs_first0 {x k1 r : Nat} {p1 : PS_} {v1 a0 b0 : Int32} (hr : r ≠ 1) (c0 : cd (pc n) = (4, a0, b0)) (e0 : a0.toNatClampNeg = pc x) (hx : CS_ cd en tx len pc hg x d ps r v1 p1 k1) (h1 : hg x + 1 ≤ hg n) (h3 : 1 ≤ hg x) :
    CS_ cd en tx len pc hg n d ps r 0 p1 (0 + (k1 + 1)) := by
  refine cs_stop hr c0 e0 hx h1 h3 (fun fr F As hF hA hd => ⟨[], by simp, ?_⟩)
  exact rfl
theorem cs_keep {x k1 : Nat} {p1 : PS_} {v1 a0 b0 a1 b1 a2 b2 : Int32} (c0 : cd (pc n) = (4, a0, b0)) (c1 : cd (pc n + 1) = (13, a1, b1)) (c2 : cd (pc n + 2) = (6, a2, b2)) (e0 : a0.toNatClampNeg = pc x) (hx : CS_ cd en tx len pc hg x d ps 1 v1 p1 k1) (h1 : hg x + 1 ≤ hg n) (h3 : 1 ≤ hg x) :
    CS_ cd en tx len pc hg n d ps 1 v1 (p1.1, p1.2.1, p1.2.2.1, p1.2.2.2.1, va_up p1.2.2.2.2 a1.toNatClampNeg v1) (k1 + 3) := by
  intro fr F As hF hA hd
  refine ⟨fun _ => ?_, fun e => by omega, fun e => by omega⟩
  have g1 := (cs_part (G := fr :: F) (As := As) c0 e0 hx (by simp; omega) (by omega) hd).1 rfl
  have g2 : Go_ cd en tx len 1 (fr :: F, v1 :: As, pc n + 1, d, 0, p1) _ := go_1 (k := 0) (by simp; omega) (by simp; omega) (ms_store c1) rfl
  exact go_e (go_ret c2 (by omega) (by simp; omega) (go_tr g1 g2)) (by omega)
/-- a guarded part: GUARD, the part, and what comes behind it -/
theorem cs_guard {x k1 r : Nat} {p1 : PS_} {v1 a0 b0 a1 b1 : Int32} (c0 : cd (pc n) = (9, a0, b0)) (c1 : cd (pc n + 1) = (4, a1, b1)) (e1 : a1.toNatClampNeg = pc x) (hx : CS_ cd en tx len pc hg x d ps r v1 p1 k1) (h1 : hg x + 1 ≤ hg n) (h3 : 1 ≤ hg x)
    {fr : Fr_} {F : List Fr_} {As : List Int32} (hF : F.length + 1 + 2 * (hg n - 1) ≤ 15 * d) (hA : As.length + 2 * (hg n - 1) ≤ 14 * d) (hd : d ≤ 40) :
    (r = 1 → Go_ cd en tx len (k1 + 2) (fr :: F, As, pc n, d, 0, ps) ((a0.toNatClampNeg, b0.toNatClampNeg, ps.1, As.length) :: fr :: F, v1 :: As, pc n + 2, d, 0, p1)) ∧
    (r = 0 → ∃ X nx', Go_ cd en tx len (k1 + 2) (fr :: F, As, pc n, d, 0, ps) (unw_ ((a0.toNatClampNeg, b0.toNatClampNeg, ps.1, As.length) :: fr :: F) (X ++ As) p1.1 d nx' p1)) ∧
    (r = 2 → ∃ c', Go_ cd en tx len (k1 + 2) (fr :: F, As, pc n, d, 0, ps) c' ∧ c'.2.2.2.2.1 = 3 ∧ c'.2.2.2.2.2.2 = p1.2) := by
  have hm := ms_guard (en := en) (tx := tx) (len := len) (F := fr :: F) (As := As) (d := d) (ps := ps) c0
  obtain ⟨q1, q0, q2⟩ := cs_part (G := (a0.toNatClampNeg, b0.toNatClampNeg, ps.1, As.length) :: fr :: F) (As := As) c1 e1 hx (by simp; omega) (by omega) hd
  refine ⟨fun e => ?_, fun e => ?_, fun e => ?_⟩
  · exact go_1 (by simp; omega) (by omega) hm (q1 e)
  · obtain ⟨X, nx', h⟩ := q0 e
    exact ⟨X, nx', go_1 (by simp; omega) (by omega) hm h⟩
  · obtain ⟨c', h, a, b⟩ := q2 e
    exact ⟨c', go_1 (by simp; omega) (by omega) hm h, a, b⟩
theorem cs_try1 {x k1 : Nat} {p1 : PS_} {v1 a0 b0 a1 b1 a2 b2 a3 b3 : Int32} (c0 : cd (pc n) = (9, a0, b0)) (c1 : cd (pc n + 1) = (4, a1, b1)) (c2 : cd (pc n + 2) = (10, a2, b2)) (c3 : cd (pc n + 3) = (6, a3, b3)) (e1 : a1.toNatClampNeg = pc x) (hx : CS_ cd en tx len pc hg x d ps 1 v1 p1 k1) (h1 : hg x + 1 ≤ hg n) (h3 : 1 ≤ hg x) :
    CS_ cd en tx len pc hg n d ps 1 v1 p1 (k1 + 4) := by
  intro fr F As hF hA hd
  refine ⟨fun _ => ?_, fun e => by omega, fun e => by omega⟩
  have g1 := (cs_guard c0 c1 e1 hx h1 h3 hF hA hd (fr := fr)).1 rfl
  have g2 : Go_ cd en tx len 1 ((a0.toNatClampNeg, b0.toNatClampNeg, ps.1, As.length) :: fr :: F, v1 :: As, pc n + 2, d, 0, p1) (fr :: F, v1 :: As, pc n + 3, d, 0, p1) := go_1 (k := 0) (by simp; omega) (by simp; omega) (ms_unguard c2) rfl
  exact go_e (go_ret c3 (by omega) (by simp; omega) (go_tr g1 g2)) (by omega)
theorem cs_try0 {x k1 : Nat} {p1 : PS_} {v1 a0 b0 a1 b1 : Int32} (c0 : cd (pc n) = (9, a0, b0)) (c1 : cd (pc n + 1) = (4, a1, b1)) (e0 : a0.toNatClampNeg = 3) (e1 : a1.toNatClampNeg = pc x) (hx : CS_ cd en tx len pc hg x d ps 0 v1 p1 k1) (h1 : hg x + 1 ≤ hg n) (h3 : 1 ≤ hg x) :
    CS_ cd en tx len pc hg n d ps 0 0 (ps.1, p1.2) (k1 + 2) := by
  intro fr F As hF hA hd
  refine ⟨fun e => by omega, fun _ => ?_, fun e => by omega⟩
  obtain ⟨X, nx', h⟩ := (cs_guard c0 c1 e1 hx h1 h3 hF hA hd (fr := fr)).2.1 rfl
  rw [e0, unw_try] at h
  exact ⟨X, nx', by rw [unw_ps (ps := (ps.1, p1.2)) (ps' := p1) rfl]; exact h⟩
theorem cs_guard2 {x k1 : Nat} {p1 : PS_} {v1 a0 b0 a1 b1 : Int32} (c0 : cd (pc n) = (9, a0, b0)) (c1 : cd (pc n + 1) = (4, a1, b1)) (e1 : a1.toNatClampNeg = pc x) (hx : CS_ cd en tx len pc hg x d ps 2 v1 p1 k1) (h1 : hg x + 1 ≤ hg n) (h3 : 1 ≤ hg x) :
    CS_ cd en tx len pc hg n d ps 2 0 p1 (k1 + 2) := by
  intro fr F As hF hA hd
  refine ⟨fun e => by omega, fun e => by omega, fun _ => ?_⟩
  exact (cs_guard c0 c1 e1 hx h1 h3 hF hA hd (fr := fr)).2.2 rfl
theorem cs_look_1 {x k1 : Nat} {p1 : PS_} {v1 a0 b0 a1 b1 a2 b2 a3 b3 : Int32} (c0 : cd (pc n) = (9, a0, b0)) (c1 : cd (pc n + 1) = (4, a1, b1)) (c2 : cd (pc n + 2) = (11, a2, b2)) (c3 : cd (pc n + 3) = (6, a3, b3)) (e1 : a1.toNatClampNeg = pc x) (hx : CS_ cd en tx len pc hg x d ps 1 v1 p1 k1) (h1 : hg x + 1 ≤ hg n) (h3 : 1 ≤ hg x) :
    CS_ cd en tx len pc hg n d ps 1 v1 (ps.1, p1.2) (k1 + 4) := by
  intro fr F As hF hA hd
  refine ⟨fun _ => ?_, fun e => by omega, fun e => by omega⟩
  have g1 := (cs_guard c0 c1 e1 hx h1 h3 hF hA hd (fr := fr)).1 rfl
  have g2 : Go_ cd en tx len 1 ((a0.toNatClampNeg, b0.toNatClampNeg, ps.1, As.length) :: fr :: F, v1 :: As, pc n + 2, d, 0, p1) (fr :: F, v1 :: As, pc n + 3, d, 0, (ps.1, p1.2)) := go_1 (k := 0) (by simp; omega) (by simp; omega) (ms_rewind c2) rfl
  exact go_e (go_ret c3 (by omega) (by simp; omega) (go_tr g1 g2)) (by omega)
theorem cs_look_0 {x k1 : Nat} {p1 : PS_} {v1 a0 b0 a1 b1 : Int32} (c0 : cd (pc n) = (9, a0, b0)) (c1 : cd (pc n + 1) = (4, a1, b1)) (e0 : a0.toNatClampNeg = 4) (e1 : a1.toNatClampNeg = pc x) (hx : CS_ cd en tx len pc hg x d ps 0 v1 p1 k1) (h1 : hg x + 1 ≤ hg n) (h3 : 1 ≤ hg x) :
    CS_ cd en tx len pc hg n d ps 0 0 p1 (k1 + 2) := by
  intro fr F As hF hA hd
  refine ⟨fun e => by omega, fun _ => ?_, fun e => by omega⟩
  obtain ⟨X, nx', h⟩ := (cs_guard c0 c1 e1 hx h1 h3 hF hA hd (fr := fr)).2.1 rfl
  rw [e0, unw_let] at h
  exact ⟨X, nx', h⟩
theorem cs_not1 {x k1 : Nat} {p1 : PS_} {v1 a0 b0 a1 b1 a2 b2 a3 b3 : Int32} (c0 : cd (pc n) = (9, a0, b0)) (c1 : cd (pc n + 1) = (4, a1, b1)) (c2 : cd (pc n + 2) = (11, a2, b2)) (c3 : cd (pc n + 3) = (3, a3, b3)) (e1 : a1.toNatClampNeg = pc x) (hx : CS_ cd en tx len pc hg x d ps 1 v1 p1 k1) (h1 : hg x + 1 ≤ hg n) (h3 : 1 ≤ hg x) :
    CS_ cd en tx len pc hg n d ps 0 0 (ps.1, p1.2) (k1 + 4) := by
  intro fr F As hF hA hd
  refine ⟨fun e => by omega, fun _ => ?_, fun e => by omega⟩
  have g1 := (cs_guard c0 c1 e1 hx h1 h3 hF hA hd (fr := fr)).1 rfl
  have g2 : Go_ cd en tx len 1 ((a0.toNatClampNeg, b0.toNatClampNeg, ps.1, As.length) :: fr :: F, v1 :: As, pc n + 2, d, 0, p1) (fr :: F, v1 :: As, pc n + 3, d, 0, (ps.1, p1.2)) := go_1 (k := 0) (by simp; omega) (by simp; omega) (ms_rewind c2) rfl
  have g3 : Go_ cd en tx len 1 (fr :: F, v1 :: As, pc n + 3, d, 0, (ps.1, p1.2)) _ := go_1 (k := 0) (by simp; omega) (by simp; omega) (ms_refuse c3) rfl
  exact ⟨[v1], pc n + 3 + 1, go_e (go_tr g1 (go_tr g2 g3)) (by omega)⟩
theorem cs_not0 {x k1 t : Nat} {p1 : PS_} {v1 a0 b0 a1 b1 a4 b4 a5 b5 : Int32} (c0 : cd (pc n) = (9, a0, b0)) (c1 : cd (pc n + 1) = (4, a1, b1)) (c4 : cd t = (1, a4, b4)) (c5 : cd (t + 1) = (6, a5, b5)) (e0 : a0.toNatClampNeg = 5) (f0 : b0.toNatClampNeg = t) (e1 : a1.toNatClampNeg = pc x) (hx : CS_ cd en tx len pc hg x d ps 0 v1 p1 k1) (h1 : hg x + 1 ≤ hg n) (h3 : 1 ≤ hg x) :
    CS_ cd en tx len pc hg n d ps 1 a4 (ps.1, p1.2) (k1 + 4) := by
  intro fr F As hF hA hd
  refine ⟨fun _ => ?_, fun e => by omega, fun e => by omega⟩
  obtain ⟨X, nx', h⟩ := (cs_guard c0 c1 e1 hx h1 h3 hF hA hd (fr := fr)).2.1 rfl
  rw [e0, f0, unw_not, drop_top] at h
  have g2 : Go_ cd en tx len 1 (fr :: F, As, t, d, 0, (ps.1, p1.2)) (fr :: F, a4 :: As, t + 1, d, 0, (ps.1, p1.2)) := go_1 (k := 0) (by simp; omega) (by omega) (ms_give c4) rfl
  exact go_e (go_ret c5 (by omega) (by simp; omega) (go_tr h g2)) (by omega)
theorem cs_or1 {x k1 : Nat} {p1 : PS_} {v1 a0 b0 a1 b1 a2 b2 a3 b3 : Int32} (c0 : cd (pc n) = (9, a0, b0)) (c1 : cd (pc n + 1) = (4, a1, b1)) (c2 : cd (pc n + 2) = (10, a2, b2)) (c3 : cd (pc n + 3) = (6, a3, b3)) (e1 : a1.toNatClampNeg = pc x) (hx : CS_ cd en tx len pc hg x d ps 1 v1 p1 k1) (h1 : hg x + 1 ≤ hg n) (h3 : 1 ≤ hg x) :
    CS_ cd en tx len pc hg n d ps 1 v1 p1 (k1 + 4) := cs_try1 c0 c1 c2 c3 e1 hx h1 h3
theorem cs_or0 {x k1 : Nat} {p1 : PS_} {v1 a0 b0 a1 b1 : Int32} (c0 : cd (pc n) = (9, a0, b0)) (c1 : cd (pc n + 1) = (4, a1, b1)) (e0 : a0.toNatClampNeg = 2) (e1 : a1.toNatClampNeg = pc x) (hne : p1.1 ≠ ps.1) (hx : CS_ cd en tx len pc hg x d ps 0 v1 p1 k1) (h1 : hg x + 1 ≤ hg n) (h3 : 1 ≤ hg x) :
    CS_ cd en tx len pc hg n d ps 0 0 p1 (k1 + 2) := by
  intro fr F As hF hA hd
  refine ⟨fun e => by omega, fun _ => ?_, fun e => by omega⟩
  obtain ⟨X, nx', h⟩ := (cs_guard c0 c1 e1 hx h1 h3 hF hA hd (fr := fr)).2.1 rfl
  rw [e0, unw_or2 hne] at h
  exact ⟨X, nx', h⟩
/-- the second of two, where the first took nothing -/
theorem cs_orS {x k1 t : Nat} {p1 : PS_} {v1 a0 b0 a1 b1 : Int32} (c0 : cd (pc n) = (9, a0, b0)) (c1 : cd (pc n + 1) = (4, a1, b1)) (e0 : a0.toNatClampNeg = 2) (f0 : b0.toNatClampNeg = t) (e1 : a1.toNatClampNeg = pc x) (heq : p1.1 = ps.1) (hx : CS_ cd en tx len pc hg x d ps 0 v1 p1 k1) (h1 : hg x + 1 ≤ hg n) (h3 : 1 ≤ hg x)
    (fr : Fr_) (F : List Fr_) (As : List Int32) (hF : F.length + 1 + 2 * (hg n - 1) ≤ 15 * d) (hA : As.length + 2 * (hg n - 1) ≤ 14 * d) (hd : d ≤ 40) : Go_ cd en tx len (k1 + 2) (fr :: F, As, pc n, d, 0, ps) (fr :: F, As, t, d, 0, p1) := by
  obtain ⟨X, nx', h⟩ := (cs_guard c0 c1 e1 hx h1 h3 hF hA hd (fr := fr)).2.1 rfl
  rw [e0, f0, heq, unw_or1, drop_top] at h
  rw [show p1 = (ps.1, p1.2) by rw [← heq]]
  exact h
theorem cs_or21 {x y k1 k2 t : Nat} {p1 p2 : PS_} {v1 v2 a0 b0 a1 b1 a4 b4 a5 b5 : Int32} (c0 : cd (pc n) = (9, a0, b0)) (c1 : cd (pc n + 1) = (4, a1, b1)) (c4 : cd t = (4, a4, b4)) (c5 : cd (t + 1) = (6, a5, b5)) (e0 : a0.toNatClampNeg = 2) (f0 : b0.toNatClampNeg = t) (e1 : a1.toNatClampNeg = pc x) (e4 : a4.toNatClampNeg = pc y) (heq : p1.1 = ps.1)
    (hx : CS_ cd en tx len pc hg x d ps 0 v1 p1 k1) (hy : CS_ cd en tx len pc hg y d p1 1 v2 p2 k2) (h1 : hg x + 1 ≤ hg n) (h2 : hg y + 1 ≤ hg n) (h3 : 1 ≤ hg x) (h4 : 1 ≤ hg y) : CS_ cd en tx len pc hg n d ps 1 v2 p2 (k1 + k2 + 4) := by
  intro fr F As hF hA hd
  refine ⟨fun _ => ?_, fun e => by omega, fun e => by omega⟩
  have g1 := cs_orS c0 c1 e0 f0 e1 heq hx h1 h3 fr F As hF hA hd
  have g2 := (cs_part (G := fr :: F) (As := As) c4 e4 hy (by simp; omega) (by omega) hd).1 rfl
  exact go_e (go_ret c5 (by omega) (by simp; omega) (go_tr g1 g2)) (by omega)
theorem cs_or20 {x y k1 k2 t r : Nat} {p1 p2 : PS_} {v1 v2 a0 b0 a1 b1 a4 b4 : Int32} (hr : r ≠ 1) (c0 : cd (pc n) = (9, a0, b0)) (c1 : cd (pc n + 1) = (4, a1, b1)) (c4 : cd t = (4, a4, b4)) (e0 : a0.toNatClampNeg = 2) (f0 : b0.toNatClampNeg = t) (e1 : a1.toNatClampNeg = pc x) (e4 : a4.toNatClampNeg = pc y) (heq : p1.1 = ps.1)
    (hx : CS_ cd en tx len pc hg x d ps 0 v1 p1 k1) (hy : CS_ cd en tx len pc hg y d p1 r v2 p2 k2) (h1 : hg x + 1 ≤ hg n) (h2 : hg y + 1 ≤ hg n) (h3 : 1 ≤ hg x) (h4 : 1 ≤ hg y) : CS_ cd en tx len pc hg n d ps r 0 p2 (k1 + 2 + (k2 + 1)) := by
  refine cs_stop hr c4 e4 hy h2 h4 (fun fr F As hF hA hd => ⟨[], by simp, ?_⟩)
  exact cs_orS c0 c1 e0 f0 e1 heq hx h1 h3 fr F As hF hA hd
theorem cs_rule2 {a0 b0 : Int32} (c0 : cd (pc n) = (5, a0, b0)) (hl : 40 ≤ d ∨ 300 ≤ ps.2.2.2.1) : CS_ cd en tx len pc hg n d ps 2 0 ps 1 := by
  intro fr F As hF hA hd
  refine ⟨fun e => by omega, fun e => by omega, fun _ => ?_⟩
  exact ⟨_, go_1 (k := 0) (by simp; omega) (by omega) (ms_body0 c0 hl) rfl, rfl, rfl⟩
theorem cs_rule {b k1 r : Nat} {p1 : PS_} {v1 a0 b0 a1 b1 : Int32} (c0 : cd (pc n) = (5, a0, b0)) (c1 : cd (pc n + 1) = (6, a1, b1)) (e0 : en a0.toNatClampNeg = pc b) (hl : ¬ (40 ≤ d ∨ 300 ≤ ps.2.2.2.1)) (hb : hg b ≤ 8)
    (hx : CS_ cd en tx len pc hg b (d + 1) (ps.1, ps.2.1, ps.2.2.1, ps.2.2.2.1 + 1, ps.2.2.2.2) r v1 p1 k1) :
    (r = 1 → CS_ cd en tx len pc hg n d ps 1 v1 p1 (k1 + 2)) ∧ (r = 0 → CS_ cd en tx len pc hg n d ps 0 0 p1 (k1 + 1)) ∧ (r = 2 → CS_ cd en tx len pc hg n d ps 2 0 p1 (k1 + 1)) := by
  have hm : ∀ (G : List Fr_) (As : List Int32), ms_ cd en tx len (G, As, pc n, d, 0, ps) = ((1, pc n + 1, ps.1, As.length) :: G, As, pc b, d + 1, 0, (ps.1, ps.2.1, ps.2.2.1, ps.2.2.2.1 + 1, ps.2.2.2.2)) := by
    intro G As
    rw [ms_body1 c0 hl, e0]
  have hd' : d + 1 ≤ 40 := by omega
  refine ⟨fun e => ?_, fun e => ?_, fun e => ?_⟩
  · intro fr F As hF hA hd
    refine ⟨fun _ => ?_, fun e => by omega, fun e => by omega⟩
    have g1 := (hx (1, pc n + 1, ps.1, As.length) (fr :: F) As (by simp; omega) (by omega) hd').1 e
    have g2 := go_1 (by simp; omega) (by omega) (hm (fr :: F) As) g1
    simp only [if_true, Nat.add_sub_cancel] at g2
    exact go_e (go_ret c1 (by omega) (by simp; omega) g2) (by omega)
  · intro fr F As hF hA hd
    refine ⟨fun e => by omega, fun _ => ?_, fun e => by omega⟩
    obtain ⟨X, nx', g1⟩ := (hx (1, pc n + 1, ps.1, As.length) (fr :: F) As (by simp; omega) (by omega) hd').2.1 e
    rw [unw_body] at g1
    exact ⟨X, nx', go_1 (by simp; omega) (by omega) (hm (fr :: F) As) g1⟩
  · intro fr F As hF hA hd
    refine ⟨fun e => by omega, fun e => by omega, fun _ => ?_⟩
    obtain ⟨c', g1, a, b⟩ := (hx (1, pc n + 1, ps.1, As.length) (fr :: F) As (by simp; omega) (by omega) hd').2.2 e
    exact ⟨c', go_1 (by simp; omega) (by omega) (hm (fr :: F) As) g1, a, b⟩
/-- the loop of MANY and CHAIN, from the head of a turn: a guard whose place is the turn's, the answer so far -/
def CM_ (cd : Nat → Nat × Int32 × Int32) (en : Nat → Nat) (tx : Nat → Int32) (len : Nat) (hg : Nat → Nat) (L t n d : Nat) (acc : Int32) (ps : PS_) (r : Nat) (v : Int32) (ps' : PS_) (k : Nat) : Prop :=
  ∀ (fr : Fr_) (F : List Fr_) (As : List Int32), F.length + 1 + 2 * (hg n - 1) ≤ 15 * d → As.length + 2 * (hg n - 1) ≤ 14 * d → d ≤ 40 →
    (r = 1 → Go_ cd en tx len k ((2, t, ps.1, As.length + 1) :: fr :: F, acc :: As, L, d, 0, ps) (F, v :: As, fr.2.1, (if fr.1 = 1 then d - 1 else d), 0, ps')) ∧
    (r = 0 → ∃ X nx, Go_ cd en tx len k ((2, t, ps.1, As.length + 1) :: fr :: F, acc :: As, L, d, 0, ps) (unw_ (fr :: F) (X ++ As) ps'.1 d nx ps')) ∧
    (r = 2 → ∃ c', Go_ cd en tx len k ((2, t, ps.1, As.length + 1) :: fr :: F, acc :: As, L, d, 0, ps) c' ∧ c'.2.2.2.2.1 = 3 ∧ c'.2.2.2.2.2.2 = ps'.2)
/-- a turn that has been gone through leads to the next -/
theorem cm_then {L t j k r : Nat} {acc acc1 v : Int32} {p1 ps' : PS_}
    (ha : ∀ (fr : Fr_) (F : List Fr_) (As : List Int32), F.length + 1 + 2 * (hg n - 1) ≤ 15 * d → As.length + 2 * (hg n - 1) ≤ 14 * d → d ≤ 40 → Go_ cd en tx len j ((2, t, ps.1, As.length + 1) :: fr :: F, acc :: As, L, d, 0, ps) ((2, t, p1.1, As.length + 1) :: fr :: F, acc1 :: As, L, d, 0, p1))
    (h : CM_ cd en tx len hg L t n d acc1 p1 r v ps' k) : CM_ cd en tx len hg L t n d acc ps r v ps' (j + k) := by
  intro fr F As hF hA hd
  have g := ha fr F As hF hA hd
  obtain ⟨h1, h0, h2⟩ := h fr F As hF hA hd
  refine ⟨fun e => go_tr g (h1 e), fun e => ?_, fun e => ?_⟩
  · obtain ⟨X, nx, q⟩ := h0 e
    exact ⟨X, nx, go_tr g q⟩
  · obtain ⟨c', q, a, b⟩ := h2 e
    exact ⟨c', go_tr g q, a, b⟩
theorem cm_many {x L t k1 k r : Nat} {acc v1 v a0 b0 a1 b1 a2 b2 : Int32} {p1 ps' : PS_} (c0 : cd L = (4, a0, b0)) (c1 : cd (L + 1) = (7, a1, b1)) (c2 : cd (L + 2) = (12, a2, b2)) (e0 : a0.toNatClampNeg = pc x) (e2 : a2.toNatClampNeg = L) (hx : CS_ cd en tx len pc hg x d ps 1 v1 p1 k1) (h1 : hg x + 1 ≤ hg n) (h3 : 1 ≤ hg x)
    (h : CM_ cd en tx len hg L t n d (jn_ a1 acc v1) p1 r v ps' k) : CM_ cd en tx len hg L t n d acc ps r v ps' (k1 + 3 + k) := by
  refine cm_then (fun fr F As hF hA hd => ?_) h
  have g1 := (cs_part (G := (2, t, ps.1, As.length + 1) :: fr :: F) (As := acc :: As) c0 e0 hx (by simp; omega) (by simp; omega) hd).1 rfl
  have g2 : Go_ cd en tx len 1 ((2, t, ps.1, As.length + 1) :: fr :: F, v1 :: acc :: As, L + 1, d, 0, p1) ((2, t, ps.1, As.length + 1) :: fr :: F, jn_ a1 acc v1 :: As, L + 2, d, 0, p1) := go_1 (k := 0) (by simp; omega) (by simp; omega) (ms_join c1) rfl
  have hm := ms_again (en := en) (tx := tx) (len := len) (fr := (2, t, ps.1, As.length + 1)) (F := fr :: F) (As := jn_ a1 acc v1 :: As) (d := d) (ps := p1) c2
  rw [e2] at hm
  have g3 := go_1 (k := 0) (by simp; omega) (by simp; omega) hm rfl
  exact go_e (go_tr g1 (go_tr g2 g3)) (by omega)
theorem cm_chain {x y L t k1 k2 k r : Nat} {acc v1 v2 v a0 b0 a1 b1 a2 b2 a3 b3 : Int32} {p1 p2 ps' : PS_} (c0 : cd L = (4, a0, b0)) (c1 : cd (L + 1) = (4, a1, b1)) (c2 : cd (L + 2) = (8, a2, b2)) (c3 : cd (L + 3) = (12, a3, b3)) (e0 : a0.toNatClampNeg = pc y) (e1 : a1.toNatClampNeg = pc x) (e3 : a3.toNatClampNeg = L)
    (hy : CS_ cd en tx len pc hg y d ps 1 v1 p1 k1) (hx : CS_ cd en tx len pc hg x d p1 1 v2 p2 k2) (h1 : hg x + 1 ≤ hg n) (h2 : hg y + 1 ≤ hg n) (h3 : 1 ≤ hg x) (h4 : 1 ≤ hg y)
    (h : CM_ cd en tx len hg L t n d (jn_ (wy_ v1) acc v2) p2 r v ps' k) : CM_ cd en tx len hg L t n d acc ps r v ps' (k1 + k2 + 4 + k) := by
  refine cm_then (fun fr F As hF hA hd => ?_) h
  have g1 := (cs_part (G := (2, t, ps.1, As.length + 1) :: fr :: F) (As := acc :: As) c0 e0 hy (by simp; omega) (by simp; omega) hd).1 rfl
  have g2 := (cs_part (G := (2, t, ps.1, As.length + 1) :: fr :: F) (As := v1 :: acc :: As) c1 e1 hx (by simp; omega) (by simp; omega) hd).1 rfl
  have g3 : Go_ cd en tx len 1 ((2, t, ps.1, As.length + 1) :: fr :: F, v2 :: v1 :: acc :: As, L + 1 + 1, d, 0, p2) ((2, t, ps.1, As.length + 1) :: fr :: F, jn_ (wy_ v1) acc v2 :: As, L + 3, d, 0, p2) := go_1 (k := 0) (by simp; omega) (by simp; omega) (ms_link c2) rfl
  have hm := ms_again (en := en) (tx := tx) (len := len) (fr := (2, t, ps.1, As.length + 1)) (F := fr :: F) (As := jn_ (wy_ v1) acc v2 :: As) (d := d) (ps := p2) c3
  rw [e3] at hm
  have g4 := go_1 (k := 0) (by simp; omega) (by simp; omega) hm rfl
  exact go_e (go_tr g1 (go_tr g2 (go_tr g3 g4))) (by omega)
/-- the last turn: a part that doesn't give -/
theorem cm_end {x L t j k1 r nx : Nat} {acc v1 a0 b0 a9 b9 : Int32} {p0 p1 : PS_} (hr : r ≠ 1) (c0 : cd nx = (4, a0, b0)) (c9 : cd t = (6, a9, b9)) (e0 : a0.toNatClampNeg = pc x) (hx : CS_ cd en tx len pc hg x d p0 r v1 p1 k1) (h1 : hg x + 1 ≤ hg n) (h3 : 1 ≤ hg x)
    (ha : ∀ (fr : Fr_) (F : List Fr_) (As : List Int32), F.length + 1 + 2 * (hg n - 1) ≤ 15 * d → As.length + 2 * (hg n - 1) ≤ 14 * d → d ≤ 40 → ∃ Y : List Int32, Y.length ≤ 1 ∧ Go_ cd en tx len j ((2, t, ps.1, As.length + 1) :: fr :: F, acc :: As, L, d, 0, ps) ((2, t, ps.1, As.length + 1) :: fr :: F, Y ++ (acc :: As), nx, d, 0, p0)) :
    (r = 0 → p1.1 = ps.1 → CM_ cd en tx len hg L t n d acc ps 1 acc p1 (j + (k1 + 1) + 1)) ∧ (r = 0 → p1.1 ≠ ps.1 → CM_ cd en tx len hg L t n d acc ps 0 0 p1 (j + (k1 + 1))) ∧ (r = 2 → CM_ cd en tx len hg L t n d acc ps 2 0 p1 (j + (k1 + 1))) := by
  refine ⟨fun e he => ?_, fun e he => ?_, fun e => ?_⟩
  · intro fr F As hF hA hd
    refine ⟨fun _ => ?_, fun e => by omega, fun e => by omega⟩
    obtain ⟨Y, hY, g0⟩ := ha fr F As hF hA hd
    obtain ⟨X, nx', g1⟩ := (cs_part (G := (2, t, ps.1, As.length + 1) :: fr :: F) (As := Y ++ (acc :: As)) c0 e0 hx (by simp; omega) (by simp; omega) hd).2.1 e
    rw [he, unw_or1, ← List.append_assoc, show As.length + 1 = (acc :: As).length from rfl, drop_top, show (ps.1, p1.2) = p1 by rw [← he]] at g1
    exact go_ret c9 (by omega) (by simp; omega) (go_tr g0 g1)
  · intro fr F As hF hA hd
    refine ⟨fun e => by omega, fun _ => ?_, fun e => by omega⟩
    obtain ⟨Y, hY, g0⟩ := ha fr F As hF hA hd
    obtain ⟨X, nx', g1⟩ := (cs_part (G := (2, t, ps.1, As.length + 1) :: fr :: F) (As := Y ++ (acc :: As)) c0 e0 hx (by simp; omega) (by simp; omega) hd).2.1 e
    rw [unw_or2 he] at g1
    refine ⟨X ++ Y ++ [acc], nx', ?_⟩
    have e2 : X ++ Y ++ [acc] ++ As = X ++ (Y ++ acc :: As) := by simp
    rw [e2]
    exact go_tr g0 g1
  · intro fr F As hF hA hd
    refine ⟨fun e => by omega, fun e => by omega, fun _ => ?_⟩
    obtain ⟨Y, hY, g0⟩ := ha fr F As hF hA hd
    obtain ⟨c', g1, a, b⟩ := (cs_part (G := (2, t, ps.1, As.length + 1) :: fr :: F) (As := Y ++ (acc :: As)) c0 e0 hx (by simp; omega) (by simp; omega) hd).2.2 e
    exact ⟨c', go_tr g0 g1, a, b⟩
theorem cm_last1 {x L t k1 r : Nat} {acc v1 a0 b0 a9 b9 : Int32} {p1 : PS_} (hr : r ≠ 1) (c0 : cd L = (4, a0, b0)) (c9 : cd t = (6, a9, b9)) (e0 : a0.toNatClampNeg = pc x) (hx : CS_ cd en tx len pc hg x d ps r v1 p1 k1) (h1 : hg x + 1 ≤ hg n) (h3 : 1 ≤ hg x) :
    (r = 0 → p1.1 = ps.1 → CM_ cd en tx len hg L t n d acc ps 1 acc p1 (0 + (k1 + 1) + 1)) ∧ (r = 0 → p1.1 ≠ ps.1 → CM_ cd en tx len hg L t n d acc ps 0 0 p1 (0 + (k1 + 1))) ∧ (r = 2 → CM_ cd en tx len hg L t n d acc ps 2 0 p1 (0 + (k1 + 1))) :=
  cm_end hr c0 c9 e0 hx h1 h3 (fun _ _ _ _ _ _ => ⟨[], by simp, rfl⟩)
theorem cm_last2 {x y L t k1 k2 r : Nat} {acc v1 v2 a0 b0 a1 b1 a9 b9 : Int32} {p1 p2 : PS_} (hr : r ≠ 1) (c0 : cd L = (4, a0, b0)) (c1 : cd (L + 1) = (4, a1, b1)) (c9 : cd t = (6, a9, b9)) (e0 : a0.toNatClampNeg = pc y) (e1 : a1.toNatClampNeg = pc x) (hy : CS_ cd en tx len pc hg y d ps 1 v1 p1 k1) (hx : CS_ cd en tx len pc hg x d p1 r v2 p2 k2) (h1 : hg x + 1 ≤ hg n) (h2 : hg y + 1 ≤ hg n) (h3 : 1 ≤ hg x) (h4 : 1 ≤ hg y) :
    (r = 0 → p2.1 = ps.1 → CM_ cd en tx len hg L t n d acc ps 1 acc p2 (k1 + 1 + (k2 + 1) + 1)) ∧ (r = 0 → p2.1 ≠ ps.1 → CM_ cd en tx len hg L t n d acc ps 0 0 p2 (k1 + 1 + (k2 + 1))) ∧ (r = 2 → CM_ cd en tx len hg L t n d acc ps 2 0 p2 (k1 + 1 + (k2 + 1))) :=
  cm_end hr c1 c9 e1 hx h1 h3 (fun fr F As hF hA hd => ⟨[v1], by simp, (cs_part (G := (2, t, ps.1, As.length + 1) :: fr :: F) (As := acc :: As) c0 e0 hy (by simp; omega) (by simp; omega) hd).1 rfl⟩)
/-- into the loop -/
theorem cs_loop {L t j k r : Nat} {acc v a1 b1 : Int32} {p0 ps' : PS_} (c1 : cd j = (9, a1, b1)) (e1 : a1.toNatClampNeg = 2) (f1 : b1.toNatClampNeg = t) (hL : j + 1 = L) {i : Nat}
    (ha : ∀ (fr : Fr_) (F : List Fr_) (As : List Int32), F.length + 1 + 2 * (hg n - 1) ≤ 15 * d → As.length + 2 * (hg n - 1) ≤ 14 * d → d ≤ 40 → Go_ cd en tx len i (fr :: F, As, pc n, d, 0, ps) (fr :: F, acc :: As, j, d, 0, p0))
    (h : CM_ cd en tx len hg L t n d acc p0 r v ps' k) : CS_ cd en tx len pc hg n d ps r v ps' (i + 1 + k) := by
  subst hL
  intro fr F As hF hA hd
  have g0 := ha fr F As hF hA hd
  have hm := ms_guard (en := en) (tx := tx) (len := len) (F := fr :: F) (As := acc :: As) (d := d) (ps := p0) c1
  rw [e1, f1] at hm
  have g1 := go_tr g0 (go_1 (k := 0) (by simp; omega) (by simp; omega) hm rfl)
  obtain ⟨h1, h0, h2⟩ := h fr F As hF hA hd
  refine ⟨fun e => go_tr g1 (h1 e), fun e => ?_, fun e => ?_⟩
  · obtain ⟨X, nx, q⟩ := h0 e
    exact ⟨X, nx, go_tr g1 q⟩
  · obtain ⟨c', q, a, b⟩ := h2 e
    exact ⟨c', go_tr g1 q, a, b⟩
theorem cs_many {L t k r : Nat} {v a0 b0 a1 b1 : Int32} {ps' : PS_} (c0 : cd (pc n) = (1, a0, b0)) (c1 : cd (pc n + 1) = (9, a1, b1)) (e1 : a1.toNatClampNeg = 2) (f1 : b1.toNatClampNeg = t) (hL : pc n + 2 = L) (h : CM_ cd en tx len hg L t n d a0 ps r v ps' k) : CS_ cd en tx len pc hg n d ps r v ps' (1 + 1 + k) :=
  cs_loop c1 e1 f1 hL (fun fr F As hF hA hd => go_1 (k := 0) (by simp; omega) (by omega) (ms_give c0) rfl) h
theorem cs_chain {x L t k1 k r : Nat} {v v1 a0 b0 a1 b1 : Int32} {p1 ps' : PS_} (c0 : cd (pc n) = (4, a0, b0)) (c1 : cd (pc n + 1) = (9, a1, b1)) (e0 : a0.toNatClampNeg = pc x) (e1 : a1.toNatClampNeg = 2) (f1 : b1.toNatClampNeg = t) (hL : pc n + 2 = L) (hx : CS_ cd en tx len pc hg x d ps 1 v1 p1 k1) (h1 : hg x + 1 ≤ hg n) (h3 : 1 ≤ hg x)
    (h : CM_ cd en tx len hg L t n d v1 p1 r v ps' k) : CS_ cd en tx len pc hg n d ps r v ps' (k1 + 1 + 1 + k) :=
  cs_loop c1 e1 f1 hL (fun fr F As hF hA hd => (cs_part (G := fr :: F) (As := As) c0 e0 hx (by simp; omega) (by omega) hd).1 rfl) h
end KINDS
end MACH
