/-! the machine's cells and the machine over lists -/
section RELM
theorem bd_s {α β : Type} {o : Option β} {k : β → Option α} {x : β} (h : o = some x) : o.bind k = k x := by rw [h]; rfl
theorem li_lt {x : Int32} {n : Nat} (c : Nat) (hx : x = nI n) (hn : n < 2 ^ 31) (hc : c < 2 ^ 31) : x < nI c ↔ n < c := by rw [hx]; exact nI_ltI hn hc
theorem li_le {x : Int32} {n : Nat} (c : Nat) (hx : x = nI n) (hn : n < 2 ^ 31) (hc : c < 2 ^ 31) : x ≤ nI c ↔ n ≤ c := by rw [hx]; exact nI_leI hn hc
theorem li_ge {x : Int32} {n : Nat} (c : Nat) (hx : x = nI n) (hn : n < 2 ^ 31) (hc : c < 2 ^ 31) : nI c ≤ x ↔ c ≤ n := by rw [hx]; exact nI_leI hc hn
theorem li_eq {x : Int32} {n : Nat} (c : Nat) (hx : x = nI n) (hn : n < 2 ^ 31) (hc : c < 2 ^ 31) : x = nI c ↔ n = c := by rw [hx]; exact nI_eq hn hc
theorem li_in {x : Int32} {n N : Nat} (hx : x = nI n) (h : n < N) (hN : N < 2 ^ 31) : vp_in x N := by rw [hx]; exact vp_in_nI h hN
theorem li_cl {x : Int32} {n : Nat} (hx : x = nI n) (hn : n < 2 ^ 31) : x.toNatClampNeg = n := by rw [hx]; exact nI_clamp hn
theorem li_p1 {x : Int32} {n : Nat} (hx : x = nI n) : x + 1 = nI (n + 1) := by rw [hx]; exact nI_1 n
theorem li_m1 {x : Int32} {n : Nat} (hx : x = nI (n + 1)) : x - 1 = nI n := by rw [hx]; exact nI_pred n
def FrOk_ (σ : MZ_) : List Fr_ → Prop
  | [] => True
  | fr :: F => (σ 26 F.length = nI fr.1 ∧ σ 27 F.length = nI fr.2.1 ∧ σ 28 F.length = nI fr.2.2.1 ∧ σ 29 F.length = nI fr.2.2.2) ∧ (fr.1 ≤ 5 ∧ fr.2.1 ≤ 561 ∧ fr.2.2.1 ≤ 40 ∧ fr.2.2.2 ≤ 642) ∧ FrOk_ σ F
def AsOk_ (σ : MZ_) : List Int32 → Prop
  | [] => True
  | v :: As => σ 23 As.length = v ∧ AsOk_ σ As
theorem fr_c {σ σ' : MZ_} : ∀ {F : List Fr_}, (∀ i, i < F.length → σ' 26 i = σ 26 i ∧ σ' 27 i = σ 27 i ∧ σ' 28 i = σ 28 i ∧ σ' 29 i = σ 29 i) → FrOk_ σ F → FrOk_ σ' F := by
  intro F
  induction F with
  | nil => intro _ _; trivial
  | cons fr F ih =>
    intro h ⟨h1, h2, h3⟩
    obtain ⟨a, b, c, d⟩ := h F.length (by simp)
    exact ⟨⟨a.trans h1.1, b.trans h1.2.1, c.trans h1.2.2.1, d.trans h1.2.2.2⟩, h2, ih (fun i hi => h i (by simp; omega)) h3⟩
theorem as_c {σ σ' : MZ_} : ∀ {As : List Int32}, (∀ i, i < As.length → σ' 23 i = σ 23 i) → AsOk_ σ As → AsOk_ σ' As := by
  intro As
  induction As with
  | nil => intro _ _; trivial
  | cons v As ih =>
    intro h ⟨h1, h2⟩
    exact ⟨(h As.length (by simp)).trans h1, ih (fun i hi => h i (by simp; omega)) h2⟩
theorem as_drop {σ : MZ_} : ∀ {As : List Int32} (k : Nat), AsOk_ σ As → AsOk_ σ (As.drop k) := by
  intro As
  induction As with
  | nil => intro k h; simpa using h
  | cons v As ih =>
    intro k h
    cases k with
    | zero => exact h
    | succ k => exact ih k h.2
def FB_ (σ : MZ_) (F : List Fr_) : Prop := FrOk_ σ F ∧ σ 43 0 = nI F.length ∧ F.length ≤ 640
def AB_ (σ : MZ_) (As : List Int32) : Prop := AsOk_ σ As ∧ σ 34 0 = nI As.length ∧ As.length ≤ 642
def SB_ (σ : MZ_) (nx d st : Nat) (ps : PS_) : Prop := (σ 36 0 = nI nx ∧ nx ≤ 562) ∧ (σ 41 0 = nI d ∧ d ≤ 40) ∧ (σ 35 0 = nI st ∧ st ≤ 3) ∧ (σ 37 0 = nI ps.1 ∧ ps.1 ≤ 40) ∧ (σ 38 0 = nI ps.2.1 ∧ ps.2.1 ≤ 1500) ∧ σ 39 0 = ps.2.2.1 ∧ (σ 40 0 = nI ps.2.2.2.1 ∧ ps.2.2.2.1 ≤ 300) ∧ ∀ i, i < 4 → σ 24 i = ps.2.2.2.2 i
def cb_ : List Fr_ → Nat
  | [] => 0
  | fr :: F => (if fr.1 = 1 then 1 else 0) + cb_ F
def RM_ (σ : MZ_) (c : MC_) : Prop := FB_ σ c.1 ∧ AB_ σ c.2.1 ∧ SB_ σ c.2.2.1 c.2.2.2.1 c.2.2.2.2.1 c.2.2.2.2.2 ∧ cb_ c.1 ≤ c.2.2.2.1
theorem rm_4 {σ : MZ_} {F : List Fr_} {As : List Int32} {nx d st : Nat} {ps : PS_} (h : RM_ σ (F, As, nx, d, st, ps)) : FB_ σ F ∧ AB_ σ As ∧ SB_ σ nx d st ps ∧ cb_ F ≤ d := h
theorem rm_i {σ : MZ_} {F : List Fr_} {As : List Int32} {nx d st : Nat} {ps : PS_} (h : FB_ σ F ∧ AB_ σ As ∧ SB_ σ nx d st ps ∧ cb_ F ≤ d) : RM_ σ (F, As, nx, d, st, ps) := h
/-- what the machine's run leaves alone -/
def Fx_ (σ σ' : MZ_) : Prop := ∀ k, (k ≤ 22 ∨ k = 25 ∨ (30 ≤ k ∧ k ≤ 33) ∨ k = 42) → σ' k = σ k
theorem fx_t {a b c : MZ_} (h1 : Fx_ a b) (h2 : Fx_ b c) : Fx_ a c := fun k hk => (h2 k hk).trans (h1 k hk)
theorem fx_up {σ : MZ_} {j : Nat} {g : Nat → Int32} (hj : ¬ (j ≤ 22 ∨ j = 25 ∨ (30 ≤ j ∧ j ≤ 33) ∨ j = 42)) : Fx_ σ (va_up σ j g) := fun k hk => va_up_ne _ _ (fun e => hj (e ▸ hk))
theorem up_s {σ : MZ_} {j : Nat} {g : Nat → Int32} : va_up σ j g j = g := va_up_self _ _ _
theorem fb_c {σ σ' : MZ_} {F : List Fr_} (h : FB_ σ F) (h26 : σ' 26 = σ 26) (h27 : σ' 27 = σ 27) (h28 : σ' 28 = σ 28) (h29 : σ' 29 = σ 29) (h43 : σ' 43 = σ 43) : FB_ σ' F :=
  ⟨fr_c (fun i _ => by rw [h26, h27, h28, h29]; exact ⟨rfl, rfl, rfl, rfl⟩) h.1, by rw [h43]; exact h.2.1, h.2.2⟩
theorem ab_c {σ σ' : MZ_} {As : List Int32} (h : AB_ σ As) (h23 : σ' 23 = σ 23) (h34 : σ' 34 = σ 34) : AB_ σ' As :=
  ⟨as_c (fun i _ => by rw [h23]) h.1, by rw [h34]; exact h.2.1, h.2.2⟩
theorem sb_c {σ σ' : MZ_} {nx d st : Nat} {ps : PS_} (h : SB_ σ nx d st ps) (h36 : σ' 36 = σ 36) (h41 : σ' 41 = σ 41) (h35 : σ' 35 = σ 35) (h37 : σ' 37 = σ 37) (h38 : σ' 38 = σ 38) (h39 : σ' 39 = σ 39) (h40 : σ' 40 = σ 40) (h24 : σ' 24 = σ 24) : SB_ σ' nx d st ps := by
  unfold SB_
  rw [h36, h41, h35, h37, h38, h39, h40, h24]
  exact h
/-- one place of the machine's own numbers is set -/
theorem rm_next {σ : MZ_} {F : List Fr_} {As : List Int32} {nx d st : Nat} {ps : PS_} (h : RM_ σ (F, As, nx, d, st, ps)) (t : Nat) (ht : t ≤ 562) {x : Int32} (hx : x = nI t) : RM_ (va_up σ 36 (fun _ => x)) (F, As, t, d, st, ps) ∧ Fx_ σ (va_up σ 36 (fun _ => x)) := by
  obtain ⟨a, b, ⟨-, c⟩, e⟩ := rm_4 h
  exact ⟨rm_i ⟨fb_c a rfl rfl rfl rfl rfl, ab_c b rfl rfl, ⟨⟨hx, ht⟩, c⟩, e⟩, fx_up (by omega)⟩
theorem rm_state {σ : MZ_} {F : List Fr_} {As : List Int32} {nx d st : Nat} {ps : PS_} (h : RM_ σ (F, As, nx, d, st, ps)) (t : Nat) (ht : t ≤ 3) {x : Int32} (hx : x = nI t) : RM_ (va_up σ 35 (fun _ => x)) (F, As, nx, d, t, ps) ∧ Fx_ σ (va_up σ 35 (fun _ => x)) := by
  obtain ⟨a, b, ⟨c1, c2, -, c4⟩, e⟩ := rm_4 h
  exact ⟨rm_i ⟨fb_c a rfl rfl rfl rfl rfl, ab_c b rfl rfl, ⟨c1, c2, ⟨hx, ht⟩, c4⟩, e⟩, fx_up (by omega)⟩
theorem rm_place {σ : MZ_} {F : List Fr_} {As : List Int32} {nx d st : Nat} {ps : PS_} (h : RM_ σ (F, As, nx, d, st, ps)) (t : Nat) (ht : t ≤ 40) {x : Int32} (hx : x = nI t) : RM_ (va_up σ 37 (fun _ => x)) (F, As, nx, d, st, (t, ps.2)) ∧ Fx_ σ (va_up σ 37 (fun _ => x)) := by
  obtain ⟨a, b, ⟨c1, c2, c3, -, c5⟩, e⟩ := rm_4 h
  exact ⟨rm_i ⟨fb_c a rfl rfl rfl rfl rfl, ab_c b rfl rfl, ⟨c1, c2, c3, ⟨hx, ht⟩, c5⟩, e⟩, fx_up (by omega)⟩
theorem rm_looks {σ : MZ_} {F : List Fr_} {As : List Int32} {nx d st : Nat} {ps : PS_} (h : RM_ σ (F, As, nx, d, st, ps)) (t : Nat) (ht : t ≤ 1500) {x : Int32} (hx : x = nI t) : RM_ (va_up σ 38 (fun _ => x)) (F, As, nx, d, st, (ps.1, t, ps.2.2)) ∧ Fx_ σ (va_up σ 38 (fun _ => x)) := by
  obtain ⟨a, b, ⟨c1, c2, c3, c4, -, c6⟩, e⟩ := rm_4 h
  exact ⟨rm_i ⟨fb_c a rfl rfl rfl rfl rfl, ab_c b rfl rfl, ⟨c1, c2, c3, c4, ⟨hx, ht⟩, c6⟩, e⟩, fx_up (by omega)⟩
theorem rm_far {σ : MZ_} {F : List Fr_} {As : List Int32} {nx d st : Nat} {ps : PS_} (h : RM_ σ (F, As, nx, d, st, ps)) (x : Int32) : RM_ (va_up σ 39 (fun _ => x)) (F, As, nx, d, st, (ps.1, ps.2.1, x, ps.2.2.2)) ∧ Fx_ σ (va_up σ 39 (fun _ => x)) := by
  obtain ⟨a, b, ⟨c1, c2, c3, c4, c5, -, c7⟩, e⟩ := rm_4 h
  exact ⟨rm_i ⟨fb_c a rfl rfl rfl rfl rfl, ab_c b rfl rfl, ⟨c1, c2, c3, c4, c5, rfl, c7⟩, e⟩, fx_up (by omega)⟩
theorem rm_bodies {σ : MZ_} {F : List Fr_} {As : List Int32} {nx d st : Nat} {ps : PS_} (h : RM_ σ (F, As, nx, d, st, ps)) (t : Nat) (ht : t ≤ 300) {x : Int32} (hx : x = nI t) : RM_ (va_up σ 40 (fun _ => x)) (F, As, nx, d, st, (ps.1, ps.2.1, ps.2.2.1, t, ps.2.2.2.2)) ∧ Fx_ σ (va_up σ 40 (fun _ => x)) := by
  obtain ⟨a, b, ⟨c1, c2, c3, c4, c5, c6, -, c8⟩, e⟩ := rm_4 h
  exact ⟨rm_i ⟨fb_c a rfl rfl rfl rfl rfl, ab_c b rfl rfl, ⟨c1, c2, c3, c4, c5, c6, ⟨hx, ht⟩, c8⟩, e⟩, fx_up (by omega)⟩
theorem rm_depth {σ : MZ_} {F : List Fr_} {As : List Int32} {nx d st : Nat} {ps : PS_} (h : RM_ σ (F, As, nx, d, st, ps)) (t : Nat) (ht : t ≤ 40) (hc : cb_ F ≤ t) {x : Int32} (hx : x = nI t) : RM_ (va_up σ 41 (fun _ => x)) (F, As, nx, t, st, ps) ∧ Fx_ σ (va_up σ 41 (fun _ => x)) := by
  obtain ⟨a, b, ⟨c1, -, c3⟩, e⟩ := rm_4 h
  exact ⟨rm_i ⟨fb_c a rfl rfl rfl rfl rfl, ab_c b rfl rfl, ⟨c1, ⟨hx, ht⟩, c3⟩, hc⟩, fx_up (by omega)⟩
theorem rm_count {σ : MZ_} {F : List Fr_} {As : List Int32} {nx d st : Nat} {ps : PS_} (h : RM_ σ (F, As, nx, d, st, ps)) (k : Nat) {x : Int32} (hx : x = nI (As.drop k).length) : RM_ (va_up σ 34 (fun _ => x)) (F, As.drop k, nx, d, st, ps) ∧ Fx_ σ (va_up σ 34 (fun _ => x)) := by
  obtain ⟨a, b, c, e⟩ := rm_4 h
  exact ⟨rm_i ⟨fb_c a rfl rfl rfl rfl rfl, ⟨as_c (σ := σ) (fun i _ => rfl) (as_drop k b.1), hx, by have := b.2.2; simp only [List.length_drop]; omega⟩, sb_c c rfl rfl rfl rfl rfl rfl rfl rfl, e⟩, fx_up (by omega)⟩
theorem rm_reg {σ : MZ_} {F : List Fr_} {As : List Int32} {nx d st : Nat} {ps : PS_} (h : RM_ σ (F, As, nx, d, st, ps)) (i : Nat) (v : Int32) : RM_ (va_up σ 24 (upd (σ 24) i v)) (F, As, nx, d, st, (ps.1, ps.2.1, ps.2.2.1, ps.2.2.2.1, va_up ps.2.2.2.2 i v)) ∧ Fx_ σ (va_up σ 24 (upd (σ 24) i v)) := by
  obtain ⟨a, b, ⟨c1, c2, c3, c4, c5, c6, c7, c8⟩, e⟩ := rm_4 h
  refine ⟨rm_i ⟨fb_c a rfl rfl rfl rfl rfl, ab_c b rfl rfl, ⟨c1, c2, c3, c4, c5, c6, c7, fun j hj => ?_⟩, e⟩, fx_up (by omega)⟩
  show upd (σ 24) i v j = va_up ps.2.2.2.2 i v j
  by_cases e : j = i
  · subst e; rw [pk_us, va_up_self]
  · rw [pk_un e, va_up_ne _ _ e]; exact c8 j hj
/-! the frames -/
theorem rf_manner {σ : MZ_} {fr : Fr_} {F : List Fr_} (h : FB_ σ (fr :: F)) : f_F_manner σ = some (nI fr.1) ∧ f_F_target σ = some (nI fr.2.1) ∧ f_F_place σ = some (nI fr.2.2.1) ∧ f_F_height σ = some (nI fr.2.2.2) := by
  obtain ⟨⟨⟨h1, h2, h3, h4⟩, -, -⟩, h43, hl⟩ := h
  simp only [List.length_cons] at h43 hl
  have hm := li_m1 h43
  have hin := li_in hm (show F.length < 640 by omega) (by omega)
  have hcl := li_cl hm (show F.length < 2 ^ 31 by omega)
  have hc : ¬ σ 43 0 ≤ 0 := by
    intro hh
    have := (li_le 0 h43 (by omega) (by omega)).mp hh
    omega
  refine ⟨?_, ?_, ?_, ?_⟩
  · unfold f_F_manner; rw [if_neg hc, gd_in hin, hcl, h1]
  · unfold f_F_target; rw [if_neg hc, gd_in hin, hcl, h2]
  · unfold f_F_place; rw [if_neg hc, gd_in hin, hcl, h3]
  · unfold f_F_height; rw [if_neg hc, gd_in hin, hcl, h4]
theorem rm_pop {σ : MZ_} {fr : Fr_} {F : List Fr_} {As : List Int32} {nx d st : Nat} {ps : PS_} (h : RM_ σ (fr :: F, As, nx, d, st, ps)) : ∃ σ', f_F_pop σ = some σ' ∧ RM_ σ' (F, As, nx, d, st, ps) ∧ Fx_ σ σ' := by
  obtain ⟨⟨⟨-, -, a1⟩, h43, hl⟩, b, c, e⟩ := rm_4 h
  simp only [List.length_cons] at h43 hl
  have hc : ¬ σ 43 0 ≤ 0 := by
    intro hh
    have := (li_le 0 h43 (by omega) (by omega)).mp hh
    omega
  refine ⟨va_up σ 43 (fun _ => σ 43 0 - 1), by unfold f_F_pop; rw [if_neg hc]; rfl, rm_i ⟨⟨fr_c (σ := σ) (fun i _ => ⟨rfl, rfl, rfl, rfl⟩) a1, li_m1 h43, by show F.length ≤ 640; omega⟩, ab_c b rfl rfl, sb_c c rfl rfl rfl rfl rfl rfl rfl rfl, ?_⟩, fx_up (by omega)⟩
  simp only [cb_] at e
  show cb_ F ≤ d
  have e' : (if fr.1 = 1 then 1 else 0) + cb_ F ≤ d := e
  omega
theorem rm_push {σ : MZ_} {F : List Fr_} {As : List Int32} {nx d st m t : Nat} {ps : PS_} (h : RM_ σ (F, As, nx, d, st, ps)) (hF : F.length < 640) (hm : m ≤ 5) (ht : t ≤ 561) (hcb : cb_ ((m, t, ps.1, As.length) :: F) ≤ d) {x y : Int32} (hx : x = nI m) (hy : y = nI t) : ∃ σ', f_M_pushFrame σ x y = some σ' ∧ RM_ σ' ((m, t, ps.1, As.length) :: F, As, nx, d, st, ps) ∧ Fx_ σ σ' := by
  obtain ⟨⟨a1, h43, hl⟩, b, c, e⟩ := rm_4 h
  have h37 := c.2.2.2.1
  have h34 := b.2.1
  have hA := b.2.2
  have hlt : σ 43 0 < 640 := (li_lt 640 h43 (by omega) (by omega)).mpr hF
  have hge : ¬ (640 : Int32) ≤ σ 43 0 := by
    intro hh
    have := (li_ge 640 h43 (by omega) (by omega)).mp hh
    omega
  have hin := li_in h43 hF (by omega)
  have hcl := li_cl h43 (show F.length < 2 ^ 31 by omega)
  have hfull : f_F_isFull σ = some 0 := by unfold f_F_isFull; rw [if_pos hlt]
  let s1 := va_up σ 26 (upd (σ 26) F.length x)
  let s2 := va_up s1 27 (upd (σ 27) F.length y)
  let s3 := va_up s2 28 (upd (σ 28) F.length (σ 37 0))
  let s4 := va_up s3 29 (upd (σ 29) F.length (σ 34 0))
  let s5 := va_up s4 43 (fun _ => σ 43 0 + 1)
  have hp : f_F_push σ x y (σ 37 0) (σ 34 0) = some s5 := by
    unfold f_F_push
    rw [if_neg hge, gd_in hin, hcl]
    show gd_ (σ 43 0) 640 _ = _
    rw [gd_in hin]
    show gd_ (σ 43 0) 640 _ = _
    rw [gd_in hin]
    show gd_ (σ 43 0) 640 _ = _
    rw [gd_in hin]
    show some (va_up (va_up (va_up (va_up (va_up σ 26 (upd (σ 26) F.length x)) 27 (upd (σ 27) (σ 43 0).toNatClampNeg y)) 28 (upd (σ 28) (σ 43 0).toNatClampNeg (σ 37 0))) 29 (upd (σ 29) (σ 43 0).toNatClampNeg (σ 34 0))) 43 (fun _ => σ 43 0 + 1)) = _
    rw [hcl]
  refine ⟨s5, ?_, rm_i ⟨⟨⟨⟨?_, ?_, ?_, ?_⟩, ⟨hm, ht, h37.2, hA⟩, fr_c (σ := σ) (fun i hi => ?_) a1⟩, ?_, ?_⟩, ab_c b rfl rfl, sb_c c rfl rfl rfl rfl rfl rfl rfl rfl, hcb⟩, ?_⟩
  · unfold f_M_pushFrame
    rw [bd_s hfull, if_pos rfl, bd_s hp]
  · show upd (σ 26) F.length x F.length = _; rw [pk_us]; exact hx
  · show upd (σ 27) F.length y F.length = _; rw [pk_us]; exact hy
  · show upd (σ 28) F.length (σ 37 0) F.length = _; rw [pk_us]; exact h37.1
  · show upd (σ 29) F.length (σ 34 0) F.length = _; rw [pk_us]; exact h34
  · have hne : i ≠ F.length := by omega
    exact ⟨pk_un hne, pk_un hne, pk_un hne, pk_un hne⟩
  · exact li_p1 h43
  · show F.length + 1 ≤ 640; omega
  · exact fx_t (fx_up (j := 26) (by omega)) (fx_t (fx_up (j := 27) (by omega)) (fx_t (fx_up (j := 28) (by omega)) (fx_t (fx_up (j := 29) (by omega)) (fx_up (j := 43) (by omega)))))
theorem rm_move {σ : MZ_} {fr : Fr_} {F : List Fr_} {As : List Int32} {nx d st : Nat} {ps : PS_} (h : RM_ σ (fr :: F, As, nx, d, st, ps)) : ∃ σ', f_F_movePlace σ (σ 37 0) = some σ' ∧ RM_ σ' ((fr.1, fr.2.1, ps.1, fr.2.2.2) :: F, As, nx, d, st, ps) ∧ Fx_ σ σ' := by
  obtain ⟨⟨⟨⟨h1, h2, h3, h4⟩, ⟨k1, k2, k3, k4⟩, a1⟩, h43, hl⟩, b, c, e⟩ := rm_4 h
  simp only [List.length_cons] at h43 hl
  have h37 := c.2.2.2.1
  have hm := li_m1 h43
  have hin := li_in hm (show F.length < 640 by omega) (by omega)
  have hcl := li_cl hm (show F.length < 2 ^ 31 by omega)
  have hc : ¬ σ 43 0 ≤ 0 := by
    intro hh
    have := (li_le 0 h43 (by omega) (by omega)).mp hh
    omega
  refine ⟨va_up σ 28 (upd (σ 28) F.length (σ 37 0)), by unfold f_F_movePlace; rw [if_neg hc, gd_in hin, hcl]; rfl, rm_i ⟨⟨⟨⟨h1, h2, ?_, h4⟩, ⟨k1, k2, h37.2, k4⟩, fr_c (σ := σ) (fun i hi => ⟨rfl, rfl, pk_un (by omega), rfl⟩) a1⟩, h43, hl⟩, ab_c b rfl rfl, sb_c c rfl rfl rfl rfl rfl rfl rfl rfl, e⟩, fx_up (by omega)⟩
  show upd (σ 28) F.length (σ 37 0) F.length = _
  rw [pk_us]; exact h37.1
/-! the answers -/
theorem rm_give {σ : MZ_} {F : List Fr_} {As : List Int32} {nx d st : Nat} {ps : PS_} (h : RM_ σ (F, As, nx, d, st, ps)) (hA : As.length < 642) (v : Int32) : ∃ σ', f_M_give σ v = some σ' ∧ RM_ σ' (F, v :: As, nx, d, st, ps) ∧ Fx_ σ σ' := by
  obtain ⟨a, ⟨b1, h34, -⟩, c, e⟩ := rm_4 h
  have hlt : σ 34 0 < 642 := (li_lt 642 h34 (by omega) (by omega)).mpr hA
  have hin := li_in h34 hA (by omega)
  have hcl := li_cl h34 (show As.length < 2 ^ 31 by omega)
  refine ⟨va_up (va_up σ 23 (upd (σ 23) As.length v)) 34 (fun _ => σ 34 0 + 1), by unfold f_M_give; rw [if_pos hlt, gd_in hin, hcl]; rfl, rm_i ⟨fb_c a rfl rfl rfl rfl rfl, ⟨⟨?_, as_c (σ := σ) (fun i hi => ?_) b1⟩, li_p1 h34, ?_⟩, sb_c c rfl rfl rfl rfl rfl rfl rfl rfl, e⟩, fx_t (fx_up (j := 23) (by omega)) (fx_up (j := 34) (by omega))⟩
  · show upd (σ 23) As.length v As.length = v; rw [pk_us]
  · show upd (σ 23) As.length v i = σ 23 i; rw [pk_un (by omega)]
  · show As.length + 1 ≤ 642; omega
theorem ra_answer {σ : MZ_} {v : Int32} {As : List Int32} (h : AB_ σ (v :: As)) : f_M_answer σ = some v := by
  obtain ⟨⟨h1, -⟩, h34, hl⟩ := h
  simp only [List.length_cons] at h34 hl
  have hm := li_m1 h34
  have hin := li_in hm (show As.length < 642 by omega) (by omega)
  have hcl := li_cl hm (show As.length < 2 ^ 31 by omega)
  have hc : ¬ σ 34 0 ≤ 0 := by
    intro hh
    have := (li_le 0 h34 (by omega) (by omega)).mp hh
    omega
  unfold f_M_answer
  rw [if_neg hc, gd_in hin, hcl, h1]
theorem rm_take1 {σ : MZ_} {F : List Fr_} {v : Int32} {As : List Int32} {nx d st : Nat} {ps : PS_} (h : RM_ σ (F, v :: As, nx, d, st, ps)) : ∃ σ', f_M_withdraw σ = some (v, σ') ∧ RM_ σ' (F, As, nx, d, st, ps) ∧ Fx_ σ σ' := by
  have hans := ra_answer h.2.1
  obtain ⟨h34, hl⟩ := h.2.1.2
  simp only [List.length_cons] at h34 hl
  have hc : ¬ σ 34 0 ≤ 0 := by
    intro hh
    have := (li_le 0 h34 (by omega) (by omega)).mp hh
    omega
  obtain ⟨r1, r2⟩ := rm_count h 1 (x := σ 34 0 - 1) (by simpa using li_m1 h34)
  refine ⟨_, ?_, r1, r2⟩
  unfold f_M_withdraw
  rw [hans]
  show (if σ 34 0 ≤ 0 then _ else _) = _
  rw [if_neg hc]
  rfl
/-! a frame falls; a failure goes down -/
theorem rm_drop {σ : MZ_} {fr : Fr_} {F : List Fr_} {As : List Int32} {nx d st : Nat} {ps : PS_} (h : RM_ σ (fr :: F, As, nx, d, st, ps)) : ∃ σ', f_M_dropFrame σ = some σ' ∧ RM_ σ' (F, As, nx, (if fr.1 = 1 then d - 1 else d), st, ps) ∧ Fx_ σ σ' := by
  obtain ⟨a, b, c, e⟩ := rm_4 h
  have hm := (rf_manner a).1
  have hk := a.1.2.1.1
  unfold f_M_dropFrame
  rw [bd_s hm]
  by_cases q : fr.1 = 1
  · rw [if_pos (show nI fr.1 = 1 by rw [q]; rfl), if_pos q]
    obtain ⟨σ1, p1, r1, x1⟩ := rm_pop h
    have e2 : (if fr.1 = 1 then 1 else 0) + cb_ F ≤ d := e
    rw [if_pos q] at e2
    have h41 := c.2.1
    obtain ⟨r2, x2⟩ := rm_depth h d h41.2 e h41.1
    -- the depth first, then the frame
    have hd : σ 41 0 - 1 = nI (d - 1) := by
      rw [h41.1, show d = (d - 1) + 1 by omega]
      exact nI_pred _
    have h3 : RM_ (va_up σ 41 (fun _ => σ 41 0 - 1)) ((0, fr.2.1, fr.2.2.1, fr.2.2.2) :: F, As, nx, d - 1, st, ps) → True := fun _ => trivial
    have hf : FB_ (va_up σ 41 (fun _ => σ 41 0 - 1)) (fr :: F) := fb_c a rfl rfl rfl rfl rfl
    have h43 := hf.2.1
    have hl := hf.2.2
    simp only [List.length_cons] at h43 hl
    have hc : ¬ (va_up σ 41 (fun _ => σ 41 0 - 1)) 43 0 ≤ 0 := by
      intro hh
      have := (li_le 0 h43 (by omega) (by omega)).mp hh
      omega
    refine ⟨va_up (va_up σ 41 (fun _ => σ 41 0 - 1)) 43 (fun _ => (va_up σ 41 (fun _ => σ 41 0 - 1)) 43 0 - 1), ?_, rm_i ⟨⟨fr_c (σ := σ) (fun i _ => ⟨rfl, rfl, rfl, rfl⟩) a.1.2.2, li_m1 h43, by omega⟩, ab_c b rfl rfl, ?_, by omega⟩, fx_t (fx_up (j := 41) (by omega)) (fx_up (j := 43) (by omega))⟩
    · show (f_F_pop (va_up σ 41 (fun _ => σ 41 0 - 1))).bind _ = _
      have hpop : f_F_pop (va_up σ 41 (fun _ => σ 41 0 - 1)) = some (va_up (va_up σ 41 (fun _ => σ 41 0 - 1)) 43 (fun _ => (va_up σ 41 (fun _ => σ 41 0 - 1)) 43 0 - 1)) := by
        unfold f_F_pop
        rw [if_neg hc]
        rfl
      rw [bd_s hpop]
    · obtain ⟨c1, -, c3⟩ := c
      exact ⟨c1, ⟨hd, by have := h41.2; omega⟩, c3⟩
  · have hne : ¬ nI fr.1 = 1 := by
      intro hh
      exact q ((li_eq 1 rfl (by omega) (by omega)).mp hh)
    rw [if_neg hne, if_neg q]
    obtain ⟨σ1, p1, r1, x1⟩ := rm_pop h
    exact ⟨σ1, by rw [bd_s p1], r1, x1⟩
theorem rs_stops {σ : MZ_} {fr : Fr_} {F : List Fr_} {a : Nat} (h : FB_ σ (fr :: F)) (ha : a ≤ 40) {x : Int32} (hx : x = nI a) : f_M_stops σ x = some (if fr.1 = 5 ∨ (fr.1 = 2 ∧ a = fr.2.2.1) then 1 else 0) := by
  obtain ⟨hm, -, hp, -⟩ := rf_manner h
  obtain ⟨k1, -, k3, -⟩ := h.1.2.1
  unfold f_M_stops
  rw [bd_s hm]
  by_cases q : fr.1 = 2
  · rw [if_pos (show nI fr.1 = 2 by rw [q]; rfl), bd_s hp]
    by_cases q2 : a = fr.2.2.1
    · rw [if_pos (show x = nI fr.2.2.1 by rw [hx, q2]), if_pos (Or.inr ⟨q, q2⟩)]
    · rw [if_neg (show ¬ x = nI fr.2.2.1 by rw [hx, nI_eq (by omega) (by omega)]; exact q2), if_neg (by omega)]
  · rw [if_neg (show ¬ nI fr.1 = 2 from fun hh => q ((li_eq 2 rfl (by omega) (by omega)).mp hh))]
    by_cases q5 : fr.1 = 5
    · rw [if_pos (show nI fr.1 = 5 by rw [q5]; rfl), if_pos (Or.inl q5)]
    · rw [if_neg (show ¬ nI fr.1 = 5 from fun hh => q5 ((li_eq 5 rfl (by omega) (by omega)).mp hh)), if_neg (by omega)]
theorem rm_guard {σ : MZ_} {fr : Fr_} {F : List Fr_} {As : List Int32} {nx d st : Nat} {ps : PS_} (h : RM_ σ (fr :: F, As, nx, d, st, ps)) : ∃ σ', f_M_goOnFromGuard σ = some σ' ∧ RM_ σ' (F, As.drop (As.length - fr.2.2.2), fr.2.1, d, st, (fr.2.2.1, ps.2)) ∧ Fx_ σ σ' := by
  obtain ⟨a, b, c, e⟩ := rm_4 h
  obtain ⟨hm, ht, hp, hh⟩ := rf_manner a
  obtain ⟨k1, k2, k3, k4⟩ := a.1.2.1
  have h34 := b.2.1
  have hA := b.2.2
  obtain ⟨r1, x1⟩ := rm_place h fr.2.2.1 k3 (x := nI fr.2.2.1) rfl
  have a1 : FB_ (va_up σ 37 (fun _ => nI fr.2.2.1)) (fr :: F) := (rm_4 r1).1
  have hh1 := (rf_manner a1).2.2.2
  have hcnt : (if nI fr.2.2.2 < (va_up σ 37 (fun _ => nI fr.2.2.1)) 34 0 then nI fr.2.2.2 else (va_up σ 37 (fun _ => nI fr.2.2.1)) 34 0) = nI (As.drop (As.length - fr.2.2.2)).length := by
    have e34 : (va_up σ 37 (fun _ => nI fr.2.2.1)) 34 0 = nI As.length := h34
    rw [e34, List.length_drop]
    by_cases q : fr.2.2.2 < As.length
    · rw [if_pos ((nI_ltI (by omega) (by omega)).mpr q)]
      congr 1; omega
    · rw [if_neg (show ¬ nI fr.2.2.2 < nI As.length by rw [nI_ltI (by omega) (by omega)]; exact q)]
      congr 1; omega
  obtain ⟨r2, x2⟩ := rm_count r1 (As.length - fr.2.2.2) hcnt
  have a2 := (rm_4 r2).1
  have ht2 := (rf_manner a2).2.1
  obtain ⟨r3, x3⟩ := rm_next r2 fr.2.1 (by omega) (x := nI fr.2.1) rfl
  obtain ⟨σ4, p4, r4, x4⟩ := rm_pop r3
  refine ⟨σ4, ?_, r4, fx_t x1 (fx_t x2 (fx_t x3 x4))⟩
  unfold f_M_goOnFromGuard
  rw [bd_s hp]
  show (f_F_height (va_up σ 37 (fun _ => nI fr.2.2.1))).bind _ = _
  rw [bd_s hh1]
  show (f_F_target _).bind _ = _
  rw [bd_s ht2]
  show (f_F_pop _).bind _ = _
  rw [bd_s p4]
theorem rm_fail : ∀ (N : Nat) {σ : MZ_} {F : List Fr_} {As : List Int32} {nx d a : Nat} {ps : PS_} (x1 : Int32), F.length < N → RM_ σ (F, As, nx, d, 0, ps) → a ≤ 40 → ∃ σ', f_M_failAt_L10 N σ x1 (nI a) (nI F.length) = some σ' ∧ RM_ σ' (unw_ F As a d nx ps) ∧ Fx_ σ σ' := by
  intro N
  induction N with
  | zero => intro σ F As nx d a ps x1 h; omega
  | succ N ih =>
    intro σ F As nx d a ps x1 hN h ha
    rw [f_M_failAt_L10]
    have hl := (rm_4 h).1.2.2
    cases F with
    | nil =>
      obtain ⟨r1, z1⟩ := rm_place h a ha (x := nI a) rfl
      obtain ⟨r2, z2⟩ := rm_state r1 2 (by omega) (x := 2) rfl
      refine ⟨_, ?_, r2, fx_t z1 z2⟩
      rw [if_pos (show nI ([] : List Fr_).length ≤ 0 from Int32.le_refl _)]
      rfl
    | cons fr F =>
      have hs := rs_stops (rm_4 h).1 ha (x := nI a) rfl
      have hc : ¬ nI (fr :: F).length ≤ 0 := by
        intro hh
        have := (li_le 0 rfl (by simp only [List.length_cons] at hl ⊢; omega) (by omega)).mp hh
        simp only [List.length_cons] at this
        omega
      rw [if_neg hc, bd_s hs]
      by_cases q : fr.1 = 5 ∨ (fr.1 = 2 ∧ a = fr.2.2.1)
      · rw [if_pos q, if_neg (show ¬ (1 : Int32) = 0 by decide)]
        obtain ⟨σ1, p1, r1, z1⟩ := rm_guard h
        refine ⟨σ1, by rw [bd_s p1], ?_, z1⟩
        show RM_ σ1 (if fr.1 = 5 ∨ (fr.1 = 2 ∧ a = fr.2.2.1) then _ else _)
        rw [if_pos q]
        exact r1
      · rw [if_neg q, if_pos rfl]
        obtain ⟨hm, -, hp, -⟩ := rf_manner (rm_4 h).1
        obtain ⟨k1, -, k3, -⟩ := (rm_4 h).1.1.2.1
        obtain ⟨σ1, p1, r1, z1⟩ := rm_drop h
        have hx3 : nI (fr :: F).length + (-1) = nI F.length := pk_m1 F.length
        rw [bd_s hm, hx3]
        by_cases q3 : fr.1 = 3
        · rw [if_pos (show nI fr.1 = 3 by rw [q3]; rfl), bd_s hp, bd_s p1]
          obtain ⟨σ2, p2, r2, z2⟩ := ih x1 (a := fr.2.2.1) (by simp only [List.length_cons] at hN; omega) r1 k3
          refine ⟨σ2, p2, ?_, fx_t z1 z2⟩
          show RM_ σ2 (if fr.1 = 5 ∨ (fr.1 = 2 ∧ a = fr.2.2.1) then _ else _)
          rw [if_neg q, if_pos q3]
          exact r2
        · rw [if_neg (show ¬ nI fr.1 = 3 from fun hh => q3 ((li_eq 3 rfl (by omega) (by omega)).mp hh)), bd_s p1]
          obtain ⟨σ2, p2, r2, z2⟩ := ih x1 (a := a) (by simp only [List.length_cons] at hN; omega) r1 ha
          refine ⟨σ2, p2, ?_, fx_t z1 z2⟩
          show RM_ σ2 (if fr.1 = 5 ∨ (fr.1 = 2 ∧ a = fr.2.2.1) then _ else _)
          rw [if_neg q, if_neg q3]
          exact r2
theorem rm_failAt {σ : MZ_} {F : List Fr_} {As : List Int32} {nx d a : Nat} {ps : PS_} (h : RM_ σ (F, As, nx, d, 0, ps)) (ha : a ≤ 40) {x : Int32} (hx : x = nI a) : ∃ σ', f_M_failAt σ x = some σ' ∧ RM_ σ' (unw_ F As a d nx ps) ∧ Fx_ σ σ' := by
  obtain ⟨h43, hl⟩ := (rm_4 h).1.2
  obtain ⟨σ1, p1, r1, z1⟩ := rm_fail 1000 x (by omega) h ha
  refine ⟨σ1, ?_, r1, z1⟩
  unfold f_M_failAt
  rw [bd_s (show f_F_size σ = some (σ 43 0) from rfl), h43, hx]
  rw [hx] at p1
  exact p1
/-! where nothing stands -/
theorem rf_nil {σ : MZ_} (h : FB_ σ []) : f_F_manner σ = some 0 ∧ f_F_target σ = some 0 ∧ f_F_place σ = some 0 ∧ f_F_pop σ = some σ ∧ ∀ x, f_F_movePlace σ x = some σ := by
  have hc : σ 43 0 ≤ 0 := by rw [h.2.1]; exact Int32.le_refl _
  refine ⟨?_, ?_, ?_, ?_, fun x => ?_⟩
  · unfold f_F_manner; rw [if_pos hc]
  · unfold f_F_target; rw [if_pos hc]
  · unfold f_F_place; rw [if_pos hc]
  · unfold f_F_pop; rw [if_pos hc]
  · unfold f_F_movePlace; rw [if_pos hc]
theorem rm_with {σ : MZ_} {F : List Fr_} {As : List Int32} {nx d st : Nat} {ps : PS_} (h : RM_ σ (F, As, nx, d, st, ps)) : ∃ σ', f_M_withdraw σ = some (As.headD 0, σ') ∧ RM_ σ' (F, As.tail, nx, d, st, ps) ∧ Fx_ σ σ' := by
  cases As with
  | nil =>
    have hc : σ 34 0 ≤ 0 := by rw [(rm_4 h).2.1.2.1]; exact Int32.le_refl _
    refine ⟨σ, ?_, h, fun _ _ => rfl⟩
    unfold f_M_withdraw
    rw [bd_s (show f_M_answer σ = some 0 by unfold f_M_answer; rw [if_pos hc]), if_pos hc]
    rfl
  | cons v As => exact rm_take1 h
theorem ra_ans {σ : MZ_} {As : List Int32} (h : AB_ σ As) : f_M_answer σ = some (As.headD 0) := by
  cases As with
  | nil =>
    have hc : σ 34 0 ≤ 0 := by rw [h.2.1]; exact Int32.le_refl _
    unfold f_M_answer; rw [if_pos hc]; rfl
  | cons v As => exact ra_answer h
end RELM
