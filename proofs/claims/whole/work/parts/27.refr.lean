/-! the other system's cells and its machine over a list -/
section REFR
def StOk_ (σ : MZ_) (I : Nat → Prop) : List RF_ → Prop
  | [] => True
  | f :: S => (σ 12 S.length = nI f.1 ∧ σ 13 S.length = nI f.2.1 ∧ σ 14 S.length = nI f.2.2.1 ∧ σ 15 S.length = f.2.2.2.1 ∧ σ 16 S.length = nI f.2.2.2.2.1 ∧ σ 17 S.length = f.2.2.2.2.2) ∧ (I f.1 ∧ f.1 < 80 ∧ f.2.1 ≤ 3 ∧ f.2.2.1 ≤ 40 ∧ f.2.2.2.2.1 ≤ 40) ∧ StOk_ σ I S
theorem st_c {σ σ' : MZ_} {I : Nat → Prop} : ∀ {S : List RF_}, (∀ i, i < S.length → σ' 12 i = σ 12 i ∧ σ' 13 i = σ 13 i ∧ σ' 14 i = σ 14 i ∧ σ' 15 i = σ 15 i ∧ σ' 16 i = σ 16 i ∧ σ' 17 i = σ 17 i) → StOk_ σ I S → StOk_ σ' I S := by
  intro S
  induction S with
  | nil => intro _ _; trivial
  | cons f S ih =>
    intro h ⟨h1, h2, h3⟩
    obtain ⟨a, b, c, d, e, g⟩ := h S.length (by simp)
    exact ⟨⟨a.trans h1.1, b.trans h1.2.1, c.trans h1.2.2.1, d.trans h1.2.2.2.1, e.trans h1.2.2.2.2.1, g.trans h1.2.2.2.2.2⟩, h2, ih (fun i hi => h i (by simp; omega)) h3⟩
def ZB_ (σ : MZ_) (I : Nat → Prop) (S : List RF_) : Prop := StOk_ σ I S ∧ σ 34 0 = nI S.length ∧ S.length ≤ 400
def ZS_ (σ : MZ_) (gd : Nat) (vl : Int32) (d ti : Nat) (ps : PS_) : Prop := (σ 35 0 = nI gd ∧ gd ≤ 1) ∧ σ 37 0 = vl ∧ (σ 39 0 = nI d ∧ d ≤ 41) ∧ (σ 38 0 = nI ti ∧ ti ≤ 1) ∧ (σ 36 0 = nI ps.1 ∧ ps.1 ≤ 40) ∧ (σ 41 0 = nI ps.2.1 ∧ ps.2.1 ≤ 1500) ∧ σ 42 0 = ps.2.2.1 ∧ (σ 40 0 = nI ps.2.2.2.1 ∧ ps.2.2.2.1 ≤ 301) ∧ ∀ i, i < 4 → σ 18 i = ps.2.2.2.2 i
def RR_ (σ : MZ_) (I : Nat → Prop) (c : RC_) : Prop := ZB_ σ I c.1 ∧ ZS_ σ c.2.1 c.2.2.1 c.2.2.2.1 c.2.2.2.2.1 c.2.2.2.2.2 ∧ (c.2.2.2.2.1 = 0 → c.2.2.2.1 ≤ 40 ∧ c.2.2.2.2.2.2.2.2.1 ≤ 300)
def Gx_ (σ σ' : MZ_) : Prop := ∀ k, (k ≤ 11 ∨ (30 ≤ k ∧ k ≤ 33) ∨ 43 ≤ k) → σ' k = σ k
theorem gx_t {a b c : MZ_} (h1 : Gx_ a b) (h2 : Gx_ b c) : Gx_ a c := fun k hk => (h2 k hk).trans (h1 k hk)
theorem gx_up {σ : MZ_} {j : Nat} {g : Nat → Int32} (hj : ¬ (j ≤ 11 ∨ (30 ≤ j ∧ j ≤ 33) ∨ 43 ≤ j)) : Gx_ σ (va_up σ j g) := fun k hk => va_up_ne _ _ (fun e => hj (e ▸ hk))
theorem gx_r {σ : MZ_} : Gx_ σ σ := fun _ _ => rfl
variable {I : Nat → Prop} {σ : MZ_} {f : RF_} {S : List RF_} {gd d ti : Nat} {vl : Int32} {ps : PS_}
theorem rr_4 (h : RR_ σ I (S, gd, vl, d, ti, ps)) : ZB_ σ I S ∧ ZS_ σ gd vl d ti ps ∧ (ti = 0 → d ≤ 40 ∧ ps.2.2.2.1 ≤ 300) := h
theorem rr_i (h : ZB_ σ I S ∧ ZS_ σ gd vl d ti ps ∧ (ti = 0 → d ≤ 40 ∧ ps.2.2.2.1 ≤ 300)) : RR_ σ I (S, gd, vl, d, ti, ps) := h
theorem zb_c {σ' : MZ_} (h : ZB_ σ I S) (h12 : σ' 12 = σ 12) (h13 : σ' 13 = σ 13) (h14 : σ' 14 = σ 14) (h15 : σ' 15 = σ 15) (h16 : σ' 16 = σ 16) (h17 : σ' 17 = σ 17) (h34 : σ' 34 = σ 34) : ZB_ σ' I S :=
  ⟨st_c (fun i _ => by rw [h12, h13, h14, h15, h16, h17]; exact ⟨rfl, rfl, rfl, rfl, rfl, rfl⟩) h.1, by rw [h34]; exact h.2.1, h.2.2⟩
theorem zs_c {σ' : MZ_} (h : ZS_ σ gd vl d ti ps) (h35 : σ' 35 = σ 35) (h37 : σ' 37 = σ 37) (h39 : σ' 39 = σ 39) (h38 : σ' 38 = σ 38) (h36 : σ' 36 = σ 36) (h41 : σ' 41 = σ 41) (h42 : σ' 42 = σ 42) (h40 : σ' 40 = σ 40) (h18 : σ' 18 = σ 18) : ZS_ σ' gd vl d ti ps := by
  unfold ZS_
  rw [h35, h37, h39, h38, h36, h41, h42, h40, h18]
  exact h
/-! single places -/
theorem rr_good (h : RR_ σ I (S, gd, vl, d, ti, ps)) (g : Nat) (hg : g ≤ 1) {x : Int32} (hx : x = nI g) : RR_ (va_up σ 35 (fun _ => x)) I (S, g, vl, d, ti, ps) ∧ Gx_ σ (va_up σ 35 (fun _ => x)) := by
  obtain ⟨a, ⟨-, c⟩, e⟩ := rr_4 h
  exact ⟨rr_i ⟨zb_c a rfl rfl rfl rfl rfl rfl rfl, ⟨⟨hx, hg⟩, c⟩, e⟩, gx_up (by omega)⟩
theorem rr_val (h : RR_ σ I (S, gd, vl, d, ti, ps)) (x : Int32) : RR_ (va_up σ 37 (fun _ => x)) I (S, gd, x, d, ti, ps) ∧ Gx_ σ (va_up σ 37 (fun _ => x)) := by
  obtain ⟨a, ⟨c1, -, c⟩, e⟩ := rr_4 h
  exact ⟨rr_i ⟨zb_c a rfl rfl rfl rfl rfl rfl rfl, ⟨c1, rfl, c⟩, e⟩, gx_up (by omega)⟩
theorem rr_at (h : RR_ σ I (S, gd, vl, d, ti, ps)) (t : Nat) (ht : t ≤ 40) {x : Int32} (hx : x = nI t) : RR_ (va_up σ 36 (fun _ => x)) I (S, gd, vl, d, ti, (t, ps.2)) ∧ Gx_ σ (va_up σ 36 (fun _ => x)) := by
  obtain ⟨a, ⟨c1, c2, c3, c4, -, c6⟩, e⟩ := rr_4 h
  exact ⟨rr_i ⟨zb_c a rfl rfl rfl rfl rfl rfl rfl, ⟨c1, c2, c3, c4, ⟨hx, ht⟩, c6⟩, e⟩, gx_up (by omega)⟩
theorem rr_looks (h : RR_ σ I (S, gd, vl, d, ti, ps)) (t : Nat) (ht : t ≤ 1500) {x : Int32} (hx : x = nI t) : RR_ (va_up σ 41 (fun _ => x)) I (S, gd, vl, d, ti, (ps.1, t, ps.2.2)) ∧ Gx_ σ (va_up σ 41 (fun _ => x)) := by
  obtain ⟨a, ⟨c1, c2, c3, c4, c5, -, c7⟩, e⟩ := rr_4 h
  exact ⟨rr_i ⟨zb_c a rfl rfl rfl rfl rfl rfl rfl, ⟨c1, c2, c3, c4, c5, ⟨hx, ht⟩, c7⟩, e⟩, gx_up (by omega)⟩
theorem rr_far (h : RR_ σ I (S, gd, vl, d, ti, ps)) (x : Int32) : RR_ (va_up σ 42 (fun _ => x)) I (S, gd, vl, d, ti, (ps.1, ps.2.1, x, ps.2.2.2)) ∧ Gx_ σ (va_up σ 42 (fun _ => x)) := by
  obtain ⟨a, ⟨c1, c2, c3, c4, c5, c6, -, c8⟩, e⟩ := rr_4 h
  exact ⟨rr_i ⟨zb_c a rfl rfl rfl rfl rfl rfl rfl, ⟨c1, c2, c3, c4, c5, c6, rfl, c8⟩, e⟩, gx_up (by omega)⟩
theorem rr_reg (h : RR_ σ I (S, gd, vl, d, ti, ps)) (i : Nat) (v : Int32) : RR_ (va_up σ 18 (upd (σ 18) i v)) I (S, gd, vl, d, ti, (ps.1, ps.2.1, ps.2.2.1, ps.2.2.2.1, va_up ps.2.2.2.2 i v)) ∧ Gx_ σ (va_up σ 18 (upd (σ 18) i v)) := by
  obtain ⟨a, ⟨c1, c2, c3, c4, c5, c6, c7, c8, c9⟩, e⟩ := rr_4 h
  refine ⟨rr_i ⟨zb_c a rfl rfl rfl rfl rfl rfl rfl, ⟨c1, c2, c3, c4, c5, c6, c7, c8, fun j hj => ?_⟩, e⟩, gx_up (by omega)⟩
  show upd (σ 18) i v j = va_up ps.2.2.2.2 i v j
  by_cases e : j = i
  · subst e; rw [pk_us, va_up_self]
  · rw [pk_un e, va_up_ne _ _ e]; exact c9 j hj
theorem rr_pop (h : RR_ σ I (f :: S, gd, vl, d, ti, ps)) : RR_ (va_up σ 34 (fun _ => σ 34 0 - 1)) I (S, gd, vl, d, ti, ps) ∧ Gx_ σ (va_up σ 34 (fun _ => σ 34 0 - 1)) := by
  obtain ⟨⟨⟨-, -, a1⟩, h34, hl⟩, c, e⟩ := rr_4 h
  simp only [List.length_cons] at h34 hl
  exact ⟨rr_i ⟨⟨st_c (σ := σ) (fun i _ => ⟨rfl, rfl, rfl, rfl, rfl, rfl⟩) a1, li_m1 h34, by omega⟩, zs_c c rfl rfl rfl rfl rfl rfl rfl rfl rfl, e⟩, gx_up (by omega)⟩
theorem rr_top (h : RR_ σ I (f :: S, gd, vl, d, ti, ps)) : (σ 34 0 - 1 = nI S.length) ∧ S.length < 400 ∧ (σ 12 S.length = nI f.1 ∧ σ 13 S.length = nI f.2.1 ∧ σ 14 S.length = nI f.2.2.1 ∧ σ 15 S.length = f.2.2.2.1 ∧ σ 16 S.length = nI f.2.2.2.2.1 ∧ σ 17 S.length = f.2.2.2.2.2) ∧ (I f.1 ∧ f.1 < 80 ∧ f.2.1 ≤ 3 ∧ f.2.2.1 ≤ 40 ∧ f.2.2.2.2.1 ≤ 40) := by
  obtain ⟨⟨⟨a1, a2, -⟩, h34, hl⟩, -, -⟩ := rr_4 h
  simp only [List.length_cons] at h34 hl
  exact ⟨li_m1 h34, by omega, a1, a2⟩
/-! the top's own places -/
theorem rr_state (h : RR_ σ I (f :: S, gd, vl, d, ti, ps)) (t : Nat) (ht : t ≤ 3) {x : Int32} (hx : x = nI t) : RR_ (va_up σ 13 (upd (σ 13) S.length x)) I ((f.1, t, f.2.2) :: S, gd, vl, d, ti, ps) ∧ Gx_ σ (va_up σ 13 (upd (σ 13) S.length x)) := by
  obtain ⟨⟨⟨⟨a1, a2, a3⟩, ⟨b1, b2, b3, b4⟩, a4⟩, h34, hl⟩, c, e⟩ := rr_4 h
  refine ⟨rr_i ⟨⟨⟨⟨a1, ?_, a3⟩, ⟨b1, b2, ht, b4⟩, st_c (σ := σ) (fun i hi => ⟨rfl, pk_un (by omega), rfl, rfl, rfl, rfl⟩) a4⟩, h34, hl⟩, zs_c c rfl rfl rfl rfl rfl rfl rfl rfl rfl, e⟩, gx_up (by omega)⟩
  show upd (σ 13) S.length x S.length = _
  rw [pk_us]; exact hx
theorem rr_ans (h : RR_ σ I (f :: S, gd, vl, d, ti, ps)) (x : Int32) : RR_ (va_up σ 15 (upd (σ 15) S.length x)) I ((f.1, f.2.1, f.2.2.1, x, f.2.2.2.2) :: S, gd, vl, d, ti, ps) ∧ Gx_ σ (va_up σ 15 (upd (σ 15) S.length x)) := by
  obtain ⟨⟨⟨⟨a1, a2, a3, -, a5⟩, b, a4⟩, h34, hl⟩, c, e⟩ := rr_4 h
  refine ⟨rr_i ⟨⟨⟨⟨a1, a2, a3, ?_, a5⟩, b, st_c (σ := σ) (fun i hi => ⟨rfl, rfl, rfl, pk_un (by omega), rfl, rfl⟩) a4⟩, h34, hl⟩, zs_c c rfl rfl rfl rfl rfl rfl rfl rfl rfl, e⟩, gx_up (by omega)⟩
  show upd (σ 15) S.length x S.length = _
  rw [pk_us]
theorem rr_mark (h : RR_ σ I (f :: S, gd, vl, d, ti, ps)) {x : Int32} (hx : x = nI ps.1) : RR_ (va_up σ 16 (upd (σ 16) S.length x)) I ((f.1, f.2.1, f.2.2.1, f.2.2.2.1, ps.1, f.2.2.2.2.2) :: S, gd, vl, d, ti, ps) ∧ Gx_ σ (va_up σ 16 (upd (σ 16) S.length x)) := by
  obtain ⟨⟨⟨⟨a1, a2, a3, a4, -, a6⟩, ⟨b1, b2, b3, b4, -⟩, a7⟩, h34, hl⟩, c, e⟩ := rr_4 h
  have hp := c.2.2.2.2.1.2
  refine ⟨rr_i ⟨⟨⟨⟨a1, a2, a3, a4, ?_, a6⟩, ⟨b1, b2, b3, b4, hp⟩, st_c (σ := σ) (fun i hi => ⟨rfl, rfl, rfl, rfl, pk_un (by omega), rfl⟩) a7⟩, h34, hl⟩, zs_c c rfl rfl rfl rfl rfl rfl rfl rfl rfl, e⟩, gx_up (by omega)⟩
  show upd (σ 16) S.length x S.length = _
  rw [pk_us]; exact hx
theorem rr_sign (h : RR_ σ I (f :: S, gd, vl, d, ti, ps)) (x : Int32) : RR_ (va_up σ 17 (upd (σ 17) S.length x)) I ((f.1, f.2.1, f.2.2.1, f.2.2.2.1, f.2.2.2.2.1, x) :: S, gd, vl, d, ti, ps) ∧ Gx_ σ (va_up σ 17 (upd (σ 17) S.length x)) := by
  obtain ⟨⟨⟨⟨a1, a2, a3, a4, a5, -⟩, b, a7⟩, h34, hl⟩, c, e⟩ := rr_4 h
  refine ⟨rr_i ⟨⟨⟨⟨a1, a2, a3, a4, a5, ?_⟩, b, st_c (σ := σ) (fun i hi => ⟨rfl, rfl, rfl, rfl, rfl, pk_un (by omega)⟩) a7⟩, h34, hl⟩, zs_c c rfl rfl rfl rfl rfl rfl rfl rfl rfl, e⟩, gx_up (by omega)⟩
  show upd (σ 17) S.length x S.length = _
  rw [pk_us]
/-! enter, succeed, fail -/
theorem rr_enter (h : RR_ σ I (S, gd, vl, d, ti, ps)) (hS : S.length < 400) {n : Nat} (hn : n < 80) (hI : I n) {x : Int32} (hx : x = nI n) : ∃ σ', f_R_enter σ x = some σ' ∧ RR_ σ' I (en_ n ps.1 :: S, gd, vl, d, ti, ps) ∧ Gx_ σ σ' := by
  obtain ⟨⟨a1, h34, hl⟩, c, e⟩ := rr_4 h
  have h36 := c.2.2.2.2.1
  have hin := li_in h34 hS (by omega)
  have hcl := li_cl h34 (show S.length < 2 ^ 31 by omega)
  let s1 := va_up σ 12 (upd (σ 12) S.length x)
  let s2 := va_up s1 13 (upd (σ 13) S.length 0)
  let s3 := va_up s2 14 (upd (σ 14) S.length (σ 36 0))
  let s4 := va_up s3 15 (upd (σ 15) S.length 0)
  let s5 := va_up s4 16 (upd (σ 16) S.length (σ 36 0))
  let s6 := va_up s5 17 (upd (σ 17) S.length 0)
  let s7 := va_up s6 34 (fun _ => σ 34 0 + 1)
  refine ⟨s7, ?_, rr_i ⟨⟨⟨⟨?_, ?_, ?_, ?_, ?_, ?_⟩, ⟨hI, hn, by show 0 ≤ 3; omega, h36.2, h36.2⟩, st_c (σ := σ) (fun i hi => ?_) a1⟩, li_p1 h34, by show S.length + 1 ≤ 400; omega⟩, zs_c c rfl rfl rfl rfl rfl rfl rfl rfl rfl, e⟩, ?_⟩
  · unfold f_R_enter
    rw [gd_in hin, hcl]
    show gd_ (σ 34 0) 400 _ = _
    rw [gd_in hin]
    show gd_ (σ 34 0) 400 _ = _
    rw [gd_in hin]
    show gd_ (σ 34 0) 400 _ = _
    rw [gd_in hin]
    show gd_ (σ 34 0) 400 _ = _
    rw [gd_in hin]
    show gd_ (σ 34 0) 400 _ = _
    rw [gd_in hin]
    show some (va_up (va_up (va_up (va_up (va_up (va_up (va_up σ 12 (upd (σ 12) S.length x)) 13 (upd (σ 13) (σ 34 0).toNatClampNeg 0)) 14 (upd (σ 14) (σ 34 0).toNatClampNeg (σ 36 0))) 15 (upd (σ 15) (σ 34 0).toNatClampNeg 0)) 16 (upd (σ 16) (σ 34 0).toNatClampNeg (σ 36 0))) 17 (upd (σ 17) (σ 34 0).toNatClampNeg 0)) 34 (fun _ => σ 34 0 + 1)) = _
    rw [hcl]
  · show upd (σ 12) S.length x S.length = _; rw [pk_us]; exact hx
  · show upd (σ 13) S.length 0 S.length = _; rw [pk_us]; rfl
  · show upd (σ 14) S.length (σ 36 0) S.length = _; rw [pk_us]; exact h36.1
  · show upd (σ 15) S.length 0 S.length = _; rw [pk_us]; rfl
  · show upd (σ 16) S.length (σ 36 0) S.length = _; rw [pk_us]; exact h36.1
  · show upd (σ 17) S.length 0 S.length = _; rw [pk_us]; rfl
  · have hne : i ≠ S.length := by omega
    exact ⟨pk_un hne, pk_un hne, pk_un hne, pk_un hne, pk_un hne, pk_un hne⟩
  · exact gx_t (gx_up (j := 12) (by omega)) (gx_t (gx_up (j := 13) (by omega)) (gx_t (gx_up (j := 14) (by omega)) (gx_t (gx_up (j := 15) (by omega)) (gx_t (gx_up (j := 16) (by omega)) (gx_t (gx_up (j := 17) (by omega)) (gx_up (j := 34) (by omega)))))))
theorem rr_succ (h : RR_ σ I (f :: S, gd, vl, d, ti, ps)) (v : Int32) : ∃ σ', f_R_succeed σ v = some σ' ∧ RR_ σ' I (S, 1, v, d, ti, ps) ∧ Gx_ σ σ' := by
  obtain ⟨r1, z1⟩ := rr_good h 1 (by omega) (x := 1) rfl
  obtain ⟨r2, z2⟩ := rr_val r1 v
  obtain ⟨r3, z3⟩ := rr_pop r2
  exact ⟨_, rfl, r3, gx_t z1 (gx_t z2 z3)⟩
theorem rr_fl (h : RR_ σ I (f :: S, gd, vl, d, ti, ps)) : ∃ σ', f_R_fail σ = some σ' ∧ RR_ σ' I (S, 0, vl, d, ti, ps) ∧ Gx_ σ σ' := by
  obtain ⟨r1, z1⟩ := rr_good h 0 (by omega) (x := 0) rfl
  obtain ⟨r3, z3⟩ := rr_pop r1
  exact ⟨_, rfl, r3, gx_t z1 z3⟩
theorem jr_f {w : Nat} (hw : w ≤ 7) (a b : Int32) : f_R_joined (nI w) a b = some (jn_ (nI w) a b) := by
  unfold f_R_joined jn_
  rcases (show w = 0 ∨ w = 1 ∨ w = 2 ∨ w = 3 ∨ w = 4 ∨ w = 5 ∨ w = 6 ∨ w = 7 by omega) with rfl | rfl | rfl | rfl | rfl | rfl | rfl | rfl
  · rfl
  · rfl
  · rfl
  · rfl
  · rfl
  · rfl
  · show (if a ≤ b then some b else some a) = some (if a < b then b else a)
    by_cases q : a < b
    · rw [if_pos q, if_pos (Int32.le_of_lt q)]
    · rw [if_neg q]
      by_cases q2 : a ≤ b
      · rw [if_pos q2, Int32.le_antisymm q2 (Int32.not_lt.mp q)]
      · rw [if_neg q2]
  · show (if a = b then some (1 : Int32) else some 0) = some (if a = b then 1 else 0)
    split <;> rfl
theorem in_f (v lo hi : Int32) : f_R_in v lo hi = some (if lo ≤ v ∧ v ≤ hi then 1 else 0) := by
  unfold f_R_in
  by_cases q : v < lo
  · rw [if_pos q, if_neg (fun hh => Int32.not_le.mpr q hh.1)]
  · rw [if_neg q]
    by_cases q2 : hi < v
    · rw [if_pos q2, if_neg (fun hh => Int32.not_le.mpr q2 hh.2)]
    · rw [if_neg q2, if_pos ⟨Int32.not_lt.mp q, Int32.not_lt.mp q2⟩]
end REFR
