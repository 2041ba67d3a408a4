section
/-! marks by sweeps: the same sweep again and again from nothing; six bodies; seven sweeps reach what an eighth leaves -/
section SWEEP
def sw_ (φ : (Nat → Bool) → Nat → Bool) : Nat → (Nat → Bool) → (Nat → Bool)
  | 0, S => S
  | n + 1, S => va_up (sw_ φ n S) n (φ (sw_ φ n S) n)
def sw_it (φ : (Nat → Bool) → Nat → Bool) (g : Nat) : Nat → (Nat → Bool)
  | 0 => fun _ => false
  | i + 1 => sw_ φ g (sw_it φ g i)
theorem sw_ge {φ : (Nat → Bool) → Nat → Bool} {S : Nat → Bool} : ∀ {n m : Nat}, n ≤ m → sw_ φ n S m = S m := by
  intro n
  induction n with
  | zero => intro m _; rfl
  | succ n ih =>
    intro m h
    show va_up (sw_ φ n S) n _ m = S m
    rw [va_up_ne _ _ (by omega)]
    exact ih (by omega)
theorem sw_lt {φ : (Nat → Bool) → Nat → Bool} {S : Nat → Bool} : ∀ {n m : Nat}, m < n → sw_ φ n S m = φ (sw_ φ m S) m := by
  intro n
  induction n with
  | zero => intro m h; omega
  | succ n ih =>
    intro m h
    show va_up (sw_ φ n S) n _ m = _
    by_cases e : m = n
    · subst e; rw [va_up_self]
    · rw [va_up_ne _ _ e]
      exact ih (by omega)
theorem sw_cut {φ : (Nat → Bool) → Nat → Bool} {S : Nat → Bool} {n n' m : Nat} (h : m < n) (h' : m < n') : sw_ φ n S m = sw_ φ n' S m := by
  rw [sw_lt h, sw_lt h']
theorem sw_mono {φ : (Nat → Bool) → Nat → Bool} (hM : ∀ S S' : Nat → Bool, (∀ m, S m = true → S' m = true) → ∀ n, φ S n = true → φ S' n = true) {S S' : Nat → Bool} (h : ∀ m, S m = true → S' m = true) :
    ∀ n m, sw_ φ n S m = true → sw_ φ n S' m = true := by
  intro n
  induction n with
  | zero => exact h
  | succ n ih =>
    intro m
    show va_up (sw_ φ n S) n _ m = true → va_up (sw_ φ n S') n _ m = true
    by_cases e : m = n
    · subst e; rw [va_up_self, va_up_self]; exact hM _ _ ih _
    · rw [va_up_ne _ _ e, va_up_ne _ _ e]; exact ih m
theorem sw_grow {φ : (Nat → Bool) → Nat → Bool} {g : Nat} (hM : ∀ S S' : Nat → Bool, (∀ m, S m = true → S' m = true) → ∀ n, φ S n = true → φ S' n = true) :
    ∀ i m, sw_it φ g i m = true → sw_it φ g (i + 1) m = true := by
  intro i
  induction i with
  | zero => intro m h; cases h
  | succ i ih => intro m; exact sw_mono hM ih g m
/-- six marks that only grow stand still somewhere within the first seven steps -/
theorem sw_six (f : Nat → Nat → Bool) (hf : ∀ r i, f r i = true → f r (i + 1) = true) : ∃ i, i ≤ 6 ∧ ∀ r, r < 6 → f r i = f r (i + 1) := by
  apply Classical.byContradiction
  intro hno
  have hle : ∀ r i, (f r i).toNat ≤ (f r (i + 1)).toNat := by
    intro r i
    have h := hf r i
    cases h1 : f r i <;> cases h2 : f r (i + 1) <;> simp_all
  have hs : ∀ i, i ≤ 6 → (f 0 i).toNat + (f 1 i).toNat + (f 2 i).toNat + (f 3 i).toNat + (f 4 i).toNat + (f 5 i).toNat + 1 ≤ (f 0 (i + 1)).toNat + (f 1 (i + 1)).toNat + (f 2 (i + 1)).toNat + (f 3 (i + 1)).toNat + (f 4 (i + 1)).toNat + (f 5 (i + 1)).toNat := by
    intro i hi
    apply Classical.byContradiction
    intro hc
    apply hno
    refine ⟨i, hi, fun r hr => ?_⟩
    have heq : ∀ r, (f r i).toNat = (f r (i + 1)).toNat → f r i = f r (i + 1) := by
      intro r
      cases f r i <;> cases f r (i + 1) <;> simp
    apply heq
    have h0 := hle 0 i
    have h1 := hle 1 i
    have h2 := hle 2 i
    have h3 := hle 3 i
    have h4 := hle 4 i
    have h5 := hle 5 i
    rcases (show r = 0 ∨ r = 1 ∨ r = 2 ∨ r = 3 ∨ r = 4 ∨ r = 5 by omega) with rfl | rfl | rfl | rfl | rfl | rfl <;> omega
  have hb : ∀ r, (f r 7).toNat ≤ 1 := fun r => Bool.toNat_le _
  have e0 := hs 0 (by omega)
  have e1 := hs 1 (by omega)
  have e2 := hs 2 (by omega)
  have e3 := hs 3 (by omega)
  have e4 := hs 4 (by omega)
  have e5 := hs 5 (by omega)
  have e6 := hs 6 (by omega)
  simp only [Nat.reduceAdd, Nat.zero_add] at e0 e1 e2 e3 e4 e5 e6
  have b0 := hb 0
  have b1 := hb 1
  have b2 := hb 2
  have b3 := hb 3
  have b4 := hb 4
  have b5 := hb 5
  omega
/-- the step: where the bodies' marks stand still, so do all -/
theorem sw_step {φ : (Nat → Bool) → Nat → Bool} {g : Nat} {Bd : Nat → Prop} (hL : ∀ (S S' : Nat → Bool) (n : Nat), n < g → (∀ m, m < n → S m = S' m) → (∀ b, Bd b → S b = S' b) → φ S n = φ S' n) {i : Nat}
    (h : ∀ b, Bd b → sw_it φ g i b = sw_it φ g (i + 1) b) : ∀ m, sw_it φ g (i + 2) m = sw_it φ g (i + 1) m := by
  intro m
  induction m using Nat.strongRecOn with
  | _ m ih =>
    by_cases hm : m < g
    · show sw_ φ g (sw_it φ g (i + 1)) m = sw_ φ g (sw_it φ g i) m
      rw [sw_lt hm, sw_lt hm]
      have hlo : ∀ k, k < m → sw_ φ m (sw_it φ g (i + 1)) k = sw_ φ m (sw_it φ g i) k := by
        intro k hk
        rw [sw_cut hk (show k < g by omega), sw_cut (S := sw_it φ g i) hk (show k < g by omega)]
        exact ih k hk
      refine hL _ _ m hm hlo (fun b hb => ?_)
      by_cases e : b < m
      · exact hlo b e
      · rw [sw_ge (by omega), sw_ge (by omega)]
        exact (h b hb).symm
    · exact sw_ge (by omega)
theorem sw_const {φ : (Nat → Bool) → Nat → Bool} {g i : Nat} (h : ∀ m, sw_it φ g (i + 1) m = sw_it φ g i m) : ∀ k m, sw_it φ g (i + k) m = sw_it φ g i m := by
  have he : sw_it φ g (i + 1) = sw_it φ g i := funext h
  intro k
  induction k with
  | zero => intro m; rfl
  | succ k ih =>
    intro m
    have e2 : sw_it φ g (i + k) = sw_it φ g i := funext ih
    show sw_ φ g (sw_it φ g (i + k)) m = _
    rw [e2]
    exact h m
/-- seven sweeps are enough -/
theorem sw_seven {φ : (Nat → Bool) → Nat → Bool} {g : Nat} (bd : Nat → Option Nat) (hM : ∀ S S' : Nat → Bool, (∀ m, S m = true → S' m = true) → ∀ n, φ S n = true → φ S' n = true)
    (hL : ∀ (S S' : Nat → Bool) (n : Nat), n < g → (∀ m, m < n → S m = S' m) → (∀ r b, r < 6 → bd r = some b → S b = S' b) → φ S n = φ S' n) : ∀ m, sw_it φ g 8 m = sw_it φ g 7 m := by
  have hL' : ∀ (S S' : Nat → Bool) (n : Nat), n < g → (∀ m, m < n → S m = S' m) → (∀ b, (∃ r, r < 6 ∧ bd r = some b) → S b = S' b) → φ S n = φ S' n :=
    fun S S' n h1 h2 h3 => hL S S' n h1 h2 (fun r b hr hb => h3 b ⟨r, hr, hb⟩)
  obtain ⟨i, hi, hst⟩ := sw_six (fun r i => match bd r with | some b => sw_it φ g i b | none => false) (by
    intro r i
    cases hb : bd r with
    | none => simp
    | some b => simpa [hb] using sw_grow hM i b)
  have h1 : ∀ m, sw_it φ g (i + 1 + 1) m = sw_it φ g (i + 1) m := sw_step (Bd := fun b => ∃ r, r < 6 ∧ bd r = some b) hL' (by
    intro b ⟨r, hr, hb⟩
    have := hst r hr
    simpa [hb] using this)
  intro m
  have a8 := sw_const h1 (7 - i) m
  have a7 := sw_const h1 (6 - i) m
  rw [show i + 1 + (7 - i) = 8 by omega] at a8
  rw [show i + 1 + (6 - i) = 7 by omega] at a7
  rw [a8, a7]
/-- what stands still under a sweep is what the rule says at every place -/
theorem sw_fix {φ : (Nat → Bool) → Nat → Bool} {g : Nat} {S : Nat → Bool} (h : ∀ m, sw_ φ g S m = S m) {m : Nat} (hm : m < g) : S m = φ S m := by
  have e : sw_ φ m S = S := by
    funext k
    by_cases hk : k < m
    · rw [sw_cut hk (show k < g by omega)]; exact h k
    · exact sw_ge (by omega)
  have := h m
  rw [sw_lt hm, e] at this
  exact this.symm
end SWEEP
/-! which rules lead to which: two ways of closing six rows of six marks -/
section CLOSE
/-- the rows after the middle w has been passed for the first n rows -/
def cl_row (w : Nat) : Nat → (Nat → Nat → Bool) → (Nat → Nat → Bool)
  | 0, R => R
  | n + 1, R => va_up (cl_row w n R) n (fun k => if cl_row w n R n w = true then cl_row w n R n k || cl_row w n R w k else cl_row w n R n k)
def cl_all : Nat → (Nat → Nat → Bool) → (Nat → Nat → Bool)
  | 0, R => R
  | w + 1, R => cl_row w 6 (cl_all w R)
theorem cl_row_eq (w : Nat) (R : Nat → Nat → Bool) : ∀ n r k, cl_row w n R r k = if r < n ∧ R r w = true then R r k || R w k else R r k := by
  intro n
  induction n with
  | zero => intro r k; simp [cl_row]
  | succ n ih =>
    intro r k
    show va_up (cl_row w n R) n _ r k = _
    have hw : ∀ k, cl_row w n R w k = R w k := by
      intro k
      rw [ih]
      split
      · simp
      · rfl
    by_cases e : r = n
    · subst e
      rw [va_up_self]
      have h1 : ∀ k, cl_row w r R r k = R r k := fun k => by rw [ih]; simp
      simp only [h1, hw]
      simp
    · rw [va_up_ne _ _ e, ih]
      have : (r < n + 1 ∧ R r w = true) ↔ (r < n ∧ R r w = true) := by
        constructor
        · rintro ⟨a, b⟩; exact ⟨by omega, b⟩
        · rintro ⟨a, b⟩; exact ⟨by omega, b⟩
      simp only [this]
theorem cl_all_sub (R : Nat → Nat → Bool) : ∀ w r k, R r k = true → cl_all w R r k = true := by
  intro w
  induction w with
  | zero => intro r k h; exact h
  | succ w ih =>
    intro r k h
    show cl_row w 6 (cl_all w R) r k = true
    rw [cl_row_eq]
    split
    · simp [ih r k h]
    · exact ih r k h
theorem cl_all_trans (R : Nat → Nat → Bool) : ∀ w j r k, j < w → w ≤ 6 → r < 6 → cl_all w R r j = true → cl_all w R j k = true → cl_all w R r k = true := by
  intro w
  induction w with
  | zero => intro j r k h; omega
  | succ w ih =>
    intro j r k hj hw hr h1 h2
    have hj6 : j < 6 := by omega
    have e : ∀ r k, r < 6 → cl_all (w + 1) R r k = if cl_all w R r w = true then cl_all w R r k || cl_all w R w k else cl_all w R r k := by
      intro r k hr
      show cl_row w 6 (cl_all w R) r k = _
      rw [cl_row_eq]
      simp [hr]
    rw [e r j hr] at h1
    rw [e j k hj6] at h2
    rw [e r k hr]
    by_cases hjw : j = w
    · subst hjw
      by_cases a : cl_all j R r j = true
      · rw [if_pos a]
        by_cases b : cl_all j R j j = true
        · rw [if_pos b] at h2
          simp only [Bool.or_eq_true] at h2 ⊢
          rcases h2 with h2 | h2 <;> exact Or.inr h2
        · rw [if_neg b] at h2
          simp only [Bool.or_eq_true]
          exact Or.inr h2
      · rw [if_neg a] at h1
        exact absurd h1 a
    · have hjw' : j < w := by omega
      have T := ih j r
      by_cases a : cl_all w R r w = true
      · rw [if_pos a] at h1 ⊢
        simp only [Bool.or_eq_true] at h1 ⊢
        by_cases b : cl_all w R j w = true
        · rw [if_pos b] at h2
          simp only [Bool.or_eq_true] at h2
          rcases h2 with h2 | h2
          · rcases h1 with h1 | h1
            · exact Or.inl (ih j r k hjw' (by omega) hr h1 h2)
            · exact Or.inr (ih j w k hjw' (by omega) (by omega) h1 h2)
          · exact Or.inr h2
        · rw [if_neg b] at h2
          rcases h1 with h1 | h1
          · exact Or.inl (ih j r k hjw' (by omega) hr h1 h2)
          · exact Or.inr (ih j w k hjw' (by omega) (by omega) h1 h2)
      · rw [if_neg a] at h1 ⊢
        by_cases b : cl_all w R j w = true
        · exact absurd (ih j r w hjw' (by omega) hr h1 b) a
        · rw [if_neg b] at h2
          exact ih j r k hjw' (by omega) hr h1 h2
/-- nothing comes in that a closed set doesn't hold -/
theorem cl_all_least (R : Nat → Nat → Bool) : ∀ w r, w ≤ 6 → ∀ T : Nat → Bool, (∀ k, R r k = true → T k = true) → (∀ j, j < 6 → T j = true → ∀ k, R j k = true → T k = true) → ∀ k, cl_all w R r k = true → T k = true := by
  intro w
  induction w with
  | zero => intro r _ T h1 _ k h; exact h1 k h
  | succ w ih =>
    intro r hw T h1 h2 k h
    have h' : cl_row w 6 (cl_all w R) r k = true := h
    rw [cl_row_eq] at h'
    split at h'
    · next hc =>
      simp only [Bool.or_eq_true] at h'
      rcases h' with h' | h'
      · exact ih r (by omega) T h1 h2 k h'
      · have hTw : T w = true := ih r (by omega) T h1 h2 w hc.2
        exact ih w (by omega) T (h2 w (by omega) hTw) h2 k h'
    · exact ih r (by omega) T h1 h2 k h'
/-- the other way: one row, six rounds over the six rows -/
def cl_rd (R : Nat → Nat → Bool) : Nat → (Nat → Bool) → (Nat → Bool)
  | 0, s => s
  | n + 1, s => fun k => if cl_rd R n s n = true then cl_rd R n s k || R n k else cl_rd R n s k
def cl_rds (R : Nat → Nat → Bool) (s : Nat → Bool) : Nat → (Nat → Bool)
  | 0 => s
  | i + 1 => cl_rd R 6 (cl_rds R s i)
theorem cl_rd_sub (R : Nat → Nat → Bool) (s : Nat → Bool) : ∀ n k, s k = true → cl_rd R n s k = true := by
  intro n
  induction n with
  | zero => intro k h; exact h
  | succ n ih =>
    intro k h
    show (if _ then _ else _) = true
    split
    · simp [ih k h]
    · exact ih k h
theorem cl_rd_has (R : Nat → Nat → Bool) (s : Nat → Bool) : ∀ n j k, j < n → s j = true → R j k = true → cl_rd R n s k = true := by
  intro n
  induction n with
  | zero => intro j k h; omega
  | succ n ih =>
    intro j k hj hs hR
    show (if _ then _ else _) = true
    by_cases e : j = n
    · subst e
      rw [if_pos (cl_rd_sub R s j j hs)]
      simp [hR]
    · have := ih j k (by omega) hs hR
      split
      · simp [this]
      · exact this
theorem cl_rd_least (R : Nat → Nat → Bool) (T : Nat → Bool) (h2 : ∀ j, j < 6 → T j = true → ∀ k, R j k = true → T k = true) : ∀ n (s : Nat → Bool), n ≤ 6 → (∀ k, s k = true → T k = true) → ∀ k, cl_rd R n s k = true → T k = true := by
  intro n
  induction n with
  | zero => intro s _ h1 k h; exact h1 k h
  | succ n ih =>
    intro s hn h1 k h
    have h' : (if cl_rd R n s n = true then cl_rd R n s k || R n k else cl_rd R n s k) = true := h
    split at h'
    · next hc =>
      simp only [Bool.or_eq_true] at h'
      rcases h' with h' | h'
      · exact ih s (by omega) h1 k h'
      · exact h2 n (by omega) (ih s (by omega) h1 n hc) k h'
    · exact ih s (by omega) h1 k h'
theorem cl_rds_least (R : Nat → Nat → Bool) (T : Nat → Bool) (h2 : ∀ j, j < 6 → T j = true → ∀ k, R j k = true → T k = true) (s : Nat → Bool) (h1 : ∀ k, s k = true → T k = true) : ∀ i k, cl_rds R s i k = true → T k = true := by
  intro i
  induction i with
  | zero => exact h1
  | succ i ih => exact cl_rd_least R T h2 6 _ (by omega) ih
theorem cl_rds_grow (R : Nat → Nat → Bool) (s : Nat → Bool) (i k : Nat) (h : cl_rds R s i k = true) : cl_rds R s (i + 1) k = true := cl_rd_sub R _ 6 k h
theorem cl_rds_le (R : Nat → Nat → Bool) (s : Nat → Bool) (i j k : Nat) (h : cl_rds R s i k = true) : cl_rds R s (i + j) k = true := by
  induction j with
  | zero => exact h
  | succ j ih => exact cl_rds_grow R s (i + j) k ih
/-- where all six marks stand still over a round, the set is closed from then on -/
theorem cl_still (R : Nat → Nat → Bool) (s : Nat → Bool) (hR : ∀ j k, R j k = true → k < 6) (i : Nat) (h : ∀ r, r < 6 → cl_rds R s i r = cl_rds R s (i + 1) r) : ∀ n j, j < 6 → cl_rds R s (i + n) j = true → ∀ k, R j k = true → cl_rds R s i k = true := by
  have hc : ∀ j, j < 6 → cl_rds R s i j = true → ∀ k, R j k = true → cl_rds R s i k = true := by
    intro j hj hs k hk
    rw [h k (hR j k hk)]
    exact cl_rd_has R _ 6 j k hj hs hk
  have hb : ∀ n k, k < 6 → cl_rds R s (i + n) k = true → cl_rds R s i k = true := by
    intro n
    induction n with
    | zero => intro k _ h; exact h
    | succ n ih =>
      intro k hk hh
      exact cl_rd_least R (fun q => if q < 6 then cl_rds R s i q else true) (by
        intro j hj hT q hq
        simp only [hj, if_true] at hT
        have := hR j q hq
        simp only [this, if_true]
        exact hc j hj hT q hq) 6 (cl_rds R s (i + n)) (by omega) (by
        intro q hq
        by_cases q6 : q < 6
        · simp only [q6, if_true]; exact ih q q6 hq
        · simp only [q6, if_false]) k hh |> fun t => by simpa [hk] using t
  intro n j hj hs k hk
  exact hc j hj (hb n j hj hs) k hk
theorem cl_six (f : Nat → Nat → Bool) (hf : ∀ r i, f r i = true → f r (i + 1) = true) (h0 : (∀ r, r < 6 → f r 0 = false) → ∀ r, r < 6 → f r 0 = f r 1) : ∃ i, i ≤ 5 ∧ ∀ r, r < 6 → f r i = f r (i + 1) := by
  by_cases hz : ∀ r, r < 6 → f r 0 = false
  · exact ⟨0, by omega, h0 hz⟩
  apply Classical.byContradiction
  intro hno
  have hpos : 1 ≤ (f 0 0).toNat + (f 1 0).toNat + (f 2 0).toNat + (f 3 0).toNat + (f 4 0).toNat + (f 5 0).toNat := by
    apply Classical.byContradiction
    intro hc
    apply hz
    intro r hr
    have heq : ∀ b : Bool, b.toNat = 0 → b = false := by intro b; cases b <;> simp
    apply heq
    rcases (show r = 0 ∨ r = 1 ∨ r = 2 ∨ r = 3 ∨ r = 4 ∨ r = 5 by omega) with rfl | rfl | rfl | rfl | rfl | rfl <;> omega
  have hle : ∀ r i, (f r i).toNat ≤ (f r (i + 1)).toNat := by
    intro r i
    have h := hf r i
    cases h1 : f r i <;> cases h2 : f r (i + 1) <;> simp_all
  have hs : ∀ i, i ≤ 5 → (f 0 i).toNat + (f 1 i).toNat + (f 2 i).toNat + (f 3 i).toNat + (f 4 i).toNat + (f 5 i).toNat + 1 ≤ (f 0 (i + 1)).toNat + (f 1 (i + 1)).toNat + (f 2 (i + 1)).toNat + (f 3 (i + 1)).toNat + (f 4 (i + 1)).toNat + (f 5 (i + 1)).toNat := by
    intro i hi
    apply Classical.byContradiction
    intro hc
    apply hno
    refine ⟨i, hi, fun r hr => ?_⟩
    have heq : ∀ r, (f r i).toNat = (f r (i + 1)).toNat → f r i = f r (i + 1) := by
      intro r
      cases f r i <;> cases f r (i + 1) <;> simp
    apply heq
    have h0 := hle 0 i
    have h1 := hle 1 i
    have h2 := hle 2 i
    have h3 := hle 3 i
    have h4 := hle 4 i
    have h5 := hle 5 i
    rcases (show r = 0 ∨ r = 1 ∨ r = 2 ∨ r = 3 ∨ r = 4 ∨ r = 5 by omega) with rfl | rfl | rfl | rfl | rfl | rfl <;> omega
  have hb : ∀ r, (f r 6).toNat ≤ 1 := fun r => Bool.toNat_le _
  have e0 := hs 0 (by omega)
  have e1 := hs 1 (by omega)
  have e2 := hs 2 (by omega)
  have e3 := hs 3 (by omega)
  have e4 := hs 4 (by omega)
  have e5 := hs 5 (by omega)
  simp only [Nat.reduceAdd, Nat.zero_add] at e0 e1 e2 e3 e4 e5
  have b0 := hb 0
  have b1 := hb 1
  have b2 := hb 2
  have b3 := hb 3
  have b4 := hb 4
  have b5 := hb 5
  omega
theorem cl_rd_none (R : Nat → Nat → Bool) (s : Nat → Bool) (h : ∀ r, r < 6 → s r = false) : ∀ n, n ≤ 6 → ∀ k, cl_rd R n s k = s k := by
  intro n
  induction n with
  | zero => intro _ k; rfl
  | succ n ih =>
    intro hn k
    show (if cl_rd R n s n = true then _ else _) = _
    have e := ih (by omega)
    rw [e n, h n (by omega), if_neg (by decide)]
    exact e k
theorem cl_closed (R : Nat → Nat → Bool) (s : Nat → Bool) (hR : ∀ j k, R j k = true → k < 6) : ∀ j, j < 6 → cl_rds R s 6 j = true → ∀ k, R j k = true → cl_rds R s 6 k = true := by
  obtain ⟨i, hi, hst⟩ := cl_six (fun r i => cl_rds R s i r) (fun r i h => cl_rds_grow R s i r h) (by
    intro hz r hr
    exact (cl_rd_none R s hz 6 (by omega) r).symm)
  intro j hj hs k hk
  have h1 := cl_still R s hR i hst (6 - i) j hj (by rw [show i + (6 - i) = 6 by omega]; exact hs) k hk
  have h2 := cl_rds_le R s i (6 - i) k h1
  rw [show i + (6 - i) = 6 by omega] at h2
  exact h2
/-- both ways come to the same rows -/
theorem cl_eq (R : Nat → Nat → Bool) (hR : ∀ j k, R j k = true → k < 6) {r : Nat} (hr : r < 6) (k : Nat) : cl_all 6 R r k = cl_rds R (R r) 6 k := by
  have h1 : cl_all 6 R r k = true → cl_rds R (R r) 6 k = true :=
    cl_all_least R 6 r (by omega) _ (fun k h => by have := cl_rds_le R (R r) 0 6 k h; exact this) (cl_closed R (R r) hR) k
  have h2 : cl_rds R (R r) 6 k = true → cl_all 6 R r k = true :=
    cl_rds_least R (cl_all 6 R r) (fun j hj h k hk => cl_all_trans R 6 j r k hj (by omega) hr h (cl_all_sub R 6 j k hk)) (R r) (fun k h => cl_all_sub R 6 r k h) 6 k
  cases h3 : cl_all 6 R r k <;> cases h4 : cl_rds R (R r) 6 k <;> simp_all
end CLOSE
end
section
/-! the small machine over lists: frames and answers, the last first -/
section MACH
abbrev Fr_ : Type := Nat × Nat × Nat × Nat
abbrev PS_ : Type := Nat × Nat × Int32 × Nat × (Nat → Int32)
abbrev MC_ : Type := List Fr_ × List Int32 × Nat × Nat × Nat × PS_
def jn_ (way v w : Int32) : Int32 := if way = 1 then w else if way = 2 then v + w else if way = 3 then v - w else if way = 4 then v * w else if way = 5 then 10 * v + w - 48 else if way = 6 then (if v < w then w else v) else if way = 7 then (if v = w then 1 else 0) else v
def wy_ (sign : Int32) : Int32 := if sign = 43 then 2 else if sign = 45 then 3 else if sign = 42 then 4 else 0
/-- a failure at place a goes down through what stands -/
def unw_ : List Fr_ → List Int32 → Nat → Nat → Nat → PS_ → MC_
  | [], As, a, d, nx, ps => ([], As, nx, d, 2, (a, ps.2))
  | fr :: F, As, a, d, nx, ps =>
    if fr.1 = 5 ∨ (fr.1 = 2 ∧ a = fr.2.2.1) then (F, As.drop (As.length - fr.2.2.2), fr.2.1, d, 0, (fr.2.2.1, ps.2))
    else unw_ F As (if fr.1 = 3 then fr.2.2.1 else a) (if fr.1 = 1 then d - 1 else d) nx ps
/-- what a look says: the character is there and lies between -/
def lk_ (tx : Nat → Int32) (len : Nat) (pl : Nat) (lo hi : Int32) : Prop := pl < len ∧ lo ≤ tx pl ∧ tx pl ≤ hi
def mx_ (fa : Int32) (pl : Nat) : Int32 := if fa < nI pl then nI pl else fa
noncomputable def ms_ (cd : Nat → Nat × Int32 × Int32) (en : Nat → Nat) (tx : Nat → Int32) (len : Nat) (c : MC_) : MC_ :=
  let F := c.1
  let As := c.2.1
  let nx := c.2.2.1
  let d := c.2.2.2.1
  let ps := c.2.2.2.2.2
  let o := (cd nx).1
  let p := (cd nx).2.1
  let q := (cd nx).2.2
  if o = 1 then (F, p :: As, nx + 1, d, 0, ps)
  else if o = 2 then
    (if 1500 ≤ ps.2.1 then (F, As, nx + 1, d, 3, ps)
     else if ps.1 < len ∧ p ≤ tx ps.1 ∧ tx ps.1 ≤ q then (F, tx ps.1 :: As, nx + 1, d, 0, (ps.1 + 1, ps.2.1 + 1, ps.2.2))
     else unw_ F As ps.1 d (nx + 1) (ps.1, ps.2.1 + 1, mx_ ps.2.2.1 ps.1, ps.2.2.2))
  else if o = 3 then unw_ F As ps.1 d (nx + 1) ps
  else if o = 4 then ((0, nx + 1, ps.1, As.length) :: F, As, p.toNatClampNeg, d, 0, ps)
  else if o = 5 then
    (if 40 ≤ d ∨ 300 ≤ ps.2.2.2.1 then (F, As, nx + 1, d, 3, ps)
     else ((1, nx + 1, ps.1, As.length) :: F, As, en p.toNatClampNeg, d + 1, 0, (ps.1, ps.2.1, ps.2.2.1, ps.2.2.2.1 + 1, ps.2.2.2.2)))
  else if o = 6 then (F.tail, As, (F.headD (0, 0, 0, 0)).2.1, (if (F.headD (0, 0, 0, 0)).1 = 1 then d - 1 else d), 0, ps)
  else if o = 7 then (F, jn_ p (As.tail.headD 0) (As.headD 0) :: As.tail.tail, nx + 1, d, 0, ps)
  else if o = 8 then (F, jn_ (wy_ (As.tail.headD 0)) (As.tail.tail.headD 0) (As.headD 0) :: As.tail.tail.tail, nx + 1, d, 0, ps)
  else if o = 9 then ((p.toNatClampNeg, q.toNatClampNeg, ps.1, As.length) :: F, As, nx + 1, d, 0, ps)
  else if o = 10 then (F.tail, As, nx + 1, d, 0, ps)
  else if o = 11 then (F.tail, As, nx + 1, d, 0, ((F.headD (0, 0, 0, 0)).2.2.1, ps.2))
  else if o = 12 then (((F.headD (0, 0, 0, 0)).1, (F.headD (0, 0, 0, 0)).2.1, ps.1, (F.headD (0, 0, 0, 0)).2.2.2) :: F.tail, As, p.toNatClampNeg, d, 0, ps)
  else if o = 13 then (F, As, nx + 1, d, 0, (ps.1, ps.2.1, ps.2.2.1, ps.2.2.2.1, va_up ps.2.2.2.2 p.toNatClampNeg (As.headD 0)))
  else if o = 14 then (F, ps.2.2.2.2 p.toNatClampNeg :: As, nx + 1, d, 0, ps)
  else (F, As, nx + 1, d, 1, ps)
/-- k steps, each from a state that runs and has room -/
def Go_ (cd : Nat → Nat × Int32 × Int32) (en : Nat → Nat) (tx : Nat → Int32) (len : Nat) : Nat → MC_ → MC_ → Prop
  | 0, c, c' => c = c'
  | k + 1, c, c' => (c.2.2.2.2.1 = 0 ∧ c.1.length < 640 ∧ c.2.1.length < 641) ∧ Go_ cd en tx len k (ms_ cd en tx len c) c'
variable {cd : Nat → Nat × Int32 × Int32} {en : Nat → Nat} {tx : Nat → Int32} {len : Nat}
theorem go_tr : ∀ {j k : Nat} {a b c : MC_}, Go_ cd en tx len j a b → Go_ cd en tx len k b c → Go_ cd en tx len (j + k) a c := by
  intro j
  induction j with
  | zero => intro k a b c h1 h2; cases h1; rw [Nat.zero_add]; exact h2
  | succ j ih =>
    intro k a b c h1 h2
    rw [Nat.succ_add]
    exact ⟨h1.1, ih h1.2 h2⟩
theorem go_1 {k : Nat} {F : List Fr_} {As : List Int32} {nx d : Nat} {ps : PS_} {c1 c' : MC_} (hF : F.length < 640) (hA : As.length < 641) (h1 : ms_ cd en tx len (F, As, nx, d, 0, ps) = c1) (hk : Go_ cd en tx len k c1 c') : Go_ cd en tx len (k + 1) (F, As, nx, d, 0, ps) c' :=
  ⟨⟨rfl, hF, hA⟩, by rw [h1]; exact hk⟩
theorem go_e {k j : Nat} {a b : MC_} (h : Go_ cd en tx len k a b) (e : k = j) : Go_ cd en tx len j a b := e ▸ h
section OPS
variable {F : List Fr_} {As : List Int32} {nx d : Nat} {ps : PS_} {p q : Int32}
theorem ms_give (h : cd nx = (1, p, q)) : ms_ cd en tx len (F, As, nx, d, 0, ps) = (F, p :: As, nx + 1, d, 0, ps) := by simp [ms_, h]
theorem ms_take0 (h : cd nx = (2, p, q)) (hl : 1500 ≤ ps.2.1) : ms_ cd en tx len (F, As, nx, d, 0, ps) = (F, As, nx + 1, d, 3, ps) := by simp [ms_, h, hl]
theorem ms_take1 (h : cd nx = (2, p, q)) (hl : ¬ 1500 ≤ ps.2.1) (hc : lk_ tx len ps.1 p q) : ms_ cd en tx len (F, As, nx, d, 0, ps) = (F, tx ps.1 :: As, nx + 1, d, 0, (ps.1 + 1, ps.2.1 + 1, ps.2.2)) := by
  unfold lk_ at hc
  simp [ms_, h, hl, hc]
theorem ms_take2 (h : cd nx = (2, p, q)) (hl : ¬ 1500 ≤ ps.2.1) (hc : ¬ lk_ tx len ps.1 p q) : ms_ cd en tx len (F, As, nx, d, 0, ps) = unw_ F As ps.1 d (nx + 1) (ps.1, ps.2.1 + 1, mx_ ps.2.2.1 ps.1, ps.2.2.2) := by
  unfold lk_ at hc
  simp only [ms_, h]
  rw [if_neg (by decide), if_pos trivial, if_neg hl, if_neg hc]
theorem ms_refuse (h : cd nx = (3, p, q)) : ms_ cd en tx len (F, As, nx, d, 0, ps) = unw_ F As ps.1 d (nx + 1) ps := by simp [ms_, h]
theorem ms_call (h : cd nx = (4, p, q)) : ms_ cd en tx len (F, As, nx, d, 0, ps) = ((0, nx + 1, ps.1, As.length) :: F, As, p.toNatClampNeg, d, 0, ps) := by simp [ms_, h]
theorem ms_body0 (h : cd nx = (5, p, q)) (hl : 40 ≤ d ∨ 300 ≤ ps.2.2.2.1) : ms_ cd en tx len (F, As, nx, d, 0, ps) = (F, As, nx + 1, d, 3, ps) := by simp [ms_, h, hl]
theorem ms_body1 (h : cd nx = (5, p, q)) (hl : ¬ (40 ≤ d ∨ 300 ≤ ps.2.2.2.1)) : ms_ cd en tx len (F, As, nx, d, 0, ps) = ((1, nx + 1, ps.1, As.length) :: F, As, en p.toNatClampNeg, d + 1, 0, (ps.1, ps.2.1, ps.2.2.1, ps.2.2.2.1 + 1, ps.2.2.2.2)) := by
  simp only [ms_, h]
  rw [if_neg (by decide), if_neg (by decide), if_neg (by decide), if_neg (by decide), if_pos trivial, if_neg hl]
theorem ms_ret {fr : Fr_} (h : cd nx = (6, p, q)) : ms_ cd en tx len (fr :: F, As, nx, d, 0, ps) = (F, As, fr.2.1, (if fr.1 = 1 then d - 1 else d), 0, ps) := by simp [ms_, h]
theorem ms_join {v w : Int32} (h : cd nx = (7, p, q)) : ms_ cd en tx len (F, w :: v :: As, nx, d, 0, ps) = (F, jn_ p v w :: As, nx + 1, d, 0, ps) := by simp [ms_, h]
theorem ms_link {v w y : Int32} (h : cd nx = (8, p, q)) : ms_ cd en tx len (F, w :: y :: v :: As, nx, d, 0, ps) = (F, jn_ (wy_ y) v w :: As, nx + 1, d, 0, ps) := by simp [ms_, h]
theorem ms_guard (h : cd nx = (9, p, q)) : ms_ cd en tx len (F, As, nx, d, 0, ps) = ((p.toNatClampNeg, q.toNatClampNeg, ps.1, As.length) :: F, As, nx + 1, d, 0, ps) := by simp [ms_, h]
theorem ms_unguard {fr : Fr_} (h : cd nx = (10, p, q)) : ms_ cd en tx len (fr :: F, As, nx, d, 0, ps) = (F, As, nx + 1, d, 0, ps) := by simp [ms_, h]
theorem ms_rewind {fr : Fr_} (h : cd nx = (11, p, q)) : ms_ cd en tx len (fr :: F, As, nx, d, 0, ps) = (F, As, nx + 1, d, 0, (fr.2.2.1, ps.2)) := by simp [ms_, h]
theorem ms_again {fr : Fr_} (h : cd nx = (12, p, q)) : ms_ cd en tx len (fr :: F, As, nx, d, 0, ps) = ((fr.1, fr.2.1, ps.1, fr.2.2.2) :: F, As, p.toNatClampNeg, d, 0, ps) := by simp [ms_, h]
theorem ms_store {v : Int32} (h : cd nx = (13, p, q)) : ms_ cd en tx len (F, v :: As, nx, d, 0, ps) = (F, v :: As, nx + 1, d, 0, (ps.1, ps.2.1, ps.2.2.1, ps.2.2.2.1, va_up ps.2.2.2.2 p.toNatClampNeg v)) := by simp [ms_, h]
theorem ms_fetch (h : cd nx = (14, p, q)) : ms_ cd en tx len (F, As, nx, d, 0, ps) = (F, ps.2.2.2.2 p.toNatClampNeg :: As, nx + 1, d, 0, ps) := by simp [ms_, h]
theorem ms_end (h : cd nx = (0, p, q)) : ms_ cd en tx len (F, As, nx, d, 0, ps) = (F, As, nx + 1, d, 1, ps) := by simp [ms_, h]
end OPS
/-- going down through a frame that doesn't stop a failure -/
theorem unw_call {F : List Fr_} {As : List Int32} {a d nx t pl h : Nat} {ps : PS_} : unw_ ((0, t, pl, h) :: F) As a d nx ps = unw_ F As a d nx ps := by simp [unw_]
theorem unw_body {F : List Fr_} {As : List Int32} {a d nx t pl h : Nat} {ps : PS_} : unw_ ((1, t, pl, h) :: F) As a (d + 1) nx ps = unw_ F As a d nx ps := by simp [unw_]
theorem unw_try {F : List Fr_} {As : List Int32} {a d nx t pl h : Nat} {ps : PS_} : unw_ ((3, t, pl, h) :: F) As a d nx ps = unw_ F As pl d nx ps := by simp [unw_]
theorem unw_let {F : List Fr_} {As : List Int32} {a d nx t pl h : Nat} {ps : PS_} : unw_ ((4, t, pl, h) :: F) As a d nx ps = unw_ F As a d nx ps := by simp [unw_]
theorem unw_not {F : List Fr_} {As : List Int32} {a d nx t pl h : Nat} {ps : PS_} : unw_ ((5, t, pl, h) :: F) As a d nx ps = (F, As.drop (As.length - h), t, d, 0, (pl, ps.2)) := by simp [unw_]
theorem unw_or1 {F : List Fr_} {As : List Int32} {d nx t pl h : Nat} {ps : PS_} : unw_ ((2, t, pl, h) :: F) As pl d nx ps = (F, As.drop (As.length - h), t, d, 0, (pl, ps.2)) := by simp [unw_]
theorem unw_or2 {F : List Fr_} {As : List Int32} {a d nx t pl h : Nat} {ps : PS_} (hne : a ≠ pl) : unw_ ((2, t, pl, h) :: F) As a d nx ps = unw_ F As a d nx ps := by simp [unw_, hne]
/-- a failure's place is what it is told; the place that stood doesn't matter -/
theorem unw_ps : ∀ {F : List Fr_} {As : List Int32} {a d nx : Nat} {ps ps' : PS_}, ps.2 = ps'.2 → unw_ F As a d nx ps = unw_ F As a d nx ps' := by
  intro F
  induction F with
  | nil => intro As a d nx ps ps' h; simp [unw_, h]
  | cons fr F ih =>
    intro As a d nx ps ps' h
    simp only [unw_, h]
    split
    · rfl
    · exact ih h
theorem drop_top (X As : List Int32) : (X ++ As).drop ((X ++ As).length - As.length) = As := by
  rw [List.length_append, Nat.add_sub_cancel, List.drop_left]
/-- what the machine does with a node's piece of code: r = 1 it gives v, r = 0 it fails at the place of ps', r = 2 it is tired; in k steps -/
def CS_ (cd : Nat → Nat × Int32 × Int32) (en : Nat → Nat) (tx : Nat → Int32) (len : Nat) (pc hg : Nat → Nat) (n d : Nat) (ps : PS_) (r : Nat) (v : Int32) (ps' : PS_) (k : Nat) : Prop :=
  ∀ (fr : Fr_) (F : List Fr_) (As : List Int32), F.length + 1 + 2 * (hg n - 1) ≤ 15 * d → As.length + 2 * (hg n - 1) ≤ 14 * d → d ≤ 40 →
    (r = 1 → Go_ cd en tx len k (fr :: F, As, pc n, d, 0, ps) (F, v :: As, fr.2.1, (if fr.1 = 1 then d - 1 else d), 0, ps')) ∧
    (r = 0 → ∃ X nx, Go_ cd en tx len k (fr :: F, As, pc n, d, 0, ps) (unw_ (fr :: F) (X ++ As) ps'.1 d nx ps')) ∧
    (r = 2 → ∃ c', Go_ cd en tx len k (fr :: F, As, pc n, d, 0, ps) c' ∧ c'.2.2.2.2.1 = 3 ∧ c'.2.2.2.2.2.2 = ps'.2)
variable {pc hg : Nat → Nat}
/-- a part is called from frames G -/
theorem cs_part {x d nx r k : Nat} {ps ps' : PS_} {v p q : Int32} {G : List Fr_} {As : List Int32} (hc : cd nx = (4, p, q)) (hp : p.toNatClampNeg = pc x) (hx : CS_ cd en tx len pc hg x d ps r v ps' k)
    (hG : G.length + 1 + 2 * (hg x - 1) ≤ 15 * d) (hA : As.length + 2 * (hg x - 1) ≤ 14 * d) (hd : d ≤ 40) :
    (r = 1 → Go_ cd en tx len (k + 1) (G, As, nx, d, 0, ps) (G, v :: As, nx + 1, d, 0, ps')) ∧
    (r = 0 → ∃ X nx', Go_ cd en tx len (k + 1) (G, As, nx, d, 0, ps) (unw_ G (X ++ As) ps'.1 d nx' ps')) ∧
    (r = 2 → ∃ c', Go_ cd en tx len (k + 1) (G, As, nx, d, 0, ps) c' ∧ c'.2.2.2.2.1 = 3 ∧ c'.2.2.2.2.2.2 = ps'.2) := by
  obtain ⟨h1, h0, h2⟩ := hx (0, nx + 1, ps.1, As.length) G As hG hA hd
  have hm := ms_call (en := en) (tx := tx) (len := len) (F := G) (As := As) (d := d) (ps := ps) hc
  rw [hp] at hm
  refine ⟨fun e => ?_, fun e => ?_, fun e => ?_⟩
  · exact go_1 (by omega) (by omega) hm (h1 e)
  · obtain ⟨X, nx', h⟩ := h0 e
    exact ⟨X, nx', go_1 (by omega) (by omega) hm (by rw [unw_call] at h; exact h)⟩
  · obtain ⟨c', h, a, b⟩ := h2 e
    exact ⟨c', go_1 (by omega) (by omega) hm h, a, b⟩
theorem go_ret {k nx d : Nat} {p q : Int32} {fr : Fr_} {F : List Fr_} {As : List Int32} {ps : PS_} {a : MC_} (hc : cd nx = (6, p, q)) (hF : F.length < 639) (hA : As.length < 641) (h : Go_ cd en tx len k a (fr :: F, As, nx, d, 0, ps)) :
    Go_ cd en tx len (k + 1) a (F, As, fr.2.1, (if fr.1 = 1 then d - 1 else d), 0, ps) :=
  go_tr h (go_1 (k := 0) (by simp; omega) hA (ms_ret hc) rfl)
section KINDS
variable {n d : Nat} {ps : PS_}
theorem cs_pure {p q p1 q1 : Int32} (h0 : cd (pc n) = (1, p, q)) (h1 : cd (pc n + 1) = (6, p1, q1)) : CS_ cd en tx len pc hg n d ps 1 p ps 2 := by
  intro fr F As hF hA hd
  refine ⟨fun _ => ?_, fun e => by omega, fun e => by omega⟩
  exact go_ret h1 (by omega) (by simp; omega) (go_1 (k := 0) (by simp; omega) (by omega) (ms_give h0) rfl)
theorem cs_kept {p q p1 q1 : Int32} (h0 : cd (pc n) = (14, p, q)) (h1 : cd (pc n + 1) = (6, p1, q1)) : CS_ cd en tx len pc hg n d ps 1 (ps.2.2.2.2 p.toNatClampNeg) ps 2 := by
  intro fr F As hF hA hd
  refine ⟨fun _ => ?_, fun e => by omega, fun e => by omega⟩
  exact go_ret h1 (by omega) (by simp; omega) (go_1 (k := 0) (by simp; omega) (by omega) (ms_fetch h0) rfl)
theorem cs_none {p q : Int32} (h0 : cd (pc n) = (3, p, q)) : CS_ cd en tx len pc hg n d ps 0 0 ps 1 := by
  intro fr F As hF hA hd
  refine ⟨fun e => by omega, fun _ => ?_, fun e => by omega⟩
  exact ⟨[], pc n + 1, go_1 (k := 0) (by simp; omega) (by omega) (ms_refuse h0) rfl⟩
theorem cs_look1 {p q p1 q1 : Int32} (h0 : cd (pc n) = (2, p, q)) (h1 : cd (pc n + 1) = (6, p1, q1)) (hl : ¬ 1500 ≤ ps.2.1) (hc : lk_ tx len ps.1 p q) : CS_ cd en tx len pc hg n d ps 1 (tx ps.1) (ps.1 + 1, ps.2.1 + 1, ps.2.2) 2 := by
  intro fr F As hF hA hd
  refine ⟨fun _ => ?_, fun e => by omega, fun e => by omega⟩
  exact go_ret h1 (by omega) (by simp; omega) (go_1 (k := 0) (by simp; omega) (by omega) (ms_take1 h0 hl hc) rfl)
theorem cs_look0 {p q : Int32} (h0 : cd (pc n) = (2, p, q)) (hl : ¬ 1500 ≤ ps.2.1) (hc : ¬ lk_ tx len ps.1 p q) : CS_ cd en tx len pc hg n d ps 0 0 (ps.1, ps.2.1 + 1, mx_ ps.2.2.1 ps.1, ps.2.2.2) 1 := by
  intro fr F As hF hA hd
  refine ⟨fun e => by omega, fun _ => ?_, fun e => by omega⟩
  exact ⟨[], pc n + 1, go_1 (k := 0) (by simp; omega) (by omega) (ms_take2 h0 hl hc) rfl⟩
theorem cs_look2 {p q : Int32} (h0 : cd (pc n) = (2, p, q)) (hl : 1500 ≤ ps.2.1) : CS_ cd en tx len pc hg n d ps 2 0 ps 1 := by
  intro fr F As hF hA hd
  refine ⟨fun e => by omega, fun e => by omega, fun _ => ?_⟩
  exact ⟨_, go_1 (k := 0) (by simp; omega) (by omega) (ms_take0 h0 hl) rfl, rfl, rfl⟩
/-- a part that ends the whole as it ended itself: a failure, or tired -/
theorem cs_stop {x r k j nx : Nat} {ps1 ps' : PS_} {v v' p q : Int32} (hr : r ≠ 1) (hc : cd nx = (4, p, q)) (hp : p.toNatClampNeg = pc x) (hx : CS_ cd en tx len pc hg x d ps1 r v ps' k) (hh : hg x + 1 ≤ hg n) (hx1 : 1 ≤ hg x)
    (ha : ∀ (fr : Fr_) (F : List Fr_) (As : List Int32), F.length + 1 + 2 * (hg n - 1) ≤ 15 * d → As.length + 2 * (hg n - 1) ≤ 14 * d → d ≤ 40 → ∃ Y : List Int32, Y.length ≤ 2 ∧ Go_ cd en tx len j (fr :: F, As, pc n, d, 0, ps) (fr :: F, Y ++ As, nx, d, 0, ps1)) :
    CS_ cd en tx len pc hg n d ps r v' ps' (j + (k + 1)) := by
  intro fr F As hF hA hd
  obtain ⟨Y, hY, g0⟩ := ha fr F As hF hA hd
  obtain ⟨h1, h0, h2⟩ := cs_part (G := fr :: F) (As := Y ++ As) hc hp hx (by simp; omega) (by simp; omega) hd
  refine ⟨fun e => absurd e hr, fun e => ?_, fun e => ?_⟩
  · obtain ⟨X, nx', h⟩ := h0 e
    exact ⟨X ++ Y, nx', by rw [List.append_assoc]; exact go_tr g0 h⟩
  · obtain ⟨c', h, a, b⟩ := h2 e
    exact ⟨c', go_tr g0 h, a, b⟩
theorem cs_then1 {x y k1 k2 : Nat} {p1 p2 : PS_} {v1 v2 a0 b0 a1 b1 a2 b2 a3 b3 : Int32} (c0 : cd (pc n) = (4, a0, b0)) (c1 : cd (pc n + 1) = (4, a1, b1)) (c2 : cd (pc n + 2) = (7, a2, b2)) (c3 : cd (pc n + 3) = (6, a3, b3))
    (e0 : a0.toNatClampNeg = pc x) (e1 : a1.toNatClampNeg = pc y) (hx : CS_ cd en tx len pc hg x d ps 1 v1 p1 k1) (hy : CS_ cd en tx len pc hg y d p1 1 v2 p2 k2) (h1 : hg x + 1 ≤ hg n) (h2 : hg y + 1 ≤ hg n) (h3 : 1 ≤ hg x) (h4 : 1 ≤ hg y) :
    CS_ cd en tx len pc hg n d ps 1 (jn_ a2 v1 v2) p2 (k1 + k2 + 4) := by
  intro fr F As hF hA hd
  refine ⟨fun _ => ?_, fun e => by omega, fun e => by omega⟩
  have g1 := (cs_part (G := fr :: F) (As := As) c0 e0 hx (by simp; omega) (by omega) hd).1 rfl
  have g2 := (cs_part (G := fr :: F) (As := v1 :: As) c1 e1 hy (by simp; omega) (by simp; omega) hd).1 rfl
  have g3 : Go_ cd en tx len 1 (fr :: F, v2 :: v1 :: As, pc n + 1 + 1, d, 0, p2) (fr :: F, jn_ a2 v1 v2 :: As, pc n + 1 + 1 + 1, d, 0, p2) := go_1 (k := 0) (by simp; omega) (by simp; omega) (ms_join c2) rfl
  exact go_e (go_ret c3 (by omega) (by simp; omega) (go_tr g1 (go_tr g2 g3))) (by omega)
theorem cs_then0 {x y k1 k2 r : Nat} {p1 p2 : PS_} {v1 v2 a0 b0 a1 b1 : Int32} (hr : r ≠ 1) (c0 : cd (pc n) = (4, a0, b0)) (c1 : cd (pc n + 1) = (4, a1, b1))
    (e0 : a0.toNatClampNeg = pc x) (e1 : a1.toNatClampNeg = pc y) (hx : CS_ cd en tx len pc hg x d ps 1 v1 p1 k1) (hy : CS_ cd en tx len pc hg y d p1 r v2 p2 k2) (h1 : hg x + 1 ≤ hg n) (h2 : hg y + 1 ≤ hg n) (h3 : 1 ≤ hg x) (h4 : 1 ≤ hg y) :
    CS_ cd en tx len pc hg n d ps r 0 p2 (k1 + 1 + (k2 + 1)) := by
  refine cs_stop hr c1 e1 hy h2 h4 (fun fr F As hF hA hd => ⟨[v1], by simp, ?_⟩)
  exact (cs_part (G := fr :: F) (As := As) c0 e0 hx (by simp; omega) (by omega) hd).1 rfl
theorem cs_first0 {x k1 r : Nat} {p1 : PS_} {v1 a0 b0 : Int32} (hr : r ≠ 1) (c0 : cd (pc n) = (4, a0, b0)) (e0 : a0.toNatClampNeg = pc x) (hx : CS_ cd en tx len pc hg x d ps r v1 p1 k1) (h1 : hg x + 1 ≤ hg n) (h3 : 1 ≤ hg x) :
    CS_ cd en tx len pc hg n d ps r 0 p1 (0 + (k1 + 1)) := by
  refine cs_stop hr c0 e0 hx h1 h3 (fun fr F As hF hA hd => ⟨[], by simp, ?_⟩)
  exact rfl
theorem cs_keep {x k1 : Nat} {p1 : PS_} {v1 a0 b0 a1 b1 a2 b2 : Int32} (c0 : cd (pc n) = (4, a0, b0)) (c1 : cd (pc n + 1) = (13, a1, b1)) (c2 : cd (pc n + 2) = (6, a2, b2)) (e0 : a0.toNatClampNeg = pc x) (hx : CS_ cd en tx len pc hg x d ps 1 v1 p1 k1) (h1 : hg x + 1 ≤ hg n) (h3 : 1 ≤ hg x) :
    CS_ cd en tx len pc hg n d ps 1 v1 (p1.1, p1.2.1, p1.2.2.1, p1.2.2.2.1, va_up p1.2.2.2.2 a1.toNatClampNeg v1) (k1 + 3) := by
  intro fr F As hF hA hd
  refine ⟨fun _ => ?_, fun e => by omega, fun e => by omega⟩
  have g1 := (cs_part (G := fr :: F) (As := As) c0 e0 hx (by simp; omega) (by omega) hd).1 rfl
  have g2 : Go_ cd en tx len 1 (fr :: F, v1 :: As, pc n + 1, d, 0, p1) _ := go_1 (k := 0) (by simp; omega) (by simp; omega) (ms_store c1) rfl
  exact go_e (go_ret c2 (by omega) (by simp; omega) (go_tr g1 g2)) (by omega)
/-- a guarded part: GUARD, the part, and what comes behind it -/
theorem cs_guard {x k1 r : Nat} {p1 : PS_} {v1 a0 b0 a1 b1 : Int32} (c0 : cd (pc n) = (9, a0, b0)) (c1 : cd (pc n + 1) = (4, a1, b1)) (e1 : a1.toNatClampNeg = pc x) (hx : CS_ cd en tx len pc hg x d ps r v1 p1 k1) (h1 : hg x + 1 ≤ hg n) (h3 : 1 ≤ hg x)
    {fr : Fr_} {F : List Fr_} {As : List Int32} (hF : F.length + 1 + 2 * (hg n - 1) ≤ 15 * d) (hA : As.length + 2 * (hg n - 1) ≤ 14 * d) (hd : d ≤ 40) :
    (r = 1 → Go_ cd en tx len (k1 + 2) (fr :: F, As, pc n, d, 0, ps) ((a0.toNatClampNeg, b0.toNatClampNeg, ps.1, As.length) :: fr :: F, v1 :: As, pc n + 2, d, 0, p1)) ∧
    (r = 0 → ∃ X nx', Go_ cd en tx len (k1 + 2) (fr :: F, As, pc n, d, 0, ps) (unw_ ((a0.toNatClampNeg, b0.toNatClampNeg, ps.1, As.length) :: fr :: F) (X ++ As) p1.1 d nx' p1)) ∧
    (r = 2 → ∃ c', Go_ cd en tx len (k1 + 2) (fr :: F, As, pc n, d, 0, ps) c' ∧ c'.2.2.2.2.1 = 3 ∧ c'.2.2.2.2.2.2 = p1.2) := by
  have hm := ms_guard (en := en) (tx := tx) (len := len) (F := fr :: F) (As := As) (d := d) (ps := ps) c0
  obtain ⟨q1, q0, q2⟩ := cs_part (G := (a0.toNatClampNeg, b0.toNatClampNeg, ps.1, As.length) :: fr :: F) (As := As) c1 e1 hx (by simp; omega) (by omega) hd
  refine ⟨fun e => ?_, fun e => ?_, fun e => ?_⟩
  · exact go_1 (by simp; omega) (by omega) hm (q1 e)
  · obtain ⟨X, nx', h⟩ := q0 e
    exact ⟨X, nx', go_1 (by simp; omega) (by omega) hm h⟩
  · obtain ⟨c', h, a, b⟩ := q2 e
    exact ⟨c', go_1 (by simp; omega) (by omega) hm h, a, b⟩
theorem cs_try1 {x k1 : Nat} {p1 : PS_} {v1 a0 b0 a1 b1 a2 b2 a3 b3 : Int32} (c0 : cd (pc n) = (9, a0, b0)) (c1 : cd (pc n + 1) = (4, a1, b1)) (c2 : cd (pc n + 2) = (10, a2, b2)) (c3 : cd (pc n + 3) = (6, a3, b3)) (e1 : a1.toNatClampNeg = pc x) (hx : CS_ cd en tx len pc hg x d ps 1 v1 p1 k1) (h1 : hg x + 1 ≤ hg n) (h3 : 1 ≤ hg x) :
    CS_ cd en tx len pc hg n d ps 1 v1 p1 (k1 + 4) := by
  intro fr F As hF hA hd
  refine ⟨fun _ => ?_, fun e => by omega, fun e => by omega⟩
  have g1 := (cs_guard c0 c1 e1 hx h1 h3 hF hA hd (fr := fr)).1 rfl
  have g2 : Go_ cd en tx len 1 ((a0.toNatClampNeg, b0.toNatClampNeg, ps.1, As.length) :: fr :: F, v1 :: As, pc n + 2, d, 0, p1) (fr :: F, v1 :: As, pc n + 3, d, 0, p1) := go_1 (k := 0) (by simp; omega) (by simp; omega) (ms_unguard c2) rfl
  exact go_e (go_ret c3 (by omega) (by simp; omega) (go_tr g1 g2)) (by omega)
theorem cs_try0 {x k1 : Nat} {p1 : PS_} {v1 a0 b0 a1 b1 : Int32} (c0 : cd (pc n) = (9, a0, b0)) (c1 : cd (pc n + 1) = (4, a1, b1)) (e0 : a0.toNatClampNeg = 3) (e1 : a1.toNatClampNeg = pc x) (hx : CS_ cd en tx len pc hg x d ps 0 v1 p1 k1) (h1 : hg x + 1 ≤ hg n) (h3 : 1 ≤ hg x) :
    CS_ cd en tx len pc hg n d ps 0 0 (ps.1, p1.2) (k1 + 2) := by
  intro fr F As hF hA hd
  refine ⟨fun e => by omega, fun _ => ?_, fun e => by omega⟩
  obtain ⟨X, nx', h⟩ := (cs_guard c0 c1 e1 hx h1 h3 hF hA hd (fr := fr)).2.1 rfl
  rw [e0, unw_try] at h
  exact ⟨X, nx', by rw [unw_ps (ps := (ps.1, p1.2)) (ps' := p1) rfl]; exact h⟩
theorem cs_guard2 {x k1 : Nat} {p1 : PS_} {v1 a0 b0 a1 b1 : Int32} (c0 : cd (pc n) = (9, a0, b0)) (c1 : cd (pc n + 1) = (4, a1, b1)) (e1 : a1.toNatClampNeg = pc x) (hx : CS_ cd en tx len pc hg x d ps 2 v1 p1 k1) (h1 : hg x + 1 ≤ hg n) (h3 : 1 ≤ hg x) :
    CS_ cd en tx len pc hg n d ps 2 0 p1 (k1 + 2) := by
  intro fr F As hF hA hd
  refine ⟨fun e => by omega, fun e => by omega, fun _ => ?_⟩
  exact (cs_guard c0 c1 e1 hx h1 h3 hF hA hd (fr := fr)).2.2 rfl
theorem cs_look_1 {x k1 : Nat} {p1 : PS_} {v1 a0 b0 a1 b1 a2 b2 a3 b3 : Int32} (c0 : cd (pc n) = (9, a0, b0)) (c1 : cd (pc n + 1) = (4, a1, b1)) (c2 : cd (pc n + 2) = (11, a2, b2)) (c3 : cd (pc n + 3) = (6, a3, b3)) (e1 : a1.toNatClampNeg = pc x) (hx : CS_ cd en tx len pc hg x d ps 1 v1 p1 k1) (h1 : hg x + 1 ≤ hg n) (h3 : 1 ≤ hg x) :
    CS_ cd en tx len pc hg n d ps 1 v1 (ps.1, p1.2) (k1 + 4) := by
  intro fr F As hF hA hd
  refine ⟨fun _ => ?_, fun e => by omega, fun e => by omega⟩
  have g1 := (cs_guard c0 c1 e1 hx h1 h3 hF hA hd (fr := fr)).1 rfl
  have g2 : Go_ cd en tx len 1 ((a0.toNatClampNeg, b0.toNatClampNeg, ps.1, As.length) :: fr :: F, v1 :: As, pc n + 2, d, 0, p1) (fr :: F, v1 :: As, pc n + 3, d, 0, (ps.1, p1.2)) := go_1 (k := 0) (by simp; omega) (by simp; omega) (ms_rewind c2) rfl
  exact go_e (go_ret c3 (by omega) (by simp; omega) (go_tr g1 g2)) (by omega)
theorem cs_look_0 {x k1 : Nat} {p1 : PS_} {v1 a0 b0 a1 b1 : Int32} (c0 : cd (pc n) = (9, a0, b0)) (c1 : cd (pc n + 1) = (4, a1, b1)) (e0 : a0.toNatClampNeg = 4) (e1 : a1.toNatClampNeg = pc x) (hx : CS_ cd en tx len pc hg x d ps 0 v1 p1 k1) (h1 : hg x + 1 ≤ hg n) (h3 : 1 ≤ hg x) :
    CS_ cd en tx len pc hg n d ps 0 0 p1 (k1 + 2) := by
  intro fr F As hF hA hd
  refine ⟨fun e => by omega, fun _ => ?_, fun e => by omega⟩
  obtain ⟨X, nx', h⟩ := (cs_guard c0 c1 e1 hx h1 h3 hF hA hd (fr := fr)).2.1 rfl
  rw [e0, unw_let] at h
  exact ⟨X, nx', h⟩
theorem cs_not1 {x k1 : Nat} {p1 : PS_} {v1 a0 b0 a1 b1 a2 b2 a3 b3 : Int32} (c0 : cd (pc n) = (9, a0, b0)) (c1 : cd (pc n + 1) = (4, a1, b1)) (c2 : cd (pc n + 2) = (11, a2, b2)) (c3 : cd (pc n + 3) = (3, a3, b3)) (e1 : a1.toNatClampNeg = pc x) (hx : CS_ cd en tx len pc hg x d ps 1 v1 p1 k1) (h1 : hg x + 1 ≤ hg n) (h3 : 1 ≤ hg x) :
    CS_ cd en tx len pc hg n d ps 0 0 (ps.1, p1.2) (k1 + 4) := by
  intro fr F As hF hA hd
  refine ⟨fun e => by omega, fun _ => ?_, fun e => by omega⟩
  have g1 := (cs_guard c0 c1 e1 hx h1 h3 hF hA hd (fr := fr)).1 rfl
  have g2 : Go_ cd en tx len 1 ((a0.toNatClampNeg, b0.toNatClampNeg, ps.1, As.length) :: fr :: F, v1 :: As, pc n + 2, d, 0, p1) (fr :: F, v1 :: As, pc n + 3, d, 0, (ps.1, p1.2)) := go_1 (k := 0) (by simp; omega) (by simp; omega) (ms_rewind c2) rfl
  have g3 : Go_ cd en tx len 1 (fr :: F, v1 :: As, pc n + 3, d, 0, (ps.1, p1.2)) _ := go_1 (k := 0) (by simp; omega) (by simp; omega) (ms_refuse c3) rfl
  exact ⟨[v1], pc n + 3 + 1, go_e (go_tr g1 (go_tr g2 g3)) (by omega)⟩
theorem cs_not0 {x k1 t : Nat} {p1 : PS_} {v1 a0 b0 a1 b1 a4 b4 a5 b5 : Int32} (c0 : cd (pc n) = (9, a0, b0)) (c1 : cd (pc n + 1) = (4, a1, b1)) (c4 : cd t = (1, a4, b4)) (c5 : cd (t + 1) = (6, a5, b5)) (e0 : a0.toNatClampNeg = 5) (f0 : b0.toNatClampNeg = t) (e1 : a1.toNatClampNeg = pc x) (hx : CS_ cd en tx len pc hg x d ps 0 v1 p1 k1) (h1 : hg x + 1 ≤ hg n) (h3 : 1 ≤ hg x) :
    CS_ cd en tx len pc hg n d ps 1 a4 (ps.1, p1.2) (k1 + 4) := by
  intro fr F As hF hA hd
  refine ⟨fun _ => ?_, fun e => by omega, fun e => by omega⟩
  obtain ⟨X, nx', h⟩ := (cs_guard c0 c1 e1 hx h1 h3 hF hA hd (fr := fr)).2.1 rfl
  rw [e0, f0, unw_not, drop_top] at h
  have g2 : Go_ cd en tx len 1 (fr :: F, As, t, d, 0, (ps.1, p1.2)) (fr :: F, a4 :: As, t + 1, d, 0, (ps.1, p1.2)) := go_1 (k := 0) (by simp; omega) (by omega) (ms_give c4) rfl
  exact go_e (go_ret c5 (by omega) (by simp; omega) (go_tr h g2)) (by omega)
theorem cs_or1 {x k1 : Nat} {p1 : PS_} {v1 a0 b0 a1 b1 a2 b2 a3 b3 : Int32} (c0 : cd (pc n) = (9, a0, b0)) (c1 : cd (pc n + 1) = (4, a1, b1)) (c2 : cd (pc n + 2) = (10, a2, b2)) (c3 : cd (pc n + 3) = (6, a3, b3)) (e1 : a1.toNatClampNeg = pc x) (hx : CS_ cd en tx len pc hg x d ps 1 v1 p1 k1) (h1 : hg x + 1 ≤ hg n) (h3 : 1 ≤ hg x) :
    CS_ cd en tx len pc hg n d ps 1 v1 p1 (k1 + 4) := cs_try1 c0 c1 c2 c3 e1 hx h1 h3
theorem cs_or0 {x k1 : Nat} {p1 : PS_} {v1 a0 b0 a1 b1 : Int32} (c0 : cd (pc n) = (9, a0, b0)) (c1 : cd (pc n + 1) = (4, a1, b1)) (e0 : a0.toNatClampNeg = 2) (e1 : a1.toNatClampNeg = pc x) (hne : p1.1 ≠ ps.1) (hx : CS_ cd en tx len pc hg x d ps 0 v1 p1 k1) (h1 : hg x + 1 ≤ hg n) (h3 : 1 ≤ hg x) :
    CS_ cd en tx len pc hg n d ps 0 0 p1 (k1 + 2) := by
  intro fr F As hF hA hd
  refine ⟨fun e => by omega, fun _ => ?_, fun e => by omega⟩
  obtain ⟨X, nx', h⟩ := (cs_guard c0 c1 e1 hx h1 h3 hF hA hd (fr := fr)).2.1 rfl
  rw [e0, unw_or2 hne] at h
  exact ⟨X, nx', h⟩
/-- the second of two, where the first took nothing -/
theorem cs_orS {x k1 t : Nat} {p1 : PS_} {v1 a0 b0 a1 b1 : Int32} (c0 : cd (pc n) = (9, a0, b0)) (c1 : cd (pc n + 1) = (4, a1, b1)) (e0 : a0.toNatClampNeg = 2) (f0 : b0.toNatClampNeg = t) (e1 : a1.toNatClampNeg = pc x) (heq : p1.1 = ps.1) (hx : CS_ cd en tx len pc hg x d ps 0 v1 p1 k1) (h1 : hg x + 1 ≤ hg n) (h3 : 1 ≤ hg x)
    (fr : Fr_) (F : List Fr_) (As : List Int32) (hF : F.length + 1 + 2 * (hg n - 1) ≤ 15 * d) (hA : As.length + 2 * (hg n - 1) ≤ 14 * d) (hd : d ≤ 40) : Go_ cd en tx len (k1 + 2) (fr :: F, As, pc n, d, 0, ps) (fr :: F, As, t, d, 0, p1) := by
  obtain ⟨X, nx', h⟩ := (cs_guard c0 c1 e1 hx h1 h3 hF hA hd (fr := fr)).2.1 rfl
  rw [e0, f0, heq, unw_or1, drop_top] at h
  rw [show p1 = (ps.1, p1.2) by rw [← heq]]
  exact h
theorem cs_or21 {x y k1 k2 t : Nat} {p1 p2 : PS_} {v1 v2 a0 b0 a1 b1 a4 b4 a5 b5 : Int32} (c0 : cd (pc n) = (9, a0, b0)) (c1 : cd (pc n + 1) = (4, a1, b1)) (c4 : cd t = (4, a4, b4)) (c5 : cd (t + 1) = (6, a5, b5)) (e0 : a0.toNatClampNeg = 2) (f0 : b0.toNatClampNeg = t) (e1 : a1.toNatClampNeg = pc x) (e4 : a4.toNatClampNeg = pc y) (heq : p1.1 = ps.1)
    (hx : CS_ cd en tx len pc hg x d ps 0 v1 p1 k1) (hy : CS_ cd en tx len pc hg y d p1 1 v2 p2 k2) (h1 : hg x + 1 ≤ hg n) (h2 : hg y + 1 ≤ hg n) (h3 : 1 ≤ hg x) (h4 : 1 ≤ hg y) : CS_ cd en tx len pc hg n d ps 1 v2 p2 (k1 + k2 + 4) := by
  intro fr F As hF hA hd
  refine ⟨fun _ => ?_, fun e => by omega, fun e => by omega⟩
  have g1 := cs_orS c0 c1 e0 f0 e1 heq hx h1 h3 fr F As hF hA hd
  have g2 := (cs_part (G := fr :: F) (As := As) c4 e4 hy (by simp; omega) (by omega) hd).1 rfl
  exact go_e (go_ret c5 (by omega) (by simp; omega) (go_tr g1 g2)) (by omega)
theorem cs_or20 {x y k1 k2 t r : Nat} {p1 p2 : PS_} {v1 v2 a0 b0 a1 b1 a4 b4 : Int32} (hr : r ≠ 1) (c0 : cd (pc n) = (9, a0, b0)) (c1 : cd (pc n + 1) = (4, a1, b1)) (c4 : cd t = (4, a4, b4)) (e0 : a0.toNatClampNeg = 2) (f0 : b0.toNatClampNeg = t) (e1 : a1.toNatClampNeg = pc x) (e4 : a4.toNatClampNeg = pc y) (heq : p1.1 = ps.1)
    (hx : CS_ cd en tx len pc hg x d ps 0 v1 p1 k1) (hy : CS_ cd en tx len pc hg y d p1 r v2 p2 k2) (h1 : hg x + 1 ≤ hg n) (h2 : hg y + 1 ≤ hg n) (h3 : 1 ≤ hg x) (h4 : 1 ≤ hg y) : CS_ cd en tx len pc hg n d ps r 0 p2 (k1 + 2 + (k2 + 1)) := by
  refine cs_stop hr c4 e4 hy h2 h4 (fun fr F As hF hA hd => ⟨[], by simp, ?_⟩)
  exact cs_orS c0 c1 e0 f0 e1 heq hx h1 h3 fr F As hF hA hd
theorem cs_rule2 {a0 b0 : Int32} (c0 : cd (pc n) = (5, a0, b0)) (hl : 40 ≤ d ∨ 300 ≤ ps.2.2.2.1) : CS_ cd en tx len pc hg n d ps 2 0 ps 1 := by
  intro fr F As hF hA hd
  refine ⟨fun e => by omega, fun e => by omega, fun _ => ?_⟩
  exact ⟨_, go_1 (k := 0) (by simp; omega) (by omega) (ms_body0 c0 hl) rfl, rfl, rfl⟩
theorem cs_rule {b k1 r : Nat} {p1 : PS_} {v1 a0 b0 a1 b1 : Int32} (c0 : cd (pc n) = (5, a0, b0)) (c1 : cd (pc n + 1) = (6, a1, b1)) (e0 : en a0.toNatClampNeg = pc b) (hl : ¬ (40 ≤ d ∨ 300 ≤ ps.2.2.2.1)) (hb : hg b ≤ 8)
    (hx : CS_ cd en tx len pc hg b (d + 1) (ps.1, ps.2.1, ps.2.2.1, ps.2.2.2.1 + 1, ps.2.2.2.2) r v1 p1 k1) :
    (r = 1 → CS_ cd en tx len pc hg n d ps 1 v1 p1 (k1 + 2)) ∧ (r = 0 → CS_ cd en tx len pc hg n d ps 0 0 p1 (k1 + 1)) ∧ (r = 2 → CS_ cd en tx len pc hg n d ps 2 0 p1 (k1 + 1)) := by
  have hm : ∀ (G : List Fr_) (As : List Int32), ms_ cd en tx len (G, As, pc n, d, 0, ps) = ((1, pc n + 1, ps.1, As.length) :: G, As, pc b, d + 1, 0, (ps.1, ps.2.1, ps.2.2.1, ps.2.2.2.1 + 1, ps.2.2.2.2)) := by
    intro G As
    rw [ms_body1 c0 hl, e0]
  have hd' : d + 1 ≤ 40 := by omega
  refine ⟨fun e => ?_, fun e => ?_, fun e => ?_⟩
  · intro fr F As hF hA hd
    refine ⟨fun _ => ?_, fun e => by omega, fun e => by omega⟩
    have g1 := (hx (1, pc n + 1, ps.1, As.length) (fr :: F) As (by simp; omega) (by omega) hd').1 e
    have g2 := go_1 (by simp; omega) (by omega) (hm (fr :: F) As) g1
    simp only [if_true, Nat.add_sub_cancel] at g2
    exact go_e (go_ret c1 (by omega) (by simp; omega) g2) (by omega)
  · intro fr F As hF hA hd
    refine ⟨fun e => by omega, fun _ => ?_, fun e => by omega⟩
    obtain ⟨X, nx', g1⟩ := (hx (1, pc n + 1, ps.1, As.length) (fr :: F) As (by simp; omega) (by omega) hd').2.1 e
    rw [unw_body] at g1
    exact ⟨X, nx', go_1 (by simp; omega) (by omega) (hm (fr :: F) As) g1⟩
  · intro fr F As hF hA hd
    refine ⟨fun e => by omega, fun e => by omega, fun _ => ?_⟩
    obtain ⟨c', g1, a, b⟩ := (hx (1, pc n + 1, ps.1, As.length) (fr :: F) As (by simp; omega) (by omega) hd').2.2 e
    exact ⟨c', go_1 (by simp; omega) (by omega) (hm (fr :: F) As) g1, a, b⟩
/-- the loop of MANY and CHAIN, from the head of a turn: a guard whose place is the turn's, the answer so far -/
def CM_ (cd : Nat → Nat × Int32 × Int32) (en : Nat → Nat) (tx : Nat → Int32) (len : Nat) (hg : Nat → Nat) (L t n d : Nat) (acc : Int32) (ps : PS_) (r : Nat) (v : Int32) (ps' : PS_) (k : Nat) : Prop :=
  ∀ (fr : Fr_) (F : List Fr_) (As : List Int32), F.length + 1 + 2 * (hg n - 1) ≤ 15 * d → As.length + 2 * (hg n - 1) ≤ 14 * d → d ≤ 40 →
    (r = 1 → Go_ cd en tx len k ((2, t, ps.1, As.length + 1) :: fr :: F, acc :: As, L, d, 0, ps) (F, v :: As, fr.2.1, (if fr.1 = 1 then d - 1 else d), 0, ps')) ∧
    (r = 0 → ∃ X nx, Go_ cd en tx len k ((2, t, ps.1, As.length + 1) :: fr :: F, acc :: As, L, d, 0, ps) (unw_ (fr :: F) (X ++ As) ps'.1 d nx ps')) ∧
    (r = 2 → ∃ c', Go_ cd en tx len k ((2, t, ps.1, As.length + 1) :: fr :: F, acc :: As, L, d, 0, ps) c' ∧ c'.2.2.2.2.1 = 3 ∧ c'.2.2.2.2.2.2 = ps'.2)
/-- a turn that has been gone through leads to the next -/
theorem cm_then {L t j k r : Nat} {acc acc1 v : Int32} {p1 ps' : PS_}
    (ha : ∀ (fr : Fr_) (F : List Fr_) (As : List Int32), F.length + 1 + 2 * (hg n - 1) ≤ 15 * d → As.length + 2 * (hg n - 1) ≤ 14 * d → d ≤ 40 → Go_ cd en tx len j ((2, t, ps.1, As.length + 1) :: fr :: F, acc :: As, L, d, 0, ps) ((2, t, p1.1, As.length + 1) :: fr :: F, acc1 :: As, L, d, 0, p1))
    (h : CM_ cd en tx len hg L t n d acc1 p1 r v ps' k) : CM_ cd en tx len hg L t n d acc ps r v ps' (j + k) := by
  intro fr F As hF hA hd
  have g := ha fr F As hF hA hd
  obtain ⟨h1, h0, h2⟩ := h fr F As hF hA hd
  refine ⟨fun e => go_tr g (h1 e), fun e => ?_, fun e => ?_⟩
  · obtain ⟨X, nx, q⟩ := h0 e
    exact ⟨X, nx, go_tr g q⟩
  · obtain ⟨c', q, a, b⟩ := h2 e
    exact ⟨c', go_tr g q, a, b⟩
theorem cm_many {x L t k1 k r : Nat} {acc v1 v a0 b0 a1 b1 a2 b2 : Int32} {p1 ps' : PS_} (c0 : cd L = (4, a0, b0)) (c1 : cd (L + 1) = (7, a1, b1)) (c2 : cd (L + 2) = (12, a2, b2)) (e0 : a0.toNatClampNeg = pc x) (e2 : a2.toNatClampNeg = L) (hx : CS_ cd en tx len pc hg x d ps 1 v1 p1 k1) (h1 : hg x + 1 ≤ hg n) (h3 : 1 ≤ hg x)
    (h : CM_ cd en tx len hg L t n d (jn_ a1 acc v1) p1 r v ps' k) : CM_ cd en tx len hg L t n d acc ps r v ps' (k1 + 3 + k) := by
  refine cm_then (fun fr F As hF hA hd => ?_) h
  have g1 := (cs_part (G := (2, t, ps.1, As.length + 1) :: fr :: F) (As := acc :: As) c0 e0 hx (by simp; omega) (by simp; omega) hd).1 rfl
  have g2 : Go_ cd en tx len 1 ((2, t, ps.1, As.length + 1) :: fr :: F, v1 :: acc :: As, L + 1, d, 0, p1) ((2, t, ps.1, As.length + 1) :: fr :: F, jn_ a1 acc v1 :: As, L + 2, d, 0, p1) := go_1 (k := 0) (by simp; omega) (by simp; omega) (ms_join c1) rfl
  have hm := ms_again (en := en) (tx := tx) (len := len) (fr := (2, t, ps.1, As.length + 1)) (F := fr :: F) (As := jn_ a1 acc v1 :: As) (d := d) (ps := p1) c2
  rw [e2] at hm
  have g3 := go_1 (k := 0) (by simp; omega) (by simp; omega) hm rfl
  exact go_e (go_tr g1 (go_tr g2 g3)) (by omega)
theorem cm_chain {x y L t k1 k2 k r : Nat} {acc v1 v2 v a0 b0 a1 b1 a2 b2 a3 b3 : Int32} {p1 p2 ps' : PS_} (c0 : cd L = (4, a0, b0)) (c1 : cd (L + 1) = (4, a1, b1)) (c2 : cd (L + 2) = (8, a2, b2)) (c3 : cd (L + 3) = (12, a3, b3)) (e0 : a0.toNatClampNeg = pc y) (e1 : a1.toNatClampNeg = pc x) (e3 : a3.toNatClampNeg = L)
    (hy : CS_ cd en tx len pc hg y d ps 1 v1 p1 k1) (hx : CS_ cd en tx len pc hg x d p1 1 v2 p2 k2) (h1 : hg x + 1 ≤ hg n) (h2 : hg y + 1 ≤ hg n) (h3 : 1 ≤ hg x) (h4 : 1 ≤ hg y)
    (h : CM_ cd en tx len hg L t n d (jn_ (wy_ v1) acc v2) p2 r v ps' k) : CM_ cd en tx len hg L t n d acc ps r v ps' (k1 + k2 + 4 + k) := by
  refine cm_then (fun fr F As hF hA hd => ?_) h
  have g1 := (cs_part (G := (2, t, ps.1, As.length + 1) :: fr :: F) (As := acc :: As) c0 e0 hy (by simp; omega) (by simp; omega) hd).1 rfl
  have g2 := (cs_part (G := (2, t, ps.1, As.length + 1) :: fr :: F) (As := v1 :: acc :: As) c1 e1 hx (by simp; omega) (by simp; omega) hd).1 rfl
  have g3 : Go_ cd en tx len 1 ((2, t, ps.1, As.length + 1) :: fr :: F, v2 :: v1 :: acc :: As, L + 1 + 1, d, 0, p2) ((2, t, ps.1, As.length + 1) :: fr :: F, jn_ (wy_ v1) acc v2 :: As, L + 3, d, 0, p2) := go_1 (k := 0) (by simp; omega) (by simp; omega) (ms_link c2) rfl
  have hm := ms_again (en := en) (tx := tx) (len := len) (fr := (2, t, ps.1, As.length + 1)) (F := fr :: F) (As := jn_ (wy_ v1) acc v2 :: As) (d := d) (ps := p2) c3
  rw [e3] at hm
  have g4 := go_1 (k := 0) (by simp; omega) (by simp; omega) hm rfl
  exact go_e (go_tr g1 (go_tr g2 (go_tr g3 g4))) (by omega)
/-- the last turn: a part that doesn't give -/
theorem cm_end {x L t j k1 r nx : Nat} {acc v1 a0 b0 a9 b9 : Int32} {p0 p1 : PS_} (hr : r ≠ 1) (c0 : cd nx = (4, a0, b0)) (c9 : cd t = (6, a9, b9)) (e0 : a0.toNatClampNeg = pc x) (hx : CS_ cd en tx len pc hg x d p0 r v1 p1 k1) (h1 : hg x + 1 ≤ hg n) (h3 : 1 ≤ hg x)
    (ha : ∀ (fr : Fr_) (F : List Fr_) (As : List Int32), F.length + 1 + 2 * (hg n - 1) ≤ 15 * d → As.length + 2 * (hg n - 1) ≤ 14 * d → d ≤ 40 → ∃ Y : List Int32, Y.length ≤ 1 ∧ Go_ cd en tx len j ((2, t, ps.1, As.length + 1) :: fr :: F, acc :: As, L, d, 0, ps) ((2, t, ps.1, As.length + 1) :: fr :: F, Y ++ (acc :: As), nx, d, 0, p0)) :
    (r = 0 → p1.1 = ps.1 → CM_ cd en tx len hg L t n d acc ps 1 acc p1 (j + (k1 + 1) + 1)) ∧ (r = 0 → p1.1 ≠ ps.1 → CM_ cd en tx len hg L t n d acc ps 0 0 p1 (j + (k1 + 1))) ∧ (r = 2 → CM_ cd en tx len hg L t n d acc ps 2 0 p1 (j + (k1 + 1))) := by
  refine ⟨fun e he => ?_, fun e he => ?_, fun e => ?_⟩
  · intro fr F As hF hA hd
    refine ⟨fun _ => ?_, fun e => by omega, fun e => by omega⟩
    obtain ⟨Y, hY, g0⟩ := ha fr F As hF hA hd
    obtain ⟨X, nx', g1⟩ := (cs_part (G := (2, t, ps.1, As.length + 1) :: fr :: F) (As := Y ++ (acc :: As)) c0 e0 hx (by simp; omega) (by simp; omega) hd).2.1 e
    rw [he, unw_or1, ← List.append_assoc, show As.length + 1 = (acc :: As).length from rfl, drop_top, show (ps.1, p1.2) = p1 by rw [← he]] at g1
    exact go_ret c9 (by omega) (by simp; omega) (go_tr g0 g1)
  · intro fr F As hF hA hd
    refine ⟨fun e => by omega, fun _ => ?_, fun e => by omega⟩
    obtain ⟨Y, hY, g0⟩ := ha fr F As hF hA hd
    obtain ⟨X, nx', g1⟩ := (cs_part (G := (2, t, ps.1, As.length + 1) :: fr :: F) (As := Y ++ (acc :: As)) c0 e0 hx (by simp; omega) (by simp; omega) hd).2.1 e
    rw [unw_or2 he] at g1
    refine ⟨X ++ Y ++ [acc], nx', ?_⟩
    have e2 : X ++ Y ++ [acc] ++ As = X ++ (Y ++ acc :: As) := by simp
    rw [e2]
    exact go_tr g0 g1
  · intro fr F As hF hA hd
    refine ⟨fun e => by omega, fun e => by omega, fun _ => ?_⟩
    obtain ⟨Y, hY, g0⟩ := ha fr F As hF hA hd
    obtain ⟨c', g1, a, b⟩ := (cs_part (G := (2, t, ps.1, As.length + 1) :: fr :: F) (As := Y ++ (acc :: As)) c0 e0 hx (by simp; omega) (by simp; omega) hd).2.2 e
    exact ⟨c', go_tr g0 g1, a, b⟩
theorem cm_last1 {x L t k1 r : Nat} {acc v1 a0 b0 a9 b9 : Int32} {p1 : PS_} (hr : r ≠ 1) (c0 : cd L = (4, a0, b0)) (c9 : cd t = (6, a9, b9)) (e0 : a0.toNatClampNeg = pc x) (hx : CS_ cd en tx len pc hg x d ps r v1 p1 k1) (h1 : hg x + 1 ≤ hg n) (h3 : 1 ≤ hg x) :
    (r = 0 → p1.1 = ps.1 → CM_ cd en tx len hg L t n d acc ps 1 acc p1 (0 + (k1 + 1) + 1)) ∧ (r = 0 → p1.1 ≠ ps.1 → CM_ cd en tx len hg L t n d acc ps 0 0 p1 (0 + (k1 + 1))) ∧ (r = 2 → CM_ cd en tx len hg L t n d acc ps 2 0 p1 (0 + (k1 + 1))) :=
  cm_end hr c0 c9 e0 hx h1 h3 (fun _ _ _ _ _ _ => ⟨[], by simp, rfl⟩)
theorem cm_last2 {x y L t k1 k2 r : Nat} {acc v1 v2 a0 b0 a1 b1 a9 b9 : Int32} {p1 p2 : PS_} (hr : r ≠ 1) (c0 : cd L = (4, a0, b0)) (c1 : cd (L + 1) = (4, a1, b1)) (c9 : cd t = (6, a9, b9)) (e0 : a0.toNatClampNeg = pc y) (e1 : a1.toNatClampNeg = pc x) (hy : CS_ cd en tx len pc hg y d ps 1 v1 p1 k1) (hx : CS_ cd en tx len pc hg x d p1 r v2 p2 k2) (h1 : hg x + 1 ≤ hg n) (h2 : hg y + 1 ≤ hg n) (h3 : 1 ≤ hg x) (h4 : 1 ≤ hg y) :
    (r = 0 → p2.1 = ps.1 → CM_ cd en tx len hg L t n d acc ps 1 acc p2 (k1 + 1 + (k2 + 1) + 1)) ∧ (r = 0 → p2.1 ≠ ps.1 → CM_ cd en tx len hg L t n d acc ps 0 0 p2 (k1 + 1 + (k2 + 1))) ∧ (r = 2 → CM_ cd en tx len hg L t n d acc ps 2 0 p2 (k1 + 1 + (k2 + 1))) :=
  cm_end hr c1 c9 e1 hx h1 h3 (fun fr F As hF hA hd => ⟨[v1], by simp, (cs_part (G := (2, t, ps.1, As.length + 1) :: fr :: F) (As := acc :: As) c0 e0 hy (by simp; omega) (by simp; omega) hd).1 rfl⟩)
/-- into the loop -/
theorem cs_loop {L t j k r : Nat} {acc v a1 b1 : Int32} {p0 ps' : PS_} (c1 : cd j = (9, a1, b1)) (e1 : a1.toNatClampNeg = 2) (f1 : b1.toNatClampNeg = t) (hL : j + 1 = L) {i : Nat}
    (ha : ∀ (fr : Fr_) (F : List Fr_) (As : List Int32), F.length + 1 + 2 * (hg n - 1) ≤ 15 * d → As.length + 2 * (hg n - 1) ≤ 14 * d → d ≤ 40 → Go_ cd en tx len i (fr :: F, As, pc n, d, 0, ps) (fr :: F, acc :: As, j, d, 0, p0))
    (h : CM_ cd en tx len hg L t n d acc p0 r v ps' k) : CS_ cd en tx len pc hg n d ps r v ps' (i + 1 + k) := by
  subst hL
  intro fr F As hF hA hd
  have g0 := ha fr F As hF hA hd
  have hm := ms_guard (en := en) (tx := tx) (len := len) (F := fr :: F) (As := acc :: As) (d := d) (ps := p0) c1
  rw [e1, f1] at hm
  have g1 := go_tr g0 (go_1 (k := 0) (by simp; omega) (by simp; omega) hm rfl)
  obtain ⟨h1, h0, h2⟩ := h fr F As hF hA hd
  refine ⟨fun e => go_tr g1 (h1 e), fun e => ?_, fun e => ?_⟩
  · obtain ⟨X, nx, q⟩ := h0 e
    exact ⟨X, nx, go_tr g1 q⟩
  · obtain ⟨c', q, a, b⟩ := h2 e
    exact ⟨c', go_tr g1 q, a, b⟩
theorem cs_many {L t k r : Nat} {v a0 b0 a1 b1 : Int32} {ps' : PS_} (c0 : cd (pc n) = (1, a0, b0)) (c1 : cd (pc n + 1) = (9, a1, b1)) (e1 : a1.toNatClampNeg = 2) (f1 : b1.toNatClampNeg = t) (hL : pc n + 2 = L) (h : CM_ cd en tx len hg L t n d a0 ps r v ps' k) : CS_ cd en tx len pc hg n d ps r v ps' (1 + 1 + k) :=
  cs_loop c1 e1 f1 hL (fun fr F As hF hA hd => go_1 (k := 0) (by simp; omega) (by omega) (ms_give c0) rfl) h
theorem cs_chain {x L t k1 k r : Nat} {v v1 a0 b0 a1 b1 : Int32} {p1 ps' : PS_} (c0 : cd (pc n) = (4, a0, b0)) (c1 : cd (pc n + 1) = (9, a1, b1)) (e0 : a0.toNatClampNeg = pc x) (e1 : a1.toNatClampNeg = 2) (f1 : b1.toNatClampNeg = t) (hL : pc n + 2 = L) (hx : CS_ cd en tx len pc hg x d ps 1 v1 p1 k1) (h1 : hg x + 1 ≤ hg n) (h3 : 1 ≤ hg x)
    (h : CM_ cd en tx len hg L t n d v1 p1 r v ps' k) : CS_ cd en tx len pc hg n d ps r v ps' (k1 + 1 + 1 + k) :=
  cs_loop c1 e1 f1 hL (fun fr F As hF hA hd => (cs_part (G := fr :: F) (As := As) c0 e0 hx (by simp; omega) (by omega) hd).1 rfl) h
end KINDS
end MACH
end
section
/-! the other machine over a list: nodes that stand begun, the last first -/
section REFM
abbrev RF_ : Type := Nat × Nat × Nat × Int32 × Nat × Int32
abbrev RC_ : Type := List RF_ × Nat × Int32 × Nat × Nat × PS_
def en_ (n pl : Nat) : RF_ := (n, 0, pl, 0, pl, 0)
def rk_ (tx : Nat → Int32) (len : Nat) (f : RF_) (S : List RF_) (gd : Nat) (vl : Int32) (d : Nat) (ps : PS_) (lo hi : Int32) : RC_ :=
  if 1500 ≤ ps.2.1 then (f :: S, gd, vl, d, 1, ps)
  else if ps.1 < len ∧ lo ≤ tx ps.1 ∧ tx ps.1 ≤ hi then (S, 1, tx ps.1, d, 0, (ps.1 + 1, ps.2.1 + 1, ps.2.2))
  else (S, 0, vl, d, 0, (ps.1, ps.2.1 + 1, mx_ ps.2.2.1 ps.1, ps.2.2.2))
def rs_ (kd : Nat → Nat) (ga gb gc : Nat → Int32) (bd : Nat → Nat) (tx : Nat → Int32) (len : Nat) (c : RC_) : RC_ :=
  match c with
  | ([], gd, vl, d, t, ps) => ([], gd, vl, d, t, ps)
  | ((n, st, sa, an, mrk, sg) :: S, gd, vl, d, _, ps) =>
    if st = 0 then
      (if kd n = 0 then (S, 1, ga n, d, 0, ps)
       else if kd n = 1 then rk_ tx len (n, 1, sa, an, mrk, sg) S gd vl d ps (ga n) (ga n)
       else if kd n = 2 then rk_ tx len (n, 1, sa, an, mrk, sg) S gd vl d ps (ga n) (gb n)
       else if kd n = 3 then (S, 0, vl, d, 0, ps)
       else if kd n = 13 then (S, 1, ps.2.2.2.2 (ga n).toNatClampNeg, d, 0, ps)
       else if kd n = 11 then (en_ (bd (ga n).toNatClampNeg) ps.1 :: (n, 1, sa, an, mrk, sg) :: S, gd, vl, d + 1, (if 40 ≤ d ∨ 300 ≤ ps.2.2.2.1 then 1 else 0), (ps.1, ps.2.1, ps.2.2.1, ps.2.2.2.1 + 1, ps.2.2.2.2))
       else (en_ (ga n).toNatClampNeg ps.1 :: (n, 1, sa, an, mrk, sg) :: S, gd, vl, d, 0, ps))
    else if kd n = 4 then
      (if gd = 0 then (S, 0, vl, d, 0, ps)
       else if st = 2 then (S, 1, jn_ (gc n) an vl, d, 0, ps)
       else (en_ (gb n).toNatClampNeg ps.1 :: (n, 2, sa, vl, mrk, sg) :: S, gd, vl, d, 0, ps))
    else if kd n = 5 then
      (if st = 2 ∨ gd ≠ 0 ∨ ps.1 ≠ sa then (S, gd, vl, d, 0, ps)
       else (en_ (gb n).toNatClampNeg ps.1 :: (n, 2, sa, an, mrk, sg) :: S, gd, vl, d, 0, ps))
    else if kd n = 6 then (S, gd, vl, d, 0, (if gd ≠ 0 then ps else (sa, ps.2)))
    else if kd n = 7 then (S, gd, vl, d, 0, (if gd ≠ 0 then (sa, ps.2) else ps))
    else if kd n = 8 then (if gd ≠ 0 then (S, 0, vl, d, 0, (sa, ps.2)) else (S, 1, 0, d, 0, (sa, ps.2)))
    else if kd n = 9 then
      (if gd = 0 then (if ps.1 = mrk then (S, 1, an, d, 0, ps) else (S, 0, vl, d, 0, ps))
       else (en_ (ga n).toNatClampNeg ps.1 :: (n, st, sa, jn_ (gb n) an vl, ps.1, sg) :: S, gd, vl, d, 0, ps))
    else if kd n = 10 then
      (if gd = 0 then (if st = 1 then (S, 0, vl, d, 0, ps) else if ps.1 = mrk then (S, 1, an, d, 0, ps) else (S, 0, vl, d, 0, ps))
       else if st = 2 then (en_ (ga n).toNatClampNeg ps.1 :: (n, 3, sa, an, mrk, vl) :: S, gd, vl, d, 0, ps)
       else (en_ (gb n).toNatClampNeg ps.1 :: (n, 2, sa, (if st = 1 then vl else jn_ (wy_ sg) an vl), ps.1, sg) :: S, gd, vl, d, 0, ps))
    else if kd n = 11 then (S, gd, vl, d - 1, 0, ps)
    else (S, gd, vl, d, 0, (if gd ≠ 0 then (ps.1, ps.2.1, ps.2.2.1, ps.2.2.2.1, va_up ps.2.2.2.2 (gb n).toNatClampNeg vl) else ps))
/-- k steps, each from a state that isn't tired, with something begun and room -/
def Rg_ (kd : Nat → Nat) (ga gb gc : Nat → Int32) (bd : Nat → Nat) (tx : Nat → Int32) (len : Nat) : Nat → RC_ → RC_ → Prop
  | 0, c, c' => c = c'
  | k + 1, c, c' => (c.2.2.2.2.1 = 0 ∧ c.1 ≠ [] ∧ c.1.length < 399) ∧ Rg_ kd ga gb gc bd tx len k (rs_ kd ga gb gc bd tx len c) c'
variable {kd : Nat → Nat} {ga gb gc : Nat → Int32} {bd : Nat → Nat} {tx : Nat → Int32} {len : Nat}
theorem rg_tr : ∀ {j k : Nat} {a b c : RC_}, Rg_ kd ga gb gc bd tx len j a b → Rg_ kd ga gb gc bd tx len k b c → Rg_ kd ga gb gc bd tx len (j + k) a c := by
  intro j
  induction j with
  | zero => intro k a b c h1 h2; cases h1; rw [Nat.zero_add]; exact h2
  | succ j ih =>
    intro k a b c h1 h2
    rw [Nat.succ_add]
    exact ⟨h1.1, ih h1.2 h2⟩
theorem rg_1 {k : Nat} {f : RF_} {S : List RF_} {gd d : Nat} {vl : Int32} {ps : PS_} {c1 c' : RC_} (hS : S.length < 398) (h1 : rs_ kd ga gb gc bd tx len (f :: S, gd, vl, d, 0, ps) = c1) (hk : Rg_ kd ga gb gc bd tx len k c1 c') : Rg_ kd ga gb gc bd tx len (k + 1) (f :: S, gd, vl, d, 0, ps) c' :=
  ⟨⟨rfl, by simp, by simp; omega⟩, by rw [h1]; exact hk⟩
theorem rg_o {f : RF_} {S : List RF_} {gd d : Nat} {vl : Int32} {ps : PS_} {c1 : RC_} (hS : S.length < 398) (h1 : rs_ kd ga gb gc bd tx len (f :: S, gd, vl, d, 0, ps) = c1) : Rg_ kd ga gb gc bd tx len 1 (f :: S, gd, vl, d, 0, ps) c1 := rg_1 (k := 0) hS h1 rfl
/-- what this machine does with a node that is entered -/
def RS_ (kd : Nat → Nat) (ga gb gc : Nat → Int32) (bd : Nat → Nat) (tx : Nat → Int32) (len : Nat) (hg : Nat → Nat) (n d : Nat) (ps : PS_) (r : Nat) (v : Int32) (ps' : PS_) : Prop :=
  ∀ (S : List RF_) (gd : Nat) (vl : Int32), S.length + hg n ≤ 8 * d → d ≤ 40 → ∃ k c', Rg_ kd ga gb gc bd tx len k (en_ n ps.1 :: S, gd, vl, d, 0, ps) c' ∧
    (r = 1 → c' = (S, 1, v, d, 0, ps')) ∧ (r = 0 → ∃ w, c' = (S, 0, w, d, 0, ps')) ∧
    (r = 2 → c'.2.2.2.2.1 = 1 ∧ c'.2.2.2.2.2.2.1 = ps'.2.1 ∧ c'.2.2.2.2.2.2.2.1 = ps'.2.2.1 ∧ c'.2.2.2.2.2.2.2.2.2 = ps'.2.2.2.2)
variable {hg : Nat → Nat} {n d : Nat} {ps : PS_}
theorem rs_give {v : Int32} {ps' : PS_} (h1 : 1 ≤ hg n) (h : ∀ S gd vl, rs_ kd ga gb gc bd tx len (en_ n ps.1 :: S, gd, vl, d, 0, ps) = (S, 1, v, d, 0, ps')) : RS_ kd ga gb gc bd tx len hg n d ps 1 v ps' :=
  fun S gd vl hS hd => ⟨1, _, rg_o (by omega) (h S gd vl), fun _ => rfl, fun e => by omega, fun e => by omega⟩
theorem rs_fail {ps' : PS_} (h1 : 1 ≤ hg n) (h : ∀ S gd vl, rs_ kd ga gb gc bd tx len (en_ n ps.1 :: S, gd, vl, d, 0, ps) = (S, 0, vl, d, 0, ps')) : RS_ kd ga gb gc bd tx len hg n d ps 0 0 ps' :=
  fun S gd vl hS hd => ⟨1, _, rg_o (by omega) (h S gd vl), fun e => by omega, fun _ => ⟨vl, rfl⟩, fun e => by omega⟩
theorem rs_tired (h1 : 1 ≤ hg n) (h : ∀ S gd vl, (rs_ kd ga gb gc bd tx len (en_ n ps.1 :: S, gd, vl, d, 0, ps)).2.2.2.2.1 = 1 ∧ (rs_ kd ga gb gc bd tx len (en_ n ps.1 :: S, gd, vl, d, 0, ps)).2.2.2.2.2.2.1 = ps.2.1 ∧ (rs_ kd ga gb gc bd tx len (en_ n ps.1 :: S, gd, vl, d, 0, ps)).2.2.2.2.2.2.2.1 = ps.2.2.1 ∧ (rs_ kd ga gb gc bd tx len (en_ n ps.1 :: S, gd, vl, d, 0, ps)).2.2.2.2.2.2.2.2.2 = ps.2.2.2.2) : RS_ kd ga gb gc bd tx len hg n d ps 2 0 ps :=
  fun S gd vl hS hd => ⟨1, _, rg_o (by omega) rfl, fun e => by omega, fun e => by omega, fun _ => h S gd vl⟩
theorem rs_pure (h1 : 1 ≤ hg n) (hk : kd n = 0) : RS_ kd ga gb gc bd tx len hg n d ps 1 (ga n) ps := rs_give h1 (fun S gd vl => by simp [rs_, en_, hk])
theorem rs_none (h1 : 1 ≤ hg n) (hk : kd n = 3) : RS_ kd ga gb gc bd tx len hg n d ps 0 0 ps := rs_fail h1 (fun S gd vl => by simp [rs_, en_, hk])
theorem rs_kept (h1 : 1 ≤ hg n) (hk : kd n = 13) : RS_ kd ga gb gc bd tx len hg n d ps 1 (ps.2.2.2.2 (ga n).toNatClampNeg) ps := rs_give h1 (fun S gd vl => by simp [rs_, en_, hk])
/-- SIGN (hi is its own character) and RANGE -/
theorem rs_look {hi : Int32} (h1 : 1 ≤ hg n) (hk : (kd n = 1 ∧ hi = ga n) ∨ (kd n = 2 ∧ hi = gb n)) :
    (1500 ≤ ps.2.1 → RS_ kd ga gb gc bd tx len hg n d ps 2 0 ps) ∧
    (¬ 1500 ≤ ps.2.1 → lk_ tx len ps.1 (ga n) hi → RS_ kd ga gb gc bd tx len hg n d ps 1 (tx ps.1) (ps.1 + 1, ps.2.1 + 1, ps.2.2)) ∧
    (¬ 1500 ≤ ps.2.1 → ¬ lk_ tx len ps.1 (ga n) hi → RS_ kd ga gb gc bd tx len hg n d ps 0 0 (ps.1, ps.2.1 + 1, mx_ ps.2.2.1 ps.1, ps.2.2.2)) := by
  have hs : ∀ S gd vl, rs_ kd ga gb gc bd tx len (en_ n ps.1 :: S, gd, vl, d, 0, ps) = rk_ tx len (n, 1, ps.1, 0, ps.1, 0) S gd vl d ps (ga n) hi := by
    intro S gd vl
    rcases hk with ⟨hk, rfl⟩ | ⟨hk, rfl⟩ <;> simp [rs_, en_, hk]
  refine ⟨fun hl => rs_tired h1 (fun S gd vl => ?_), fun hl hc => rs_give h1 (fun S gd vl => ?_), fun hl hc => rs_fail h1 (fun S gd vl => ?_)⟩
  · rw [hs]; simp [rk_, hl]
  · rw [hs]; unfold lk_ at hc; simp only [rk_]; rw [if_neg hl, if_pos hc]
  · rw [hs]; unfold lk_ at hc; simp only [rk_]; rw [if_neg hl, if_neg hc]
/-- a node that begins with its first part -/
theorem rs_begin {S : List RF_} {gd : Nat} {vl : Int32} (hk : kd n = 4 ∨ kd n = 5 ∨ kd n = 6 ∨ kd n = 7 ∨ kd n = 8 ∨ kd n = 9 ∨ kd n = 10 ∨ kd n = 12) :
    rs_ kd ga gb gc bd tx len (en_ n ps.1 :: S, gd, vl, d, 0, ps) = (en_ (ga n).toNatClampNeg ps.1 :: (n, 1, ps.1, 0, ps.1, 0) :: S, gd, vl, d, 0, ps) := by
  rcases hk with hk | hk | hk | hk | hk | hk | hk | hk <;> simp [rs_, en_, hk]
/-- a part that is tired makes the whole so -/
theorem rs_tired1 {x j : Nat} {p1 ps' : PS_} {v : Int32} (hx : RS_ kd ga gb gc bd tx len hg x d p1 2 v ps') (hh : hg x + 1 ≤ hg n)
    (ha : ∀ S gd vl, S.length + hg n ≤ 8 * d → d ≤ 40 → ∃ j f gd' vl', Rg_ kd ga gb gc bd tx len j (en_ n ps.1 :: S, gd, vl, d, 0, ps) (en_ x p1.1 :: f :: S, gd', vl', d, 0, p1)) : RS_ kd ga gb gc bd tx len hg n d ps 2 0 ps' := by
  intro S gd vl hS hd
  obtain ⟨j, f, gd', vl', g0⟩ := ha S gd vl hS hd
  obtain ⟨k, c', g1, -, -, h2⟩ := hx (f :: S) gd' vl' (by simp; omega) hd
  exact ⟨j + k, c', rg_tr g0 g1, fun e => by omega, fun e => by omega, fun _ => h2 rfl⟩
/-- a first part, run: what stands behind it -/
theorem rs_first {x r : Nat} {p1 : PS_} {v : Int32} (hk : kd n = 4 ∨ kd n = 5 ∨ kd n = 6 ∨ kd n = 7 ∨ kd n = 8 ∨ kd n = 9 ∨ kd n = 10 ∨ kd n = 12) (ex : (ga n).toNatClampNeg = x) (hx : RS_ kd ga gb gc bd tx len hg x d ps r v p1) (hh : hg x + 1 ≤ hg n) (hx1 : 1 ≤ hg x)
    {S : List RF_} {gd : Nat} {vl : Int32} (hS : S.length + hg n ≤ 8 * d) (hd : d ≤ 40) :
    (r = 1 → ∃ k, Rg_ kd ga gb gc bd tx len k (en_ n ps.1 :: S, gd, vl, d, 0, ps) ((n, 1, ps.1, 0, ps.1, 0) :: S, 1, v, d, 0, p1)) ∧
    (r = 0 → ∃ k w, Rg_ kd ga gb gc bd tx len k (en_ n ps.1 :: S, gd, vl, d, 0, ps) ((n, 1, ps.1, 0, ps.1, 0) :: S, 0, w, d, 0, p1)) := by
  have g0 := rg_o (kd := kd) (ga := ga) (gb := gb) (gc := gc) (bd := bd) (tx := tx) (len := len) (S := S) (gd := gd) (vl := vl) (d := d) (ps := ps) (f := en_ n ps.1) (by omega) (rs_begin hk)
  rw [ex] at g0
  obtain ⟨k, c', g1, h1, h0, -⟩ := hx ((n, 1, ps.1, 0, ps.1, 0) :: S) gd vl (by simp; omega) hd
  refine ⟨fun e => ?_, fun e => ?_⟩
  · have := h1 e; subst this
    exact ⟨_, rg_tr g0 g1⟩
  · obtain ⟨w, this⟩ := h0 e; subst this
    exact ⟨_, w, rg_tr g0 g1⟩
/-- what a node does when its first part has given, resp. failed, in one step more -/
theorem rs_after1 {x r : Nat} {p1 p2 : PS_} {v v2 : Int32} (hk : kd n = 4 ∨ kd n = 5 ∨ kd n = 6 ∨ kd n = 7 ∨ kd n = 8 ∨ kd n = 9 ∨ kd n = 10 ∨ kd n = 12) (ex : (ga n).toNatClampNeg = x) (hx : RS_ kd ga gb gc bd tx len hg x d ps 1 v p1) (hh : hg x + 1 ≤ hg n) (hx1 : 1 ≤ hg x)
    (h : (r = 1 ∧ ∀ S, rs_ kd ga gb gc bd tx len ((n, 1, ps.1, 0, ps.1, 0) :: S, 1, v, d, 0, p1) = (S, 1, v2, d, 0, p2)) ∨ (r = 0 ∧ ∀ S, ∃ w, rs_ kd ga gb gc bd tx len ((n, 1, ps.1, 0, ps.1, 0) :: S, 1, v, d, 0, p1) = (S, 0, w, d, 0, p2))) : RS_ kd ga gb gc bd tx len hg n d ps r v2 p2 := by
  intro S gd vl hS hd
  obtain ⟨k, g1⟩ := (rs_first hk ex hx hh hx1 (gd := gd) (vl := vl) hS hd).1 rfl
  rcases h with ⟨rfl, h⟩ | ⟨rfl, h⟩
  · exact ⟨k + 1, _, rg_tr g1 (rg_o (by omega) (h S)), fun _ => rfl, fun e => by omega, fun e => by omega⟩
  · obtain ⟨w, h⟩ := h S
    exact ⟨k + 1, _, rg_tr g1 (rg_o (by omega) h), fun e => by omega, fun _ => ⟨w, rfl⟩, fun e => by omega⟩
theorem rs_after0 {x r : Nat} {p1 p2 : PS_} {v v2 : Int32} (hk : kd n = 4 ∨ kd n = 5 ∨ kd n = 6 ∨ kd n = 7 ∨ kd n = 8 ∨ kd n = 9 ∨ kd n = 10 ∨ kd n = 12) (ex : (ga n).toNatClampNeg = x) (hx : RS_ kd ga gb gc bd tx len hg x d ps 0 v p1) (hh : hg x + 1 ≤ hg n) (hx1 : 1 ≤ hg x)
    (h : (r = 1 ∧ ∀ S w, rs_ kd ga gb gc bd tx len ((n, 1, ps.1, 0, ps.1, 0) :: S, 0, w, d, 0, p1) = (S, 1, v2, d, 0, p2)) ∨ (r = 0 ∧ ∀ S w, ∃ w', rs_ kd ga gb gc bd tx len ((n, 1, ps.1, 0, ps.1, 0) :: S, 0, w, d, 0, p1) = (S, 0, w', d, 0, p2))) : RS_ kd ga gb gc bd tx len hg n d ps r v2 p2 := by
  intro S gd vl hS hd
  obtain ⟨k, w, g1⟩ := (rs_first hk ex hx hh hx1 (gd := gd) (vl := vl) hS hd).2 rfl
  rcases h with ⟨rfl, h⟩ | ⟨rfl, h⟩
  · exact ⟨k + 1, _, rg_tr g1 (rg_o (by omega) (h S w)), fun _ => rfl, fun e => by omega, fun e => by omega⟩
  · obtain ⟨w', h⟩ := h S w
    exact ⟨k + 1, _, rg_tr g1 (rg_o (by omega) h), fun e => by omega, fun _ => ⟨w', rfl⟩, fun e => by omega⟩
theorem rs_first2 {x : Nat} {p1 : PS_} {v : Int32} (hk : kd n = 4 ∨ kd n = 5 ∨ kd n = 6 ∨ kd n = 7 ∨ kd n = 8 ∨ kd n = 9 ∨ kd n = 10 ∨ kd n = 12) (ex : (ga n).toNatClampNeg = x) (hx : RS_ kd ga gb gc bd tx len hg x d ps 2 v p1) (hh : hg x + 1 ≤ hg n) (hx1 : 1 ≤ hg x) : RS_ kd ga gb gc bd tx len hg n d ps 2 0 p1 := by
  refine rs_tired1 (j := 0) hx hh (fun S gd vl hS hd => ⟨1, (n, 1, ps.1, 0, ps.1, 0), gd, vl, ?_⟩)
  have g0 := rg_o (kd := kd) (ga := ga) (gb := gb) (gc := gc) (bd := bd) (tx := tx) (len := len) (S := S) (gd := gd) (vl := vl) (d := d) (ps := ps) (f := en_ n ps.1) (by omega) (rs_begin hk)
  rw [ex] at g0
  exact g0
/-- a second part y, entered over the frame f2 -/
theorem rs_two {y r2 r : Nat} {f2 : RF_} {p1 p2 p3 : PS_} {v2 v3 : Int32} (ha : ∀ (S : List RF_) (gd : Nat) (vl : Int32), S.length + hg n ≤ 8 * d → d ≤ 40 → ∃ j gd' vl', Rg_ kd ga gb gc bd tx len j (en_ n ps.1 :: S, gd, vl, d, 0, ps) (en_ y p1.1 :: f2 :: S, gd', vl', d, 0, p1)) (hy : RS_ kd ga gb gc bd tx len hg y d p1 r2 v2 p2) (hh : hg y + 1 ≤ hg n) (hy1 : 1 ≤ hg y)
    (h : (r2 = 1 ∧ r = 1 ∧ ∀ S, rs_ kd ga gb gc bd tx len (f2 :: S, 1, v2, d, 0, p2) = (S, 1, v3, d, 0, p3)) ∨ (r2 = 0 ∧ r = 0 ∧ ∀ S w, ∃ w', rs_ kd ga gb gc bd tx len (f2 :: S, 0, w, d, 0, p2) = (S, 0, w', d, 0, p3)) ∨ (r2 = 2 ∧ r = 2 ∧ p3 = p2)) : RS_ kd ga gb gc bd tx len hg n d ps r v3 p3 := by
  intro S gd vl hS hd
  obtain ⟨j, gd', vl', g0⟩ := ha S gd vl hS hd
  obtain ⟨k, c', g1, h1, h0, h2⟩ := hy (f2 :: S) gd' vl' (by simp; omega) hd
  rcases h with ⟨rfl, rfl, h⟩ | ⟨rfl, rfl, h⟩ | ⟨rfl, rfl, rfl⟩
  · have := h1 rfl; subst this
    exact ⟨_, _, rg_tr (rg_tr g0 g1) (rg_o (by omega) (h S)), fun _ => rfl, fun e => by omega, fun e => by omega⟩
  · obtain ⟨w, this⟩ := h0 rfl; subst this
    obtain ⟨w', h⟩ := h S w
    exact ⟨_, _, rg_tr (rg_tr g0 g1) (rg_o (by omega) h), fun e => by omega, fun _ => ⟨w', rfl⟩, fun e => by omega⟩
  · exact ⟨_, c', rg_tr g0 g1, fun e => by omega, fun e => by omega, fun _ => h2 rfl⟩
theorem rs_then {x y r2 r : Nat} {p1 p2 : PS_} {v1 v2 v3 : Int32} (hk : kd n = 4) (ex : (ga n).toNatClampNeg = x) (ey : (gb n).toNatClampNeg = y) (hx : RS_ kd ga gb gc bd tx len hg x d ps 1 v1 p1) (hy : RS_ kd ga gb gc bd tx len hg y d p1 r2 v2 p2) (h1 : hg x + 1 ≤ hg n) (h2 : hg y + 1 ≤ hg n) (h3 : 1 ≤ hg x) (h4 : 1 ≤ hg y)
    (h : (r2 = 1 ∧ r = 1 ∧ v3 = jn_ (gc n) v1 v2) ∨ (r2 = 0 ∧ r = 0) ∨ (r2 = 2 ∧ r = 2)) : RS_ kd ga gb gc bd tx len hg n d ps r v3 p2 := by
  refine rs_two (p1 := p1) (f2 := (n, 2, ps.1, v1, ps.1, 0)) (y := y) (fun S gd vl hS hd => ?_) hy h2 h4 ?_
  · obtain ⟨k, g1⟩ := (rs_first (Or.inl hk) ex hx h1 h3 (gd := gd) (vl := vl) hS hd).1 rfl
    exact ⟨k + 1, 1, v1, rg_tr g1 (rg_o (by omega) (by simp [rs_, hk, ey]))⟩
  · rcases h with ⟨rfl, rfl, rfl⟩ | ⟨rfl, rfl⟩ | ⟨rfl, rfl⟩
    · exact Or.inl ⟨rfl, rfl, fun S => by simp [rs_, hk]⟩
    · exact Or.inr (Or.inl ⟨rfl, rfl, fun S w => ⟨w, by simp [rs_, hk]⟩⟩)
    · exact Or.inr (Or.inr ⟨rfl, rfl, rfl⟩)
theorem rs_or2 {x y r2 : Nat} {p1 p2 : PS_} {v1 v2 : Int32} (hk : kd n = 5) (ex : (ga n).toNatClampNeg = x) (ey : (gb n).toNatClampNeg = y) (heq : p1.1 = ps.1) (hx : RS_ kd ga gb gc bd tx len hg x d ps 0 v1 p1) (hy : RS_ kd ga gb gc bd tx len hg y d p1 r2 v2 p2) (h1 : hg x + 1 ≤ hg n) (h2 : hg y + 1 ≤ hg n) (h3 : 1 ≤ hg x) (h4 : 1 ≤ hg y) (hr : r2 = 0 ∨ r2 = 1 ∨ r2 = 2) :
    RS_ kd ga gb gc bd tx len hg n d ps r2 v2 p2 := by
  refine rs_two (p1 := p1) (f2 := (n, 2, ps.1, 0, ps.1, 0)) (y := y) (fun S gd vl hS hd => ?_) hy h2 h4 ?_
  · obtain ⟨k, w, g1⟩ := (rs_first (Or.inr (Or.inl hk)) ex hx h1 h3 (gd := gd) (vl := vl) hS hd).2 rfl
    exact ⟨k + 1, 0, w, rg_tr g1 (rg_o (by omega) (by simp [rs_, hk, ey, heq]))⟩
  · rcases hr with rfl | rfl | rfl
    · exact Or.inr (Or.inl ⟨rfl, rfl, fun S w => ⟨w, by simp [rs_, hk]⟩⟩)
    · exact Or.inl ⟨rfl, rfl, fun S => by simp [rs_, hk]⟩
    · exact Or.inr (Or.inr ⟨rfl, rfl, rfl⟩)
/-- the loops: a turn's head, the part z just entered over the node's frame, whose mark is the turn's place -/
def RL_ (kd : Nat → Nat) (ga gb gc : Nat → Int32) (bd : Nat → Nat) (tx : Nat → Int32) (len : Nat) (hg : Nat → Nat) (z st n d sa : Nat) (acc : Int32) (ps : PS_) (r : Nat) (v : Int32) (ps' : PS_) : Prop :=
  ∀ (sg : Int32) (S : List RF_) (gd : Nat) (vl : Int32), S.length + hg n ≤ 8 * d → d ≤ 40 → ∃ k c', Rg_ kd ga gb gc bd tx len k (en_ z ps.1 :: (n, st, sa, acc, ps.1, sg) :: S, gd, vl, d, 0, ps) c' ∧
    (r = 1 → c' = (S, 1, v, d, 0, ps')) ∧ (r = 0 → ∃ w, c' = (S, 0, w, d, 0, ps')) ∧
    (r = 2 → c'.2.2.2.2.1 = 1 ∧ c'.2.2.2.2.2.2.1 = ps'.2.1 ∧ c'.2.2.2.2.2.2.2.1 = ps'.2.2.1 ∧ c'.2.2.2.2.2.2.2.2.2 = ps'.2.2.2.2)
theorem rl_then {z st sa r : Nat} {acc acc1 v : Int32} {p1 ps' : PS_} (ha : ∀ (sg : Int32) (S : List RF_) (gd : Nat) (vl : Int32), S.length + hg n ≤ 8 * d → d ≤ 40 → ∃ k sg' gd' vl', Rg_ kd ga gb gc bd tx len k (en_ z ps.1 :: (n, st, sa, acc, ps.1, sg) :: S, gd, vl, d, 0, ps) (en_ z p1.1 :: (n, st, sa, acc1, p1.1, sg') :: S, gd', vl', d, 0, p1))
    (h : RL_ kd ga gb gc bd tx len hg z st n d sa acc1 p1 r v ps') : RL_ kd ga gb gc bd tx len hg z st n d sa acc ps r v ps' := by
  intro sg S gd vl hS hd
  obtain ⟨k, sg', gd', vl', g0⟩ := ha sg S gd vl hS hd
  obtain ⟨k2, c', g1, q⟩ := h sg' S gd' vl' hS hd
  exact ⟨_, c', rg_tr g0 g1, q⟩
theorem rl_many {x sa r : Nat} {acc v1 v : Int32} {p1 ps' : PS_} (hk : kd n = 9) (ex : (ga n).toNatClampNeg = x) (hx : RS_ kd ga gb gc bd tx len hg x d ps 1 v1 p1) (h1 : hg x + 1 ≤ hg n) (h3 : 1 ≤ hg x) (h : RL_ kd ga gb gc bd tx len hg x 1 n d sa (jn_ (gb n) acc v1) p1 r v ps') : RL_ kd ga gb gc bd tx len hg x 1 n d sa acc ps r v ps' := by
  refine rl_then (fun sg S gd vl hS hd => ?_) h
  obtain ⟨k, c', g1, q1, -, -⟩ := hx ((n, 1, sa, acc, ps.1, sg) :: S) gd vl (by simp; omega) hd
  have := q1 rfl; subst this
  exact ⟨k + 1, sg, 1, v1, rg_tr g1 (rg_o (by omega) (by simp [rs_, hk, ex]))⟩
theorem rl_chain {x y sa r : Nat} {acc v1 v2 v : Int32} {p1 p2 ps' : PS_} (hk : kd n = 10) (ex : (ga n).toNatClampNeg = x) (ey : (gb n).toNatClampNeg = y) (hy : RS_ kd ga gb gc bd tx len hg y d ps 1 v1 p1) (hx : RS_ kd ga gb gc bd tx len hg x d p1 1 v2 p2) (h1 : hg x + 1 ≤ hg n) (h2 : hg y + 1 ≤ hg n) (h3 : 1 ≤ hg x) (h4 : 1 ≤ hg y)
    (h : RL_ kd ga gb gc bd tx len hg y 2 n d sa (jn_ (wy_ v1) acc v2) p2 r v ps') : RL_ kd ga gb gc bd tx len hg y 2 n d sa acc ps r v ps' := by
  refine rl_then (fun sg S gd vl hS hd => ?_) h
  obtain ⟨k, c', g1, q1, -, -⟩ := hy ((n, 2, sa, acc, ps.1, sg) :: S) gd vl (by simp; omega) hd
  have := q1 rfl; subst this
  have g2 : Rg_ kd ga gb gc bd tx len 1 ((n, 2, sa, acc, ps.1, sg) :: S, 1, v1, d, 0, p1) (en_ x p1.1 :: (n, 3, sa, acc, ps.1, v1) :: S, 1, v1, d, 0, p1) := rg_o (by omega) (by simp [rs_, hk, ex])
  obtain ⟨k3, c', g3, q3, -, -⟩ := hx ((n, 3, sa, acc, ps.1, v1) :: S) 1 v1 (by simp; omega) hd
  have := q3 rfl; subst this
  have g4 : Rg_ kd ga gb gc bd tx len 1 ((n, 3, sa, acc, ps.1, v1) :: S, 1, v2, d, 0, p2) (en_ y p2.1 :: (n, 2, sa, jn_ (wy_ v1) acc v2, p2.1, v1) :: S, 1, v2, d, 0, p2) := rg_o (by omega) (by simp [rs_, hk, ey])
  exact ⟨_, v1, 1, v2, rg_tr g1 (rg_tr g2 (rg_tr g3 g4))⟩
/-- the last turn -/
theorem rl_last {x z st sa r : Nat} {acc v1 : Int32} {p0 p1 : PS_} (hr : r ≠ 1) (hx : RS_ kd ga gb gc bd tx len hg x d p0 r v1 p1) (h1 : hg x + 1 ≤ hg n) (h3 : 1 ≤ hg x) (st' : Nat) (hst : (kd n = 9 ∧ st' = 1) ∨ (kd n = 10 ∧ (st' = 2 ∨ st' = 3)))
    (ha : ∀ (sg : Int32) (S : List RF_) (gd : Nat) (vl : Int32), S.length + hg n ≤ 8 * d → d ≤ 40 → ∃ k sg' gd' vl', Rg_ kd ga gb gc bd tx len k (en_ z ps.1 :: (n, st, sa, acc, ps.1, sg) :: S, gd, vl, d, 0, ps) (en_ x p0.1 :: (n, st', sa, acc, ps.1, sg') :: S, gd', vl', d, 0, p0)) :
    (r = 0 → p1.1 = ps.1 → RL_ kd ga gb gc bd tx len hg z st n d sa acc ps 1 acc p1) ∧ (r = 0 → p1.1 ≠ ps.1 → RL_ kd ga gb gc bd tx len hg z st n d sa acc ps 0 0 p1) ∧ (r = 2 → RL_ kd ga gb gc bd tx len hg z st n d sa acc ps 2 0 p1) := by
  refine ⟨fun e he => ?_, fun e he => ?_, fun e => ?_⟩
  · intro sg S gd vl hS hd
    obtain ⟨k, sg', gd', vl', g0⟩ := ha sg S gd vl hS hd
    obtain ⟨k2, c', g1, -, q0, -⟩ := hx ((n, st', sa, acc, ps.1, sg') :: S) gd' vl' (by simp; omega) hd
    obtain ⟨w, this⟩ := q0 e; subst this
    have g2 : Rg_ kd ga gb gc bd tx len 1 ((n, st', sa, acc, ps.1, sg') :: S, 0, w, d, 0, p1) (S, 1, acc, d, 0, p1) := rg_o (by omega) (by rcases hst with ⟨hk, rfl⟩ | ⟨hk, rfl | rfl⟩ <;> simp [rs_, hk, he])
    exact ⟨_, _, rg_tr g0 (rg_tr g1 g2), fun _ => rfl, fun e => by omega, fun e => by omega⟩
  · intro sg S gd vl hS hd
    obtain ⟨k, sg', gd', vl', g0⟩ := ha sg S gd vl hS hd
    obtain ⟨k2, c', g1, -, q0, -⟩ := hx ((n, st', sa, acc, ps.1, sg') :: S) gd' vl' (by simp; omega) hd
    obtain ⟨w, this⟩ := q0 e; subst this
    have g2 : Rg_ kd ga gb gc bd tx len 1 ((n, st', sa, acc, ps.1, sg') :: S, 0, w, d, 0, p1) (S, 0, w, d, 0, p1) := rg_o (by omega) (by rcases hst with ⟨hk, rfl⟩ | ⟨hk, rfl | rfl⟩ <;> simp [rs_, hk, he])
    exact ⟨_, _, rg_tr g0 (rg_tr g1 g2), fun e => by omega, fun _ => ⟨w, rfl⟩, fun e => by omega⟩
  · intro sg S gd vl hS hd
    obtain ⟨k, sg', gd', vl', g0⟩ := ha sg S gd vl hS hd
    obtain ⟨k2, c', g1, -, -, q2⟩ := hx ((n, st', sa, acc, ps.1, sg') :: S) gd' vl' (by simp; omega) hd
    exact ⟨_, c', rg_tr g0 g1, fun e => by omega, fun e => by omega, fun _ => q2 e⟩
theorem rl_many_last {x sa r : Nat} {acc v1 : Int32} {p1 : PS_} (hk : kd n = 9) (hr : r ≠ 1) (hx : RS_ kd ga gb gc bd tx len hg x d ps r v1 p1) (h1 : hg x + 1 ≤ hg n) (h3 : 1 ≤ hg x) :
    (r = 0 → p1.1 = ps.1 → RL_ kd ga gb gc bd tx len hg x 1 n d sa acc ps 1 acc p1) ∧ (r = 0 → p1.1 ≠ ps.1 → RL_ kd ga gb gc bd tx len hg x 1 n d sa acc ps 0 0 p1) ∧ (r = 2 → RL_ kd ga gb gc bd tx len hg x 1 n d sa acc ps 2 0 p1) :=
  rl_last hr hx h1 h3 1 (Or.inl ⟨hk, rfl⟩) (fun sg S gd vl _ _ => ⟨0, sg, gd, vl, rfl⟩)
theorem rl_chain_last1 {y sa r : Nat} {acc v1 : Int32} {p1 : PS_} (hk : kd n = 10) (hr : r ≠ 1) (hy : RS_ kd ga gb gc bd tx len hg y d ps r v1 p1) (h2 : hg y + 1 ≤ hg n) (h4 : 1 ≤ hg y) :
    (r = 0 → p1.1 = ps.1 → RL_ kd ga gb gc bd tx len hg y 2 n d sa acc ps 1 acc p1) ∧ (r = 0 → p1.1 ≠ ps.1 → RL_ kd ga gb gc bd tx len hg y 2 n d sa acc ps 0 0 p1) ∧ (r = 2 → RL_ kd ga gb gc bd tx len hg y 2 n d sa acc ps 2 0 p1) :=
  rl_last hr hy h2 h4 2 (Or.inr ⟨hk, Or.inl rfl⟩) (fun sg S gd vl _ _ => ⟨0, sg, gd, vl, rfl⟩)
theorem rl_chain_last2 {x y sa r : Nat} {acc v1 v2 : Int32} {p1 p2 : PS_} (hk : kd n = 10) (ex : (ga n).toNatClampNeg = x) (hr : r ≠ 1) (hy : RS_ kd ga gb gc bd tx len hg y d ps 1 v1 p1) (hx : RS_ kd ga gb gc bd tx len hg x d p1 r v2 p2) (h1 : hg x + 1 ≤ hg n) (h2 : hg y + 1 ≤ hg n) (h3 : 1 ≤ hg x) (h4 : 1 ≤ hg y) :
    (r = 0 → p2.1 = ps.1 → RL_ kd ga gb gc bd tx len hg y 2 n d sa acc ps 1 acc p2) ∧ (r = 0 → p2.1 ≠ ps.1 → RL_ kd ga gb gc bd tx len hg y 2 n d sa acc ps 0 0 p2) ∧ (r = 2 → RL_ kd ga gb gc bd tx len hg y 2 n d sa acc ps 2 0 p2) := by
  refine rl_last hr hx h1 h3 3 (Or.inr ⟨hk, Or.inr rfl⟩) (fun sg S gd vl hS hd => ?_)
  obtain ⟨k, c', g1, q1, -, -⟩ := hy ((n, 2, sa, acc, ps.1, sg) :: S) gd vl (by simp; omega) hd
  have := q1 rfl; subst this
  exact ⟨k + 1, v1, 1, v1, rg_tr g1 (rg_o (by omega) (by simp [rs_, hk, ex]))⟩
theorem rs_many {x r : Nat} {v : Int32} {ps' : PS_} (hk : kd n = 9) (ex : (ga n).toNatClampNeg = x) (h1 : 1 ≤ hg n) (h : RL_ kd ga gb gc bd tx len hg x 1 n d ps.1 0 ps r v ps') : RS_ kd ga gb gc bd tx len hg n d ps r v ps' := by
  intro S gd vl hS hd
  have g0 := rg_o (kd := kd) (ga := ga) (gb := gb) (gc := gc) (bd := bd) (tx := tx) (len := len) (S := S) (gd := gd) (vl := vl) (d := d) (ps := ps) (f := en_ n ps.1) (by omega) (rs_begin (by omega))
  rw [ex] at g0
  obtain ⟨k, c', g1, q⟩ := h 0 S gd vl hS hd
  exact ⟨_, c', rg_tr g0 g1, q⟩
theorem rs_chain {x y r : Nat} {v v1 : Int32} {p1 ps' : PS_} (hk : kd n = 10) (ex : (ga n).toNatClampNeg = x) (ey : (gb n).toNatClampNeg = y) (hx : RS_ kd ga gb gc bd tx len hg x d ps 1 v1 p1) (h1 : hg x + 1 ≤ hg n) (h3 : 1 ≤ hg x) (h : RL_ kd ga gb gc bd tx len hg y 2 n d ps.1 v1 p1 r v ps') : RS_ kd ga gb gc bd tx len hg n d ps r v ps' := by
  intro S gd vl hS hd
  obtain ⟨k, g1⟩ := (rs_first (by omega) ex hx h1 h3 (gd := gd) (vl := vl) hS hd).1 rfl
  have g2 : Rg_ kd ga gb gc bd tx len 1 ((n, 1, ps.1, 0, ps.1, 0) :: S, 1, v1, d, 0, p1) (en_ y p1.1 :: (n, 2, ps.1, v1, p1.1, 0) :: S, 1, v1, d, 0, p1) := rg_o (by omega) (by simp [rs_, hk, ey])
  obtain ⟨k2, c', g3, q⟩ := h 0 S 1 v1 hS hd
  exact ⟨_, c', rg_tr g1 (rg_tr g2 g3), q⟩
theorem rs_rule2 (h1 : 1 ≤ hg n) (hk : kd n = 11) (hl : 40 ≤ d ∨ 300 ≤ ps.2.2.2.1) : RS_ kd ga gb gc bd tx len hg n d ps 2 0 ps := rs_tired h1 (fun S gd vl => by simp [rs_, en_, hk, hl])
theorem rs_rule {b r : Nat} {p1 : PS_} {v1 : Int32} (h1 : 1 ≤ hg n) (hk : kd n = 11) (eb : bd (ga n).toNatClampNeg = b) (hl : ¬ (40 ≤ d ∨ 300 ≤ ps.2.2.2.1)) (hb : hg b ≤ 8) (hx : RS_ kd ga gb gc bd tx len hg b (d + 1) (ps.1, ps.2.1, ps.2.2.1, ps.2.2.2.1 + 1, ps.2.2.2.2) r v1 p1) (hr : r = 0 ∨ r = 1 ∨ r = 2) : RS_ kd ga gb gc bd tx len hg n d ps r v1 p1 := by
  intro S gd vl hS hd
  have g0 : Rg_ kd ga gb gc bd tx len 1 (en_ n ps.1 :: S, gd, vl, d, 0, ps) (en_ b ps.1 :: (n, 1, ps.1, 0, ps.1, 0) :: S, gd, vl, d + 1, 0, (ps.1, ps.2.1, ps.2.2.1, ps.2.2.2.1 + 1, ps.2.2.2.2)) := rg_o (by omega) (by
    simp only [rs_, en_, hk, eb]
    simp [hl])
  obtain ⟨k, c', g1, q1, q0, q2⟩ := hx ((n, 1, ps.1, 0, ps.1, 0) :: S) gd vl (by simp; omega) (by omega)
  rcases hr with rfl | rfl | rfl
  · obtain ⟨w, this⟩ := q0 rfl; subst this
    have g2 : Rg_ kd ga gb gc bd tx len 1 ((n, 1, ps.1, 0, ps.1, 0) :: S, 0, w, d + 1, 0, p1) (S, 0, w, d, 0, p1) := rg_o (by omega) (by simp [rs_, hk])
    exact ⟨_, _, rg_tr g0 (rg_tr g1 g2), fun e => by omega, fun _ => ⟨w, rfl⟩, fun e => by omega⟩
  · have := q1 rfl; subst this
    have g2 : Rg_ kd ga gb gc bd tx len 1 ((n, 1, ps.1, 0, ps.1, 0) :: S, 1, v1, d + 1, 0, p1) (S, 1, v1, d, 0, p1) := rg_o (by omega) (by simp [rs_, hk])
    exact ⟨_, _, rg_tr g0 (rg_tr g1 g2), fun _ => rfl, fun e => by omega, fun e => by omega⟩
  · exact ⟨_, c', rg_tr g0 g1, fun e => by omega, fun e => by omega, fun _ => q2 rfl⟩
end REFM
end
section
/-! both machines at a node: the same end, and how much it costs -/
section SIMU
def al_ : Nat → Nat
  | 0 => 0
  | h + 1 => 2 * al_ h + 8
def be_ : Nat → Nat
  | 0 => 2042
  | h + 1 => be_ h + 2 * al_ h + 8
theorem be_ge : ∀ h, 2042 ≤ be_ h := by
  intro h
  induction h with
  | zero => exact Nat.le_refl _
  | succ h ih => show 2042 ≤ be_ h + 2 * al_ h + 8; omega
theorem be_8 : ∀ h, h ≤ 8 → be_ h ≤ 6058 ∧ al_ h ≤ 2040 := by decide +kernel
/-- what is known of a run of a node: its end r, the looks and bodies that it made itself (ow) and within bodies (ns), its steps k -/
def PR_ (E : Nat → Bool) (n h : Nat) (ps : PS_) (r : Nat) (ps' : PS_) (k ow ns : Nat) : Prop :=
  (r = 0 ∨ r = 1 ∨ r = 2) ∧ ps'.2.1 + ps'.2.2.2.1 = ps.2.1 + ps.2.2.2.1 + ow + ns ∧ ps'.2.1 ≤ 1500 ∧ ps'.2.2.2.1 ≤ 300 ∧
  (r = 1 → ps.1 ≤ ps'.1 ∧ (ps'.1 = ps.1 → E n = true) ∧ (ps'.1 ≠ ps.1 → 1 ≤ ow)) ∧ k ≤ al_ h + be_ h * ow + 6058 * ns
/-- the same of a loop from the head of a turn -/
def PL_ (h z c : Nat) (ps : PS_) (r : Nat) (ps' : PS_) (k ow ns : Nat) : Prop :=
  (r = 0 ∨ r = 1 ∨ r = 2) ∧ ps'.2.1 + ps'.2.2.2.1 = ps.2.1 + ps.2.2.2.1 + ow + ns ∧ ps'.2.1 ≤ 1500 ∧ ps'.2.2.2.1 ≤ 300 ∧
  (r = 1 → ps.1 ≤ ps'.1 ∧ (ps'.1 ≠ ps.1 → 1 ≤ ow)) ∧ k ≤ al_ h + al_ h * z + 3 + (be_ h + 2 * al_ h + 4) * ow + 6058 * ns
variable (cd : Nat → Nat × Int32 × Int32) (en : Nat → Nat) (tx : Nat → Int32) (len : Nat) (pc hg kd : Nat → Nat) (ga gb gc : Nat → Int32) (bd : Nat → Nat) (E : Nat → Bool) (I : Nat → Prop)
/-- a node that is part of a body, its code, its marks -/
def WM_ : Prop := ∀ n, I n → 1 ≤ hg n ∧ hg n ≤ 8 ∧
  ((kd n = 0 ∧ E n = true ∧ cd (pc n) = (1, ga n, 0) ∧ cd (pc n + 1) = (6, 0, 0)) ∨
   (kd n = 1 ∧ cd (pc n) = (2, ga n, ga n) ∧ cd (pc n + 1) = (6, 0, 0)) ∨
   (kd n = 2 ∧ cd (pc n) = (2, ga n, gb n) ∧ cd (pc n + 1) = (6, 0, 0)) ∨
   (kd n = 3 ∧ cd (pc n) = (3, 0, 0)) ∨
   (kd n = 4 ∧ ∃ x y, I x ∧ I y ∧ (ga n).toNatClampNeg = x ∧ (gb n).toNatClampNeg = y ∧ hg x + 1 ≤ hg n ∧ hg y + 1 ≤ hg n ∧ (E x = true → E y = true → E n = true) ∧
      ∃ a0 a1, cd (pc n) = (4, a0, 0) ∧ a0.toNatClampNeg = pc x ∧ cd (pc n + 1) = (4, a1, 0) ∧ a1.toNatClampNeg = pc y ∧ cd (pc n + 2) = (7, gc n, 0) ∧ cd (pc n + 3) = (6, 0, 0)) ∨
   (kd n = 5 ∧ ∃ x y, I x ∧ I y ∧ (ga n).toNatClampNeg = x ∧ (gb n).toNatClampNeg = y ∧ hg x + 1 ≤ hg n ∧ hg y + 1 ≤ hg n ∧ (E x = true → E n = true) ∧ (E y = true → E n = true) ∧
      ∃ a0 b0 a1 a4, cd (pc n) = (9, a0, b0) ∧ a0.toNatClampNeg = 2 ∧ b0.toNatClampNeg = pc n + 4 ∧ cd (pc n + 1) = (4, a1, 0) ∧ a1.toNatClampNeg = pc x ∧ cd (pc n + 2) = (10, 0, 0) ∧ cd (pc n + 3) = (6, 0, 0) ∧ cd (pc n + 4) = (4, a4, 0) ∧ a4.toNatClampNeg = pc y ∧ cd (pc n + 5) = (6, 0, 0)) ∨
   (kd n = 6 ∧ ∃ x, I x ∧ (ga n).toNatClampNeg = x ∧ hg x + 1 ≤ hg n ∧ (E x = true → E n = true) ∧
      ∃ a0 b0 a1, cd (pc n) = (9, a0, b0) ∧ a0.toNatClampNeg = 3 ∧ cd (pc n + 1) = (4, a1, 0) ∧ a1.toNatClampNeg = pc x ∧ cd (pc n + 2) = (10, 0, 0) ∧ cd (pc n + 3) = (6, 0, 0)) ∨
   (kd n = 7 ∧ E n = true ∧ ∃ x, I x ∧ (ga n).toNatClampNeg = x ∧ hg x + 1 ≤ hg n ∧
      ∃ a0 b0 a1, cd (pc n) = (9, a0, b0) ∧ a0.toNatClampNeg = 4 ∧ cd (pc n + 1) = (4, a1, 0) ∧ a1.toNatClampNeg = pc x ∧ cd (pc n + 2) = (11, 0, 0) ∧ cd (pc n + 3) = (6, 0, 0)) ∨
   (kd n = 8 ∧ E n = true ∧ ∃ x, I x ∧ (ga n).toNatClampNeg = x ∧ hg x + 1 ≤ hg n ∧
      ∃ a0 b0 a1, cd (pc n) = (9, a0, b0) ∧ a0.toNatClampNeg = 5 ∧ b0.toNatClampNeg = pc n + 4 ∧ cd (pc n + 1) = (4, a1, 0) ∧ a1.toNatClampNeg = pc x ∧ cd (pc n + 2) = (11, 0, 0) ∧ cd (pc n + 3) = (3, 0, 0) ∧ cd (pc n + 4) = (1, 0, 0) ∧ cd (pc n + 5) = (6, 0, 0)) ∨
   (kd n = 9 ∧ E n = true ∧ ∃ x, I x ∧ (ga n).toNatClampNeg = x ∧ hg x + 1 ≤ hg n ∧ E x = false ∧
      ∃ a1 b1 a2 a4, cd (pc n) = (1, 0, 0) ∧ cd (pc n + 1) = (9, a1, b1) ∧ a1.toNatClampNeg = 2 ∧ b1.toNatClampNeg = pc n + 5 ∧ cd (pc n + 2) = (4, a2, 0) ∧ a2.toNatClampNeg = pc x ∧ cd (pc n + 3) = (7, gb n, 0) ∧ cd (pc n + 4) = (12, a4, 0) ∧ a4.toNatClampNeg = pc n + 2 ∧ cd (pc n + 5) = (6, 0, 0)) ∨
   (kd n = 10 ∧ ∃ x y, I x ∧ I y ∧ (ga n).toNatClampNeg = x ∧ (gb n).toNatClampNeg = y ∧ hg x + 1 ≤ hg n ∧ hg y + 1 ≤ hg n ∧ (E x = true → E n = true) ∧ ¬ (E x = true ∧ E y = true) ∧
      ∃ a0 a1 b1 a2 a3 a5, cd (pc n) = (4, a0, 0) ∧ a0.toNatClampNeg = pc x ∧ cd (pc n + 1) = (9, a1, b1) ∧ a1.toNatClampNeg = 2 ∧ b1.toNatClampNeg = pc n + 6 ∧ cd (pc n + 2) = (4, a2, 0) ∧ a2.toNatClampNeg = pc y ∧ cd (pc n + 3) = (4, a3, 0) ∧ a3.toNatClampNeg = pc x ∧ cd (pc n + 4) = (8, 0, 0) ∧ cd (pc n + 5) = (12, a5, 0) ∧ a5.toNatClampNeg = pc n + 2 ∧ cd (pc n + 6) = (6, 0, 0)) ∨
   (kd n = 11 ∧ ∃ b, I b ∧ bd (ga n).toNatClampNeg = b ∧ (E b = true → E n = true) ∧ cd (pc n) = (5, ga n, 0) ∧ en (ga n).toNatClampNeg = pc b ∧ cd (pc n + 1) = (6, 0, 0)) ∨
   (kd n = 12 ∧ ∃ x, I x ∧ (ga n).toNatClampNeg = x ∧ hg x + 1 ≤ hg n ∧ (E x = true → E n = true) ∧
      ∃ a0, cd (pc n) = (4, a0, 0) ∧ a0.toNatClampNeg = pc x ∧ cd (pc n + 1) = (13, gb n, 0) ∧ cd (pc n + 2) = (6, 0, 0)) ∨
   (kd n = 13 ∧ E n = true ∧ cd (pc n) = (14, ga n, 0) ∧ cd (pc n + 1) = (6, 0, 0)))
/-- both machines come to one end at n -/
def Q_ (h n d : Nat) (ps : PS_) : Prop := ∃ (r : Nat) (v : Int32) (ps' : PS_) (k ow ns : Nat), CS_ cd en tx len pc hg n d ps r v ps' k ∧ RS_ kd ga gb gc bd tx len hg n d ps r v ps' ∧ PR_ E n h ps r ps' k ow ns
/-- and at a loop of n -/
def QL_ (h z L t y st n d sa : Nat) (acc : Int32) (ps : PS_) : Prop := ∃ (r : Nat) (v : Int32) (ps' : PS_) (k ow ns : Nat), CM_ cd en tx len hg L t n d acc ps r v ps' k ∧ RL_ kd ga gb gc bd tx len hg y st n d sa acc ps r v ps' ∧ PL_ h z 0 ps r ps' k ow ns
variable {cd en tx len pc hg kd ga gb gc bd E I}
theorem cs_any {n d r k : Nat} {ps ps' : PS_} {v w : Int32} (hr : r ≠ 1) (h : CS_ cd en tx len pc hg n d ps r v ps' k) : CS_ cd en tx len pc hg n d ps r w ps' k :=
  fun fr F As hF hA hd => ⟨fun e => absurd e hr, (h fr F As hF hA hd).2⟩
theorem rs_any {n d r : Nat} {ps ps' : PS_} {v w : Int32} (hr : r ≠ 1) (h : RS_ kd ga gb gc bd tx len hg n d ps r v ps') : RS_ kd ga gb gc bd tx len hg n d ps r w ps' := fun S gd vl hS hd => by
  obtain ⟨k, c', g, -, q⟩ := h S gd vl hS hd
  exact ⟨k, c', g, fun e => absurd e hr, q⟩
theorem be_s (h o : Nat) : be_ (h + 1) * o = be_ h * o + 2 * (al_ h * o) + 8 * o := by
  show (be_ h + 2 * al_ h + 8) * o = _
  rw [Nat.add_mul, Nat.add_mul, Nat.mul_assoc]
theorem kc_2 {h k1 k2 o1 o2 n1 n2 c : Nat} (h1 : k1 ≤ al_ h + be_ h * o1 + 6058 * n1) (h2 : k2 ≤ al_ h + be_ h * o2 + 6058 * n2) (hc : c ≤ 8) : k1 + k2 + c ≤ al_ (h + 1) + be_ (h + 1) * (o1 + o2) + 6058 * (n1 + n2) := by
  rw [be_s, Nat.mul_add, Nat.mul_add]
  show _ ≤ 2 * al_ h + 8 + _ + _
  omega
theorem kc_1 {h k1 o1 n1 c : Nat} (h1 : k1 ≤ al_ h + be_ h * o1 + 6058 * n1) (hc : c ≤ 8) : k1 + c ≤ al_ (h + 1) + be_ (h + 1) * o1 + 6058 * n1 := by
  rw [be_s]
  show _ ≤ 2 * al_ h + 8 + _ + _
  omega
theorem kc_0 {h c o n : Nat} (hc : c ≤ 8) : c ≤ al_ (h + 1) + be_ (h + 1) * o + 6058 * n := by
  show _ ≤ 2 * al_ h + 8 + _ + _
  omega
section LEAF
variable {h n d : Nat} {ps : PS_}
theorem q_pure (h1 : 1 ≤ hg n) (hk : kd n = 0) (hE : E n = true) (c0 : cd (pc n) = (1, ga n, 0)) (c1 : cd (pc n + 1) = (6, 0, 0)) (hl : ps.2.1 ≤ 1500) (hb : ps.2.2.2.1 ≤ 300) : Q_ cd en tx len pc hg kd ga gb gc bd E (h + 1) n d ps :=
  ⟨1, ga n, ps, 2, 0, 0, cs_pure c0 c1, rs_pure h1 hk, Or.inr (Or.inl rfl), rfl, hl, hb, fun _ => ⟨Nat.le_refl _, fun _ => hE, fun e => absurd rfl e⟩, kc_0 (by omega)⟩
theorem q_kept (h1 : 1 ≤ hg n) (hk : kd n = 13) (hE : E n = true) (c0 : cd (pc n) = (14, ga n, 0)) (c1 : cd (pc n + 1) = (6, 0, 0)) (hl : ps.2.1 ≤ 1500) (hb : ps.2.2.2.1 ≤ 300) : Q_ cd en tx len pc hg kd ga gb gc bd E (h + 1) n d ps :=
  ⟨1, _, ps, 2, 0, 0, cs_kept c0 c1, rs_kept h1 hk, Or.inr (Or.inl rfl), rfl, hl, hb, fun _ => ⟨Nat.le_refl _, fun _ => hE, fun e => absurd rfl e⟩, kc_0 (by omega)⟩
theorem q_none (h1 : 1 ≤ hg n) (hk : kd n = 3) (c0 : cd (pc n) = (3, 0, 0)) (hl : ps.2.1 ≤ 1500) (hb : ps.2.2.2.1 ≤ 300) : Q_ cd en tx len pc hg kd ga gb gc bd E (h + 1) n d ps :=
  ⟨0, 0, ps, 1, 0, 0, cs_none c0, rs_none h1 hk, Or.inl rfl, rfl, hl, hb, fun e => by omega, kc_0 (by omega)⟩
theorem q_look {hi : Int32} (h1 : 1 ≤ hg n) (hk : (kd n = 1 ∧ hi = ga n) ∨ (kd n = 2 ∧ hi = gb n)) (c0 : cd (pc n) = (2, ga n, hi)) (c1 : cd (pc n + 1) = (6, 0, 0)) (hl : ps.2.1 ≤ 1500) (hb : ps.2.2.2.1 ≤ 300) : Q_ cd en tx len pc hg kd ga gb gc bd E (h + 1) n d ps := by
  obtain ⟨q2, q1, q0⟩ := rs_look (kd := kd) (ga := ga) (gb := gb) (gc := gc) (bd := bd) (tx := tx) (len := len) (d := d) (ps := ps) h1 hk
  by_cases a : 1500 ≤ ps.2.1
  · exact ⟨2, 0, ps, 1, 0, 0, cs_look2 c0 a, q2 a, Or.inr (Or.inr rfl), rfl, hl, hb, fun e => by omega, kc_0 (by omega)⟩
  · by_cases b : lk_ tx len ps.1 (ga n) hi
    · exact ⟨1, _, _, 2, 1, 0, cs_look1 c0 c1 a b, q1 a b, Or.inr (Or.inl rfl), by simp; omega, by simp; omega, hb, fun _ => ⟨by simp, fun e => by simp at e, fun _ => Nat.le_refl _⟩, kc_0 (by omega)⟩
    · exact ⟨0, 0, _, 1, 1, 0, cs_look0 c0 a b, q0 a b, Or.inl rfl, by simp; omega, by simp; omega, hb, fun e => by omega, kc_0 (by omega)⟩
end LEAF
section NODE
variable {h n d Rm : Nat} {ps : PS_}
theorem q_then {x y : Nat} {a0 a1 : Int32} (hk : kd n = 4) (ex : (ga n).toNatClampNeg = x) (ey : (gb n).toNatClampNeg = y) (h1 : hg x + 1 ≤ hg n) (h2 : hg y + 1 ≤ hg n) (h3 : 1 ≤ hg x) (h4 : 1 ≤ hg y) (hE : E x = true → E y = true → E n = true)
    (c0 : cd (pc n) = (4, a0, 0)) (e0 : a0.toNatClampNeg = pc x) (c1 : cd (pc n + 1) = (4, a1, 0)) (e1 : a1.toNatClampNeg = pc y) (c2 : cd (pc n + 2) = (7, gc n, 0)) (c3 : cd (pc n + 3) = (6, 0, 0))
    (hx : Q_ cd en tx len pc hg kd ga gb gc bd E h x d ps) (hy : ∀ p1 : PS_, ps.2.1 + ps.2.2.2.1 ≤ p1.2.1 + p1.2.2.2.1 → p1.2.1 ≤ 1500 → p1.2.2.2.1 ≤ 300 → Q_ cd en tx len pc hg kd ga gb gc bd E h y d p1) : Q_ cd en tx len pc hg kd ga gb gc bd E (h + 1) n d ps := by
  obtain ⟨r1, v1, p1, k1, o1, n1, a, b, ⟨hr, hev, hl, hb, hs, hc⟩⟩ := hx
  rcases hr with rfl | rfl | rfl
  · refine ⟨0, 0, p1, 0 + (k1 + 1), o1, n1, cs_first0 (by omega) c0 e0 a h1 h3, rs_after0 (v2 := 0) (Or.inl hk) ex b h1 h3 (Or.inr ⟨rfl, fun S w => ⟨w, by simp [rs_, hk]⟩⟩), Or.inl rfl, hev, hl, hb, fun e => by omega, ?_⟩
    rw [Nat.zero_add]; exact kc_1 hc (by omega)
  · obtain ⟨s1, s2, s3⟩ := hs rfl
    obtain ⟨r2, v2, p2, k2, o2, n2, a', b', ⟨hr', hev', hl', hb', hs', hc'⟩⟩ := hy p1 (by omega) hl hb
    rcases hr' with rfl | rfl | rfl
    · refine ⟨0, 0, p2, k1 + 1 + (k2 + 1), o1 + o2, n1 + n2, cs_then0 (by omega) c0 c1 e0 e1 a a' h1 h2 h3 h4, rs_then hk ex ey b b' h1 h2 h3 h4 (Or.inr (Or.inl ⟨rfl, rfl⟩)), Or.inl rfl, by omega, hl', hb', fun e => by omega, ?_⟩
      have := kc_2 hc hc' (c := 2) (by omega); omega
    · obtain ⟨t1, t2, t3⟩ := hs' rfl
      refine ⟨1, _, p2, k1 + k2 + 4, o1 + o2, n1 + n2, cs_then1 c0 c1 c2 c3 e0 e1 a a' h1 h2 h3 h4, rs_then hk ex ey b b' h1 h2 h3 h4 (Or.inl ⟨rfl, rfl, rfl⟩), Or.inr (Or.inl rfl), by omega, hl', hb', fun _ => ⟨by omega, fun e => hE (s2 (by omega)) (t2 (by omega)), fun e => ?_⟩, kc_2 hc hc' (by omega)⟩
      by_cases q : p1.1 = ps.1
      · have := t3 (by omega); omega
      · have := s3 q; omega
    · refine ⟨2, 0, p2, k1 + 1 + (k2 + 1), o1 + o2, n1 + n2, cs_then0 (by omega) c0 c1 e0 e1 a a' h1 h2 h3 h4, rs_then hk ex ey b b' h1 h2 h3 h4 (Or.inr (Or.inr ⟨rfl, rfl⟩)), Or.inr (Or.inr rfl), by omega, hl', hb', fun e => by omega, ?_⟩
      have := kc_2 hc hc' (c := 2) (by omega); omega
  · refine ⟨2, 0, p1, 0 + (k1 + 1), o1, n1, cs_first0 (by omega) c0 e0 a h1 h3, rs_first2 (Or.inl hk) ex b h1 h3, Or.inr (Or.inr rfl), hev, hl, hb, fun e => by omega, ?_⟩
    rw [Nat.zero_add]; exact kc_1 hc (by omega)
theorem q_or {x y : Nat} {a0 b0 a1 a4 : Int32} (hk : kd n = 5) (ex : (ga n).toNatClampNeg = x) (ey : (gb n).toNatClampNeg = y) (h1 : hg x + 1 ≤ hg n) (h2 : hg y + 1 ≤ hg n) (h3 : 1 ≤ hg x) (h4 : 1 ≤ hg y) (hEx : E x = true → E n = true) (hEy : E y = true → E n = true)
    (c0 : cd (pc n) = (9, a0, b0)) (e0 : a0.toNatClampNeg = 2) (f0 : b0.toNatClampNeg = pc n + 4) (c1 : cd (pc n + 1) = (4, a1, 0)) (e1 : a1.toNatClampNeg = pc x) (c2 : cd (pc n + 2) = (10, 0, 0)) (c3 : cd (pc n + 3) = (6, 0, 0)) (c4 : cd (pc n + 4) = (4, a4, 0)) (e4 : a4.toNatClampNeg = pc y) (c5 : cd (pc n + 5) = (6, 0, 0))
    (hx : Q_ cd en tx len pc hg kd ga gb gc bd E h x d ps) (hy : ∀ p1 : PS_, ps.2.1 + ps.2.2.2.1 ≤ p1.2.1 + p1.2.2.2.1 → p1.2.1 ≤ 1500 → p1.2.2.2.1 ≤ 300 → Q_ cd en tx len pc hg kd ga gb gc bd E h y d p1) : Q_ cd en tx len pc hg kd ga gb gc bd E (h + 1) n d ps := by
  obtain ⟨r1, v1, p1, k1, o1, n1, a, b, ⟨hr, hev, hl, hb, hs, hc⟩⟩ := hx
  rcases hr with rfl | rfl | rfl
  · by_cases q : p1.1 = ps.1
    · obtain ⟨r2, v2, p2, k2, o2, n2, a', b', ⟨hr', hev', hl', hb', hs', hc'⟩⟩ := hy p1 (by omega) hl hb
      by_cases q2 : r2 = 1
      · subst q2
        obtain ⟨t1, t2, t3⟩ := hs' rfl
        exact ⟨1, v2, p2, k1 + k2 + 4, o1 + o2, n1 + n2, cs_or21 c0 c1 c4 c5 e0 f0 e1 e4 q a a' h1 h2 h3 h4, rs_or2 hk ex ey q b b' h1 h2 h3 h4 hr', hr', by omega, hl', hb', fun _ => ⟨by omega, fun e => hEy (t2 (by omega)), fun e => by have := t3 (by omega); omega⟩, kc_2 hc hc' (by omega)⟩
      · refine ⟨r2, 0, p2, k1 + 2 + (k2 + 1), o1 + o2, n1 + n2, cs_or20 q2 c0 c1 c4 e0 f0 e1 e4 q a a' h1 h2 h3 h4, rs_any q2 (rs_or2 hk ex ey q b b' h1 h2 h3 h4 hr'), hr', by omega, hl', hb', fun e => absurd e q2, ?_⟩
        have := kc_2 hc hc' (c := 3) (by omega); omega
    · exact ⟨0, 0, p1, k1 + 2, o1, n1, cs_or0 c0 c1 e0 e1 q a h1 h3, rs_after0 (v2 := 0) (Or.inr (Or.inl hk)) ex b h1 h3 (Or.inr ⟨rfl, fun S w => ⟨w, by simp [rs_, hk, q]⟩⟩), Or.inl rfl, hev, hl, hb, fun e => by omega, kc_1 hc (by omega)⟩
  · obtain ⟨s1, s2, s3⟩ := hs rfl
    exact ⟨1, v1, p1, k1 + 4, o1, n1, cs_or1 c0 c1 c2 c3 e1 a h1 h3, rs_after1 (Or.inr (Or.inl hk)) ex b h1 h3 (Or.inl ⟨rfl, fun S => by simp [rs_, hk]⟩), Or.inr (Or.inl rfl), hev, hl, hb, fun _ => ⟨s1, fun e => hEx (s2 e), s3⟩, kc_1 hc (by omega)⟩
  · exact ⟨2, 0, p1, k1 + 2, o1, n1, cs_guard2 c0 c1 e1 a h1 h3, rs_first2 (Or.inr (Or.inl hk)) ex b h1 h3, Or.inr (Or.inr rfl), hev, hl, hb, fun e => by omega, kc_1 hc (by omega)⟩
theorem q_try {x : Nat} {a0 b0 a1 : Int32} (hk : kd n = 6) (ex : (ga n).toNatClampNeg = x) (h1 : hg x + 1 ≤ hg n) (h3 : 1 ≤ hg x) (hEx : E x = true → E n = true)
    (c0 : cd (pc n) = (9, a0, b0)) (e0 : a0.toNatClampNeg = 3) (c1 : cd (pc n + 1) = (4, a1, 0)) (e1 : a1.toNatClampNeg = pc x) (c2 : cd (pc n + 2) = (10, 0, 0)) (c3 : cd (pc n + 3) = (6, 0, 0))
    (hx : Q_ cd en tx len pc hg kd ga gb gc bd E h x d ps) : Q_ cd en tx len pc hg kd ga gb gc bd E (h + 1) n d ps := by
  obtain ⟨r1, v1, p1, k1, o1, n1, a, b, ⟨hr, hev, hl, hb, hs, hc⟩⟩ := hx
  rcases hr with rfl | rfl | rfl
  · exact ⟨0, 0, (ps.1, p1.2), k1 + 2, o1, n1, cs_try0 c0 c1 e0 e1 a h1 h3, rs_after0 (v2 := 0) (by omega) ex b h1 h3 (Or.inr ⟨rfl, fun S w => ⟨w, by simp [rs_, hk]⟩⟩), Or.inl rfl, hev, hl, hb, fun e => by omega, kc_1 hc (by omega)⟩
  · obtain ⟨s1, s2, s3⟩ := hs rfl
    exact ⟨1, v1, p1, k1 + 4, o1, n1, cs_try1 c0 c1 c2 c3 e1 a h1 h3, rs_after1 (by omega) ex b h1 h3 (Or.inl ⟨rfl, fun S => by simp [rs_, hk]⟩), Or.inr (Or.inl rfl), hev, hl, hb, fun _ => ⟨s1, fun e => hEx (s2 e), s3⟩, kc_1 hc (by omega)⟩
  · exact ⟨2, 0, p1, k1 + 2, o1, n1, cs_guard2 c0 c1 e1 a h1 h3, rs_first2 (by omega) ex b h1 h3, Or.inr (Or.inr rfl), hev, hl, hb, fun e => by omega, kc_1 hc (by omega)⟩
theorem q_lookx {x : Nat} {a0 b0 a1 : Int32} (hk : kd n = 7) (hE : E n = true) (ex : (ga n).toNatClampNeg = x) (h1 : hg x + 1 ≤ hg n) (h3 : 1 ≤ hg x)
    (c0 : cd (pc n) = (9, a0, b0)) (e0 : a0.toNatClampNeg = 4) (c1 : cd (pc n + 1) = (4, a1, 0)) (e1 : a1.toNatClampNeg = pc x) (c2 : cd (pc n + 2) = (11, 0, 0)) (c3 : cd (pc n + 3) = (6, 0, 0))
    (hx : Q_ cd en tx len pc hg kd ga gb gc bd E h x d ps) : Q_ cd en tx len pc hg kd ga gb gc bd E (h + 1) n d ps := by
  obtain ⟨r1, v1, p1, k1, o1, n1, a, b, ⟨hr, hev, hl, hb, hs, hc⟩⟩ := hx
  rcases hr with rfl | rfl | rfl
  · exact ⟨0, 0, p1, k1 + 2, o1, n1, cs_look_0 c0 c1 e0 e1 a h1 h3, rs_after0 (v2 := 0) (by omega) ex b h1 h3 (Or.inr ⟨rfl, fun S w => ⟨w, by simp [rs_, hk]⟩⟩), Or.inl rfl, hev, hl, hb, fun e => by omega, kc_1 hc (by omega)⟩
  · exact ⟨1, v1, (ps.1, p1.2), k1 + 4, o1, n1, cs_look_1 c0 c1 c2 c3 e1 a h1 h3, rs_after1 (by omega) ex b h1 h3 (Or.inl ⟨rfl, fun S => by simp [rs_, hk]⟩), Or.inr (Or.inl rfl), hev, hl, hb, fun _ => ⟨Nat.le_refl _, fun _ => hE, fun e => absurd rfl e⟩, kc_1 hc (by omega)⟩
  · exact ⟨2, 0, p1, k1 + 2, o1, n1, cs_guard2 c0 c1 e1 a h1 h3, rs_first2 (by omega) ex b h1 h3, Or.inr (Or.inr rfl), hev, hl, hb, fun e => by omega, kc_1 hc (by omega)⟩
theorem q_not {x : Nat} {a0 b0 a1 : Int32} (hk : kd n = 8) (hE : E n = true) (ex : (ga n).toNatClampNeg = x) (h1 : hg x + 1 ≤ hg n) (h3 : 1 ≤ hg x)
    (c0 : cd (pc n) = (9, a0, b0)) (e0 : a0.toNatClampNeg = 5) (f0 : b0.toNatClampNeg = pc n + 4) (c1 : cd (pc n + 1) = (4, a1, 0)) (e1 : a1.toNatClampNeg = pc x) (c2 : cd (pc n + 2) = (11, 0, 0)) (c3 : cd (pc n + 3) = (3, 0, 0)) (c4 : cd (pc n + 4) = (1, 0, 0)) (c5 : cd (pc n + 5) = (6, 0, 0))
    (hx : Q_ cd en tx len pc hg kd ga gb gc bd E h x d ps) : Q_ cd en tx len pc hg kd ga gb gc bd E (h + 1) n d ps := by
  obtain ⟨r1, v1, p1, k1, o1, n1, a, b, ⟨hr, hev, hl, hb, hs, hc⟩⟩ := hx
  rcases hr with rfl | rfl | rfl
  · exact ⟨1, 0, (ps.1, p1.2), k1 + 4, o1, n1, cs_not0 c0 c1 c4 c5 e0 f0 e1 a h1 h3, rs_after0 (by omega) ex b h1 h3 (Or.inl ⟨rfl, fun S w => by simp [rs_, hk]⟩), Or.inr (Or.inl rfl), hev, hl, hb, fun _ => ⟨Nat.le_refl _, fun _ => hE, fun e => absurd rfl e⟩, kc_1 hc (by omega)⟩
  · exact ⟨0, 0, (ps.1, p1.2), k1 + 4, o1, n1, cs_not1 c0 c1 c2 c3 e1 a h1 h3, rs_after1 (v2 := 0) (by omega) ex b h1 h3 (Or.inr ⟨rfl, fun S => ⟨v1, by simp [rs_, hk]⟩⟩), Or.inl rfl, hev, hl, hb, fun e => by omega, kc_1 hc (by omega)⟩
  · exact ⟨2, 0, p1, k1 + 2, o1, n1, cs_guard2 c0 c1 e1 a h1 h3, rs_first2 (by omega) ex b h1 h3, Or.inr (Or.inr rfl), hev, hl, hb, fun e => by omega, kc_1 hc (by omega)⟩
theorem q_keep {x : Nat} {a0 : Int32} (hk : kd n = 12) (ex : (ga n).toNatClampNeg = x) (h1 : hg x + 1 ≤ hg n) (h3 : 1 ≤ hg x) (hEx : E x = true → E n = true)
    (c0 : cd (pc n) = (4, a0, 0)) (e0 : a0.toNatClampNeg = pc x) (c1 : cd (pc n + 1) = (13, gb n, 0)) (c2 : cd (pc n + 2) = (6, 0, 0))
    (hx : Q_ cd en tx len pc hg kd ga gb gc bd E h x d ps) : Q_ cd en tx len pc hg kd ga gb gc bd E (h + 1) n d ps := by
  obtain ⟨r1, v1, p1, k1, o1, n1, a, b, ⟨hr, hev, hl, hb, hs, hc⟩⟩ := hx
  rcases hr with rfl | rfl | rfl
  · refine ⟨0, 0, p1, 0 + (k1 + 1), o1, n1, cs_first0 (by omega) c0 e0 a h1 h3, rs_after0 (v2 := 0) (by omega) ex b h1 h3 (Or.inr ⟨rfl, fun S w => ⟨w, by simp [rs_, hk]⟩⟩), Or.inl rfl, hev, hl, hb, fun e => by omega, ?_⟩
    rw [Nat.zero_add]; exact kc_1 hc (by omega)
  · obtain ⟨s1, s2, s3⟩ := hs rfl
    exact ⟨1, v1, _, k1 + 3, o1, n1, cs_keep c0 c1 c2 e0 a h1 h3, rs_after1 (by omega) ex b h1 h3 (Or.inl ⟨rfl, fun S => by simp [rs_, hk]⟩), Or.inr (Or.inl rfl), hev, hl, hb, fun _ => ⟨s1, fun e => hEx (s2 e), s3⟩, kc_1 hc (by omega)⟩
  · refine ⟨2, 0, p1, 0 + (k1 + 1), o1, n1, cs_first0 (by omega) c0 e0 a h1 h3, rs_first2 (by omega) ex b h1 h3, Or.inr (Or.inr rfl), hev, hl, hb, fun e => by omega, ?_⟩
    rw [Nat.zero_add]; exact kc_1 hc (by omega)
theorem q_rule {b : Nat} (hk : kd n = 11) (h1 : 1 ≤ hg n) (eb : bd (ga n).toNatClampNeg = b) (hb8 : hg b ≤ 8) (hEb : E b = true → E n = true) (c0 : cd (pc n) = (5, ga n, 0)) (e0 : en (ga n).toNatClampNeg = pc b) (c1 : cd (pc n + 1) = (6, 0, 0)) (hl : ps.2.1 ≤ 1500) (hb : ps.2.2.2.1 ≤ 300)
    (hx : ¬ (40 ≤ d ∨ 300 ≤ ps.2.2.2.1) → Q_ cd en tx len pc hg kd ga gb gc bd E 8 b (d + 1) (ps.1, ps.2.1, ps.2.2.1, ps.2.2.2.1 + 1, ps.2.2.2.2)) : Q_ cd en tx len pc hg kd ga gb gc bd E (h + 1) n d ps := by
  by_cases q : 40 ≤ d ∨ 300 ≤ ps.2.2.2.1
  · exact ⟨2, 0, ps, 1, 0, 0, cs_rule2 c0 q, rs_rule2 h1 hk q, Or.inr (Or.inr rfl), rfl, hl, hb, fun e => by omega, kc_0 (by omega)⟩
  · obtain ⟨r1, v1, p1, k1, o1, n1, a, b', ⟨hr, hev, hl', hb', hs, hc⟩⟩ := hx q
    have hC := cs_rule c0 c1 e0 q hb8 a
    have hR := rs_rule h1 hk eb q hb8 b' hr
    have hcost : k1 + 2 ≤ al_ (h + 1) + be_ (h + 1) * 1 + 6058 * (o1 + n1) := by
      have g1 := be_ge (h + 1)
      have g2 := be_8 8 (by omega)
      have g3 : be_ 8 * o1 ≤ 6058 * o1 := Nat.mul_le_mul_right _ g2.1
      omega
    simp only at hev
    rcases hr with rfl | rfl | rfl
    · exact ⟨0, 0, p1, k1 + 1, 1, o1 + n1, hC.2.1 rfl, rs_any (by omega) hR, Or.inl rfl, by omega, hl', hb', fun e => by omega, by omega⟩
    · obtain ⟨s1, s2, s3⟩ := hs rfl
      exact ⟨1, v1, p1, k1 + 2, 1, o1 + n1, hC.1 rfl, hR, Or.inr (Or.inl rfl), by omega, hl', hb', fun _ => ⟨s1, fun e => hEb (s2 e), fun _ => Nat.le_refl _⟩, hcost⟩
    · exact ⟨2, 0, p1, k1 + 1, 1, o1 + n1, hC.2.2 rfl, rs_any (by omega) hR, Or.inr (Or.inr rfl), by omega, hl', hb', fun e => by omega, by omega⟩
theorem pl_e (h o : Nat) : (be_ h + 2 * al_ h + 4) * o = be_ h * o + 2 * (al_ h * o) + 4 * o := by
  rw [Nat.add_mul, Nat.add_mul, Nat.mul_assoc]
theorem al_m {h o : Nat} (ho : 1 ≤ o) : al_ h ≤ al_ h * o := Nat.le_mul_of_pos_right _ ho
theorem q_manyL {x L t e0 : Nat} {a2 a4 a9 b9 : Int32} (hk : kd n = 9) (ex : (ga n).toNatClampNeg = x) (h1 : hg x + 1 ≤ hg n) (h3 : 1 ≤ hg x) (hE : E x = false)
    (c0 : cd L = (4, a2, 0)) (ec : a2.toNatClampNeg = pc x) (c1 : cd (L + 1) = (7, gb n, 0)) (c2 : cd (L + 2) = (12, a4, 0)) (e2 : a4.toNatClampNeg = L) (c9 : cd t = (6, a9, b9))
    (hx : ∀ p1 : PS_, e0 ≤ p1.2.1 + p1.2.2.2.1 → p1.2.1 ≤ 1500 → p1.2.2.2.1 ≤ 300 → Q_ cd en tx len pc hg kd ga gb gc bd E h x d p1) :
    ∀ (R sa : Nat) (acc : Int32) (ps : PS_), e0 ≤ ps.2.1 + ps.2.2.2.1 → 1800 ≤ ps.2.1 + ps.2.2.2.1 + R → ps.2.1 ≤ 1500 → ps.2.2.2.1 ≤ 300 → QL_ cd en tx len hg kd ga gb gc bd h 0 L t x 1 n d sa acc ps := by
  intro R
  induction R with
  | zero =>
    intro sa acc ps he hR hl hb
    obtain ⟨r1, v1, p1, k1, o1, n1, a, b, ⟨hr, hev, hl', hb', hs, hc⟩⟩ := hx ps he hl hb
    have hr1 : r1 ≠ 1 := by
      rintro rfl
      obtain ⟨s1, s2, s3⟩ := hs rfl
      by_cases q : p1.1 = ps.1
      · rw [s2 q] at hE; cases hE
      · have := s3 q; omega
    obtain ⟨m1, m0, m2⟩ := cm_last1 (acc := acc) hr1 c0 c9 ec a h1 h3
    obtain ⟨w1, w0, w2⟩ := rl_many_last (sa := sa) (acc := acc) hk hr1 b h1 h3
    have hcost : 0 + (k1 + 1) + 1 ≤ al_ h + al_ h * 0 + 3 + (be_ h + 2 * al_ h + 4) * o1 + 6058 * n1 := by rw [pl_e]; omega
    rcases hr with rfl | rfl | rfl
    · by_cases q : p1.1 = ps.1
      · exact ⟨1, acc, p1, _, o1, n1, m1 rfl q, w1 rfl q, Or.inr (Or.inl rfl), hev, hl', hb', fun _ => ⟨by omega, fun e => absurd q e⟩, hcost⟩
      · exact ⟨0, 0, p1, _, o1, n1, m0 rfl q, w0 rfl q, Or.inl rfl, hev, hl', hb', fun e => by omega, by omega⟩
    · exact absurd rfl hr1
    · exact ⟨2, 0, p1, _, o1, n1, m2 rfl, w2 rfl, Or.inr (Or.inr rfl), hev, hl', hb', fun e => by omega, by omega⟩
  | succ R ih =>
    intro sa acc ps he hR hl hb
    obtain ⟨r1, v1, p1, k1, o1, n1, a, b, ⟨hr, hev, hl', hb', hs, hc⟩⟩ := hx ps he hl hb
    by_cases hr1 : r1 = 1
    · subst hr1
      obtain ⟨s1, s2, s3⟩ := hs rfl
      have ho : 1 ≤ o1 := s3 (fun q => by rw [s2 q] at hE; cases hE)
      obtain ⟨r2, v2, p2, k2, o2, n2, m, w, ⟨hr', hev', hl2, hb2, hs', hc'⟩⟩ := ih sa (jn_ (gb n) acc v1) p1 (by omega) (by omega) hl' hb'
      refine ⟨r2, v2, p2, k1 + 3 + k2, o1 + o2, n1 + n2, cm_many c0 c1 c2 ec e2 a h1 h3 m, rl_many hk ex b h1 h3 w, hr', by omega, hl2, hb2, fun e => ?_, ?_⟩
      · obtain ⟨t1, t2⟩ := hs' e
        exact ⟨by omega, fun _ => by omega⟩
      · rw [pl_e] at hc' ⊢
        rw [Nat.mul_add, Nat.mul_add]
        have := al_m (h := h) ho
        omega
    · obtain ⟨m1, m0, m2⟩ := cm_last1 (acc := acc) hr1 c0 c9 ec a h1 h3
      obtain ⟨w1, w0, w2⟩ := rl_many_last (sa := sa) (acc := acc) hk hr1 b h1 h3
      have hcost : 0 + (k1 + 1) + 1 ≤ al_ h + al_ h * 0 + 3 + (be_ h + 2 * al_ h + 4) * o1 + 6058 * n1 := by rw [pl_e]; omega
      rcases hr with rfl | rfl | rfl
      · by_cases q : p1.1 = ps.1
        · exact ⟨1, acc, p1, _, o1, n1, m1 rfl q, w1 rfl q, Or.inr (Or.inl rfl), hev, hl', hb', fun _ => ⟨by omega, fun e => absurd q e⟩, hcost⟩
        · exact ⟨0, 0, p1, _, o1, n1, m0 rfl q, w0 rfl q, Or.inl rfl, hev, hl', hb', fun e => by omega, by omega⟩
      · exact absurd rfl hr1
      · exact ⟨2, 0, p1, _, o1, n1, m2 rfl, w2 rfl, Or.inr (Or.inr rfl), hev, hl', hb', fun e => by omega, by omega⟩
theorem q_many {x : Nat} {a1 b1 a2 a4 : Int32} (hn : 1 ≤ hg n) (hk : kd n = 9) (hEn : E n = true) (ex : (ga n).toNatClampNeg = x) (h1 : hg x + 1 ≤ hg n) (h3 : 1 ≤ hg x) (hE : E x = false)
    (c0 : cd (pc n) = (1, 0, 0)) (c1 : cd (pc n + 1) = (9, a1, b1)) (e1 : a1.toNatClampNeg = 2) (f1 : b1.toNatClampNeg = pc n + 5) (c2 : cd (pc n + 2) = (4, a2, 0)) (e2 : a2.toNatClampNeg = pc x) (c3 : cd (pc n + 3) = (7, gb n, 0)) (c4 : cd (pc n + 4) = (12, a4, 0)) (e4 : a4.toNatClampNeg = pc n + 2) (c5 : cd (pc n + 5) = (6, 0, 0))
    (hl : ps.2.1 ≤ 1500) (hb : ps.2.2.2.1 ≤ 300) (hx : ∀ p1 : PS_, ps.2.1 + ps.2.2.2.1 ≤ p1.2.1 + p1.2.2.2.1 → p1.2.1 ≤ 1500 → p1.2.2.2.1 ≤ 300 → Q_ cd en tx len pc hg kd ga gb gc bd E h x d p1) : Q_ cd en tx len pc hg kd ga gb gc bd E (h + 1) n d ps := by
  obtain ⟨r, v, p, k, ow, ns, m, w, ⟨hr, hev, hl', hb', hs, hc⟩⟩ := q_manyL (L := pc n + 2) (t := pc n + 5) (h := h) (d := d) hk ex h1 h3 hE c2 e2 c3 c4 e4 c5 hx 1800 ps.1 0 ps (Nat.le_refl _) (by omega) hl hb
  refine ⟨r, v, p, 1 + 1 + k, ow, ns, cs_many c0 c1 e1 f1 rfl m, rs_many hk ex hn w, hr, hev, hl', hb', fun e => ?_, ?_⟩
  · obtain ⟨t1, t2⟩ := hs e
    exact ⟨t1, fun _ => hEn, t2⟩
  · rw [pl_e] at hc
    rw [be_s]
    show _ ≤ 2 * al_ h + 8 + _ + _
    omega
theorem q_chainL {x y L t e0 : Nat} {a2 a3 a5 a9 b9 : Int32} (hk : kd n = 10) (ex : (ga n).toNatClampNeg = x) (ey : (gb n).toNatClampNeg = y) (h1 : hg x + 1 ≤ hg n) (h2 : hg y + 1 ≤ hg n) (h3 : 1 ≤ hg x) (h4 : 1 ≤ hg y) (hE : ¬ (E x = true ∧ E y = true))
    (c0 : cd L = (4, a2, 0)) (f0 : a2.toNatClampNeg = pc y) (c1 : cd (L + 1) = (4, a3, 0)) (f1 : a3.toNatClampNeg = pc x) (c2 : cd (L + 2) = (8, 0, 0)) (c3 : cd (L + 3) = (12, a5, 0)) (f3 : a5.toNatClampNeg = L) (c9 : cd t = (6, a9, b9))
    (hx : ∀ p1 : PS_, e0 ≤ p1.2.1 + p1.2.2.2.1 → p1.2.1 ≤ 1500 → p1.2.2.2.1 ≤ 300 → Q_ cd en tx len pc hg kd ga gb gc bd E h x d p1) (hy : ∀ p1 : PS_, e0 ≤ p1.2.1 + p1.2.2.2.1 → p1.2.1 ≤ 1500 → p1.2.2.2.1 ≤ 300 → Q_ cd en tx len pc hg kd ga gb gc bd E h y d p1) :
    ∀ (R sa : Nat) (acc : Int32) (ps : PS_), e0 ≤ ps.2.1 + ps.2.2.2.1 → 1800 ≤ ps.2.1 + ps.2.2.2.1 + R → ps.2.1 ≤ 1500 → ps.2.2.2.1 ≤ 300 → QL_ cd en tx len hg kd ga gb gc bd h (E y).toNat L t y 2 n d sa acc ps := by
  intro R
  induction R using Nat.strongRecOn with
  | _ R ih =>
    intro sa acc ps he hR hl hb
    obtain ⟨r1, v1, p1, k1, o1, n1, a, b, ⟨hr, hev, hl1, hb1, hs, hc⟩⟩ := hy ps he hl hb
    by_cases hr1 : r1 = 1
    · subst hr1
      obtain ⟨s1, s2, s3⟩ := hs rfl
      obtain ⟨r2, v2, p2, k2, o2, n2, a', b', ⟨hr', hev', hl2, hb2, hs', hc'⟩⟩ := hx p1 (by omega) hl1 hb1
      by_cases hr2 : r2 = 1
      · subst hr2
        obtain ⟨t1, t2, t3⟩ := hs' rfl
        have ho : 1 ≤ o1 + o2 := by
          by_cases q : p1.1 = ps.1
          · by_cases q2 : p2.1 = p1.1
            · exact absurd ⟨t2 q2, s2 q⟩ hE
            · have := t3 q2; omega
          · have := s3 q; omega
        obtain ⟨r3, v3, p3, k3, o3, n3, m, w, ⟨hr3, hev3, hl3, hb3, hs3, hc3⟩⟩ := ih (R - 1) (by omega) sa (jn_ (wy_ v1) acc v2) p2 (by omega) (by omega) hl2 hb2
        refine ⟨r3, v3, p3, k1 + k2 + 4 + k3, o1 + o2 + o3, n1 + n2 + n3, cm_chain c0 c1 c2 c3 f0 f1 f3 a a' h1 h2 h3 h4 m, rl_chain hk ex ey b b' h1 h2 h3 h4 w, hr3, by omega, hl3, hb3, fun e => ?_, ?_⟩
        · obtain ⟨z1, z2⟩ := hs3 e
          exact ⟨by omega, fun _ => by omega⟩
        · rw [pl_e] at hc3 ⊢
          rw [Nat.mul_add (be_ h), Nat.mul_add (be_ h), Nat.mul_add (al_ h)]
          have := al_m (h := h) ho
          omega
      · obtain ⟨m1, m0, m2⟩ := cm_last2 (acc := acc) hr2 c0 c1 c9 f0 f1 a a' h1 h2 h3 h4
        obtain ⟨w1, w0, w2⟩ := rl_chain_last2 (sa := sa) (acc := acc) hk ex hr2 b b' h1 h2 h3 h4
        have hcost : k1 + 1 + (k2 + 1) + 1 ≤ al_ h + al_ h * (E y).toNat + 3 + (be_ h + 2 * al_ h + 4) * (o1 + o2) + 6058 * (n1 + n2) := by
          rw [pl_e, Nat.mul_add (be_ h)]
          by_cases ho : 1 ≤ o1 + o2
          · have := al_m (h := h) ho
            omega
          · have hEy : E y = true := s2 (by
              apply Classical.byContradiction
              intro q
              have := s3 q
              omega)
            rw [hEy, show true.toNat = 1 from rfl]
            omega
        rcases hr' with rfl | rfl | rfl
        · by_cases q : p2.1 = ps.1
          · exact ⟨1, acc, p2, _, o1 + o2, n1 + n2, m1 rfl q, w1 rfl q, Or.inr (Or.inl rfl), by omega, hl2, hb2, fun _ => ⟨by omega, fun e => absurd q e⟩, hcost⟩
          · exact ⟨0, 0, p2, _, o1 + o2, n1 + n2, m0 rfl q, w0 rfl q, Or.inl rfl, by omega, hl2, hb2, fun e => by omega, by omega⟩
        · exact absurd rfl hr2
        · exact ⟨2, 0, p2, _, o1 + o2, n1 + n2, m2 rfl, w2 rfl, Or.inr (Or.inr rfl), by omega, hl2, hb2, fun e => by omega, by omega⟩
    · obtain ⟨m1, m0, m2⟩ := cm_last1 (acc := acc) hr1 c0 c9 f0 a h2 h4
      obtain ⟨w1, w0, w2⟩ := rl_chain_last1 (sa := sa) (acc := acc) hk hr1 b h2 h4
      have hcost : 0 + (k1 + 1) + 1 ≤ al_ h + al_ h * (E y).toNat + 3 + (be_ h + 2 * al_ h + 4) * o1 + 6058 * n1 := by rw [pl_e]; omega
      rcases hr with rfl | rfl | rfl
      · by_cases q : p1.1 = ps.1
        · exact ⟨1, acc, p1, _, o1, n1, m1 rfl q, w1 rfl q, Or.inr (Or.inl rfl), hev, hl1, hb1, fun _ => ⟨by omega, fun e => absurd q e⟩, hcost⟩
        · exact ⟨0, 0, p1, _, o1, n1, m0 rfl q, w0 rfl q, Or.inl rfl, hev, hl1, hb1, fun e => by omega, by omega⟩
      · exact absurd rfl hr1
      · exact ⟨2, 0, p1, _, o1, n1, m2 rfl, w2 rfl, Or.inr (Or.inr rfl), hev, hl1, hb1, fun e => by omega, by omega⟩
theorem q_chain {x y : Nat} {a0 a1 b1 a2 a3 a5 : Int32} (hk : kd n = 10) (ex : (ga n).toNatClampNeg = x) (ey : (gb n).toNatClampNeg = y) (h1 : hg x + 1 ≤ hg n) (h2 : hg y + 1 ≤ hg n) (h3 : 1 ≤ hg x) (h4 : 1 ≤ hg y) (hEx : E x = true → E n = true) (hE : ¬ (E x = true ∧ E y = true))
    (c0 : cd (pc n) = (4, a0, 0)) (f0 : a0.toNatClampNeg = pc x) (c1 : cd (pc n + 1) = (9, a1, b1)) (e1 : a1.toNatClampNeg = 2) (f1 : b1.toNatClampNeg = pc n + 6) (c2 : cd (pc n + 2) = (4, a2, 0)) (f2 : a2.toNatClampNeg = pc y) (c3 : cd (pc n + 3) = (4, a3, 0)) (f3 : a3.toNatClampNeg = pc x) (c4 : cd (pc n + 4) = (8, 0, 0)) (c5 : cd (pc n + 5) = (12, a5, 0)) (f5 : a5.toNatClampNeg = pc n + 2) (c6 : cd (pc n + 6) = (6, 0, 0))
    (hl : ps.2.1 ≤ 1500) (hb : ps.2.2.2.1 ≤ 300) (hx : ∀ p1 : PS_, ps.2.1 + ps.2.2.2.1 ≤ p1.2.1 + p1.2.2.2.1 → p1.2.1 ≤ 1500 → p1.2.2.2.1 ≤ 300 → Q_ cd en tx len pc hg kd ga gb gc bd E h x d p1) (hy : ∀ p1 : PS_, ps.2.1 + ps.2.2.2.1 ≤ p1.2.1 + p1.2.2.2.1 → p1.2.1 ≤ 1500 → p1.2.2.2.1 ≤ 300 → Q_ cd en tx len pc hg kd ga gb gc bd E h y d p1) : Q_ cd en tx len pc hg kd ga gb gc bd E (h + 1) n d ps := by
  obtain ⟨r0, v0, p0, k0, o0, n0, a, b, ⟨hr, hev, hl0, hb0, hs, hc⟩⟩ := hx ps (Nat.le_refl _) hl hb
  rcases hr with rfl | rfl | rfl
  · refine ⟨0, 0, p0, 0 + (k0 + 1), o0, n0, cs_first0 (by omega) c0 f0 a h1 h3, rs_after0 (v2 := 0) (by omega) ex b h1 h3 (Or.inr ⟨rfl, fun S w => ⟨w, by simp [rs_, hk]⟩⟩), Or.inl rfl, hev, hl0, hb0, fun e => by omega, ?_⟩
    rw [Nat.zero_add]; exact kc_1 hc (by omega)
  · obtain ⟨s1, s2, s3⟩ := hs rfl
    obtain ⟨r, v, p, k, ow, ns, m, w, ⟨hr', hev', hl', hb', hs', hc'⟩⟩ := q_chainL (L := pc n + 2) (t := pc n + 6) (h := h) (d := d) hk ex ey h1 h2 h3 h4 hE c2 f2 c3 f3 c4 c5 f5 c6 hx hy 1800 ps.1 v0 p0 (by omega) (by omega) hl0 hb0
    refine ⟨r, v, p, k0 + 1 + 1 + k, o0 + ow, n0 + ns, cs_chain c0 c1 f0 e1 f1 rfl a h1 h3 m, rs_chain hk ex ey b h1 h3 w, hr', by omega, hl', hb', fun e => ?_, ?_⟩
    · obtain ⟨t1, t2⟩ := hs' e
      refine ⟨by omega, fun e => hEx (s2 (by omega)), fun e => ?_⟩
      by_cases q : p0.1 = ps.1
      · have := t2 (by omega); omega
      · have := s3 q; omega
    · rw [pl_e] at hc'
      rw [be_s, Nat.mul_add (be_ h), Nat.mul_add (al_ h)]
      show _ ≤ 2 * al_ h + 8 + _ + _
      cases hEy : E y with
      | false =>
        rw [hEy, show false.toNat = 0 from rfl] at hc'
        omega
      | true =>
        rw [hEy, show true.toNat = 1 from rfl] at hc'
        have ho : 1 ≤ o0 := s3 (fun q => hE ⟨s2 q, hEy⟩)
        have := al_m (h := h) ho
        omega
  · refine ⟨2, 0, p0, 0 + (k0 + 1), o0, n0, cs_first0 (by omega) c0 f0 a h1 h3, rs_first2 (by omega) ex b h1 h3, Or.inr (Or.inr rfl), hev, hl0, hb0, fun e => by omega, ?_⟩
    rw [Nat.zero_add]; exact kc_1 hc (by omega)
end NODE
/-- every node of a body, at every state: both machines come to one end -/
theorem q_all (hW : WM_ cd en pc hg kd ga gb gc bd E I) : ∀ R h n d (ps : PS_), I n → hg n ≤ h → h ≤ 8 → 1800 ≤ ps.2.1 + ps.2.2.2.1 + R → ps.2.1 ≤ 1500 → ps.2.2.2.1 ≤ 300 → Q_ cd en tx len pc hg kd ga gb gc bd E h n d ps := by
  intro R
  induction R using Nat.strongRecOn with
  | _ R ihR =>
    intro h
    induction h with
    | zero =>
      intro n d ps hI hh
      have := (hW n hI).1
      omega
    | succ h ih =>
      intro n d ps hI hh h8 hR hl hb
      obtain ⟨g1, g8, hc⟩ := hW n hI
      have part : ∀ x, I x → hg x + 1 ≤ hg n → ∀ p1 : PS_, ps.2.1 + ps.2.2.2.1 ≤ p1.2.1 + p1.2.2.2.1 → p1.2.1 ≤ 1500 → p1.2.2.2.1 ≤ 300 → Q_ cd en tx len pc hg kd ga gb gc bd E h x d p1 :=
        fun x hx hxn p1 he h1 h2 => ih x d p1 hx (by omega) (by omega) (by omega) h1 h2
      have one : ∀ x, I x → 1 ≤ hg x := fun x hx => (hW x hx).1
      rcases hc with ⟨hk, hE, c0, c1⟩ | ⟨hk, c0, c1⟩ | ⟨hk, c0, c1⟩ | ⟨hk, c0⟩ | ⟨hk, x, y, hx, hy, ex, ey, h1, h2, hE, a0, a1, c0, e0, c1, e1, c2, c3⟩ | ⟨hk, x, y, hx, hy, ex, ey, h1, h2, hEx, hEy, a0, b0, a1, a4, c0, e0, f0, c1, e1, c2, c3, c4, e4, c5⟩ | ⟨hk, x, hx, ex, h1, hEx, a0, b0, a1, c0, e0, c1, e1, c2, c3⟩ | ⟨hk, hE, x, hx, ex, h1, a0, b0, a1, c0, e0, c1, e1, c2, c3⟩ | ⟨hk, hE, x, hx, ex, h1, a0, b0, a1, c0, e0, f0, c1, e1, c2, c3, c4, c5⟩ | ⟨hk, hEn, x, hx, ex, h1, hE, a1, b1, a2, a4, c0, c1, e1, f1, c2, e2, c3, c4, e4, c5⟩ | ⟨hk, x, y, hx, hy, ex, ey, h1, h2, hEx, hE, a0, a1, b1, a2, a3, a5, c0, f0, c1, e1, f1, c2, f2, c3, f3, c4, c5, f5, c6⟩ | ⟨hk, b, hIb, eb, hEb, c0, e0, c1⟩ | ⟨hk, x, hx, ex, h1, hEx, a0, c0, e0, c1, c2⟩ | ⟨hk, hE, c0, c1⟩
      · exact q_pure g1 hk hE c0 c1 hl hb
      · exact q_look g1 (Or.inl ⟨hk, rfl⟩) c0 c1 hl hb
      · exact q_look g1 (Or.inr ⟨hk, rfl⟩) c0 c1 hl hb
      · exact q_none g1 hk c0 hl hb
      · exact q_then hk ex ey h1 h2 (one x hx) (one y hy) hE c0 e0 c1 e1 c2 c3 (part x hx h1 ps (Nat.le_refl _) hl hb) (part y hy h2)
      · exact q_or hk ex ey h1 h2 (one x hx) (one y hy) hEx hEy c0 e0 f0 c1 e1 c2 c3 c4 e4 c5 (part x hx h1 ps (Nat.le_refl _) hl hb) (part y hy h2)
      · exact q_try hk ex h1 (one x hx) hEx c0 e0 c1 e1 c2 c3 (part x hx h1 ps (Nat.le_refl _) hl hb)
      · exact q_lookx hk hE ex h1 (one x hx) c0 e0 c1 e1 c2 c3 (part x hx h1 ps (Nat.le_refl _) hl hb)
      · exact q_not hk hE ex h1 (one x hx) c0 e0 f0 c1 e1 c2 c3 c4 c5 (part x hx h1 ps (Nat.le_refl _) hl hb)
      · exact q_many g1 hk hEn ex h1 (one x hx) hE c0 c1 e1 f1 c2 e2 c3 c4 e4 c5 hl hb (part x hx h1)
      · exact q_chain hk ex ey h1 h2 (one x hx) (one y hy) hEx hE c0 f0 c1 e1 f1 c2 f2 c3 f3 c4 c5 f5 c6 hl hb (part x hx h1) (part y hy h2)
      · refine q_rule hk g1 eb (hW b hIb).2.1 hEb c0 e0 c1 hl hb (fun q => ?_)
        exact ihR (R - 1) (by omega) 8 b (d + 1) _ hIb (hW b hIb).2.1 (Nat.le_refl _) (by simp; omega) hl (by simp; omega)
      · exact q_keep hk ex h1 (one x hx) hEx c0 e0 c1 c2 (part x hx h1 ps (Nat.le_refl _) hl hb)
      · exact q_kept g1 hk hE c0 c1 hl hb
end SIMU
end
