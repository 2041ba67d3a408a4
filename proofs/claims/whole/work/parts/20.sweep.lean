/-! marks by sweeps: the same sweep again and again from nothing; six bodies; seven sweeps reach what an eighth leaves -/
section SWEEP
def sw_ (φ : (Nat → Bool) → Nat → Bool) : Nat → (Nat → Bool) → (Nat → Bool)
  | 0, S => S
  | n + 1, S => va_up (sw_ φ n S) n (φ (sw_ φ n S) n)
def sw_it (φ : (Nat → Bool) → Nat → Bool) (g : Nat) : Nat → (Nat → Bool)
  | 0 => fun _ => false
  | i + 1 => sw_ φ g (sw_it φ g i)
theorem sw_ge {φ : (Nat → Bool) → Nat → Bool} {S : Nat → Bool} : ∀ {n m : Nat}, n ≤ m → sw_ φ n S m = S m := by
  intro n
  induction n with
  | zero => intro m _; rfl
  | succ n ih =>
    intro m h
    show va_up (sw_ φ n S) n _ m = S m
    rw [va_up_ne _ _ (by omega)]
    exact ih (by omega)
theorem sw_lt {φ : (Nat → Bool) → Nat → Bool} {S : Nat → Bool} : ∀ {n m : Nat}, m < n → sw_ φ n S m = φ (sw_ φ m S) m := by
  intro n
  induction n with
  | zero => intro m h; omega
  | succ n ih =>
    intro m h
    show va_up (sw_ φ n S) n _ m = _
    by_cases e : m = n
    · subst e; rw [va_up_self]
    · rw [va_up_ne _ _ e]
      exact ih (by omega)
theorem sw_cut {φ : (Nat → Bool) → Nat → Bool} {S : Nat → Bool} {n n' m : Nat} (h : m < n) (h' : m < n') : sw_ φ n S m = sw_ φ n' S m := by
  rw [sw_lt h, sw_lt h']
theorem sw_mono {φ : (Nat → Bool) → Nat → Bool} (hM : ∀ S S' : Nat → Bool, (∀ m, S m = true → S' m = true) → ∀ n, φ S n = true → φ S' n = true) {S S' : Nat → Bool} (h : ∀ m, S m = true → S' m = true) :
    ∀ n m, sw_ φ n S m = true → sw_ φ n S' m = true := by
  intro n
  induction n with
  | zero => exact h
  | succ n ih =>
    intro m
    show va_up (sw_ φ n S) n _ m = true → va_up (sw_ φ n S') n _ m = true
    by_cases e : m = n
    · subst e; rw [va_up_self, va_up_self]; exact hM _ _ ih _
    · rw [va_up_ne _ _ e, va_up_ne _ _ e]; exact ih m
theorem sw_grow {φ : (Nat → Bool) → Nat → Bool} {g : Nat} (hM : ∀ S S' : Nat → Bool, (∀ m, S m = true → S' m = true) → ∀ n, φ S n = true → φ S' n = true) :
    ∀ i m, sw_it φ g i m = true → sw_it φ g (i + 1) m = true := by
  intro i
  induction i with
  | zero => intro m h; cases h
  | succ i ih => intro m; exact sw_mono hM ih g m
/-- six marks that only grow stand still somewhere within the first seven steps -/
theorem sw_six (f : Nat → Nat → Bool) (hf : ∀ r i, f r i = true → f r (i + 1) = true) : ∃ i, i ≤ 6 ∧ ∀ r, r < 6 → f r i = f r (i + 1) := by
  apply Classical.byContradiction
  intro hno
  have hle : ∀ r i, (f r i).toNat ≤ (f r (i + 1)).toNat := by
    intro r i
    have h := hf r i
    cases h1 : f r i <;> cases h2 : f r (i + 1) <;> simp_all
  have hs : ∀ i, i ≤ 6 → (f 0 i).toNat + (f 1 i).toNat + (f 2 i).toNat + (f 3 i).toNat + (f 4 i).toNat + (f 5 i).toNat + 1 ≤ (f 0 (i + 1)).toNat + (f 1 (i + 1)).toNat + (f 2 (i + 1)).toNat + (f 3 (i + 1)).toNat + (f 4 (i + 1)).toNat + (f 5 (i + 1)).toNat := by
    intro i hi
    apply Classical.byContradiction
    intro hc
    apply hno
    refine ⟨i, hi, fun r hr => ?_⟩
    have heq : ∀ r, (f r i).toNat = (f r (i + 1)).toNat → f r i = f r (i + 1) := by
      intro r
      cases f r i <;> cases f r (i + 1) <;> simp
    apply heq
    have h0 := hle 0 i
    have h1 := hle 1 i
    have h2 := hle 2 i
    have h3 := hle 3 i
    have h4 := hle 4 i
    have h5 := hle 5 i
    rcases (show r = 0 ∨ r = 1 ∨ r = 2 ∨ r = 3 ∨ r = 4 ∨ r = 5 by omega) with rfl | rfl | rfl | rfl | rfl | rfl <;> omega
  have hb : ∀ r, (f r 7).toNat ≤ 1 := fun r => Bool.toNat_le _
  have e0 := hs 0 (by omega)
  have e1 := hs 1 (by omega)
  have e2 := hs 2 (by omega)
  have e3 := hs 3 (by omega)
  have e4 := hs 4 (by omega)
  have e5 := hs 5 (by omega)
  have e6 := hs 6 (by omega)
  simp only [Nat.reduceAdd, Nat.zero_add] at e0 e1 e2 e3 e4 e5 e6
  have b0 := hb 0
  have b1 := hb 1
  have b2 := hb 2
  have b3 := hb 3
  have b4 := hb 4
  have b5 := hb 5
  omega
/-- the step: where the bodies' marks stand still, so do all -/
theorem sw_step {φ : (Nat → Bool) → Nat → Bool} {g : Nat} {Bd : Nat → Prop} (hL : ∀ (S S' : Nat → Bool) (n : Nat), n < g → (∀ m, m < n → S m = S' m) → (∀ b, Bd b → S b = S' b) → φ S n = φ S' n) {i : Nat}
    (h : ∀ b, Bd b → sw_it φ g i b = sw_it φ g (i + 1) b) : ∀ m, sw_it φ g (i + 2) m = sw_it φ g (i + 1) m := by
  intro m
  induction m using Nat.strongRecOn with
  | _ m ih =>
    by_cases hm : m < g
    · show sw_ φ g (sw_it φ g (i + 1)) m = sw_ φ g (sw_it φ g i) m
      rw [sw_lt hm, sw_lt hm]
      have hlo : ∀ k, k < m → sw_ φ m (sw_it φ g (i + 1)) k = sw_ φ m (sw_it φ g i) k := by
        intro k hk
        rw [sw_cut hk (show k < g by omega), sw_cut (S := sw_it φ g i) hk (show k < g by omega)]
        exact ih k hk
      refine hL _ _ m hm hlo (fun b hb => ?_)
      by_cases e : b < m
      · exact hlo b e
      · rw [sw_ge (by omega), sw_ge (by omega)]
        exact (h b hb).symm
    · exact sw_ge (by omega)
theorem sw_const {φ : (Nat → Bool) → Nat → Bool} {g i : Nat} (h : ∀ m, sw_it φ g (i + 1) m = sw_it φ g i m) : ∀ k m, sw_it φ g (i + k) m = sw_it φ g i m := by
  have he : sw_it φ g (i + 1) = sw_it φ g i := funext h
  intro k
  induction k with
  | zero => intro m; rfl
  | succ k ih =>
    intro m
    have e2 : sw_it φ g (i + k) = sw_it φ g i := funext ih
    show sw_ φ g (sw_it φ g (i + k)) m = _
    rw [e2]
    exact h m
/-- seven sweeps are enough -/
theorem sw_seven {φ : (Nat → Bool) → Nat → Bool} {g : Nat} (bd : Nat → Option Nat) (hM : ∀ S S' : Nat → Bool, (∀ m, S m = true → S' m = true) → ∀ n, φ S n = true → φ S' n = true)
    (hL : ∀ (S S' : Nat → Bool) (n : Nat), n < g → (∀ m, m < n → S m = S' m) → (∀ r b, r < 6 → bd r = some b → S b = S' b) → φ S n = φ S' n) : ∀ m, sw_it φ g 8 m = sw_it φ g 7 m := by
  have hL' : ∀ (S S' : Nat → Bool) (n : Nat), n < g → (∀ m, m < n → S m = S' m) → (∀ b, (∃ r, r < 6 ∧ bd r = some b) → S b = S' b) → φ S n = φ S' n :=
    fun S S' n h1 h2 h3 => hL S S' n h1 h2 (fun r b hr hb => h3 b ⟨r, hr, hb⟩)
  obtain ⟨i, hi, hst⟩ := sw_six (fun r i => match bd r with | some b => sw_it φ g i b | none => false) (by
    intro r i
    cases hb : bd r with
    | none => simp
    | some b => simpa [hb] using sw_grow hM i b)
  have h1 : ∀ m, sw_it φ g (i + 1 + 1) m = sw_it φ g (i + 1) m := sw_step (Bd := fun b => ∃ r, r < 6 ∧ bd r = some b) hL' (by
    intro b ⟨r, hr, hb⟩
    have := hst r hr
    simpa [hb] using this)
  intro m
  have a8 := sw_const h1 (7 - i) m
  have a7 := sw_const h1 (6 - i) m
  rw [show i + 1 + (7 - i) = 8 by omega] at a8
  rw [show i + 1 + (6 - i) = 7 by omega] at a7
  rw [a8, a7]
/-- what stands still under a sweep is what the rule says at every place -/
theorem sw_fix {φ : (Nat → Bool) → Nat → Bool} {g : Nat} {S : Nat → Bool} (h : ∀ m, sw_ φ g S m = S m) {m : Nat} (hm : m < g) : S m = φ S m := by
  have e : sw_ φ m S = S := by
    funext k
    by_cases hk : k < m
    · rw [sw_cut hk (show k < g by omega)]; exact h k
    · exact sw_ge (by omega)
  have := h m
  rw [sw_lt hm, e] at this
  exact this.symm
end SWEEP
/-! which rules lead to which: two ways of closing six rows of six marks -/
section CLOSE
/-- the rows after the middle w has been passed for the first n rows -/
def cl_row (w : Nat) : Nat → (Nat → Nat → Bool) → (Nat → Nat → Bool)
  | 0, R => R
  | n + 1, R => va_up (cl_row w n R) n (fun k => if cl_row w n R n w = true then cl_row w n R n k || cl_row w n R w k else cl_row w n R n k)
def cl_all : Nat → (Nat → Nat → Bool) → (Nat → Nat → Bool)
  | 0, R => R
  | w + 1, R => cl_row w 6 (cl_all w R)
theorem cl_row_eq (w : Nat) (R : Nat → Nat → Bool) : ∀ n r k, cl_row w n R r k = if r < n ∧ R r w = true then R r k || R w k else R r k := by
  intro n
  induction n with
  | zero => intro r k; simp [cl_row]
  | succ n ih =>
    intro r k
    show va_up (cl_row w n R) n _ r k = _
    have hw : ∀ k, cl_row w n R w k = R w k := by
      intro k
      rw [ih]
      split
      · simp
      · rfl
    by_cases e : r = n
    · subst e
      rw [va_up_self]
      have h1 : ∀ k, cl_row w r R r k = R r k := fun k => by rw [ih]; simp
      simp only [h1, hw]
      simp
    · rw [va_up_ne _ _ e, ih]
      have : (r < n + 1 ∧ R r w = true) ↔ (r < n ∧ R r w = true) := by
        constructor
        · rintro ⟨a, b⟩; exact ⟨by omega, b⟩
        · rintro ⟨a, b⟩; exact ⟨by omega, b⟩
      simp only [this]
theorem cl_all_sub (R : Nat → Nat → Bool) : ∀ w r k, R r k = true → cl_all w R r k = true := by
  intro w
  induction w with
  | zero => intro r k h; exact h
  | succ w ih =>
    intro r k h
    show cl_row w 6 (cl_all w R) r k = true
    rw [cl_row_eq]
    split
    · simp [ih r k h]
    · exact ih r k h
theorem cl_all_trans (R : Nat → Nat → Bool) : ∀ w j r k, j < w → w ≤ 6 → r < 6 → cl_all w R r j = true → cl_all w R j k = true → cl_all w R r k = true := by
  intro w
  induction w with
  | zero => intro j r k h; omega
  | succ w ih =>
    intro j r k hj hw hr h1 h2
    have hj6 : j < 6 := by omega
    have e : ∀ r k, r < 6 → cl_all (w + 1) R r k = if cl_all w R r w = true then cl_all w R r k || cl_all w R w k else cl_all w R r k := by
      intro r k hr
      show cl_row w 6 (cl_all w R) r k = _
      rw [cl_row_eq]
      simp [hr]
    rw [e r j hr] at h1
    rw [e j k hj6] at h2
    rw [e r k hr]
    by_cases hjw : j = w
    · subst hjw
      by_cases a : cl_all j R r j = true
      · rw [if_pos a]
        by_cases b : cl_all j R j j = true
        · rw [if_pos b] at h2
          simp only [Bool.or_eq_true] at h2 ⊢
          rcases h2 with h2 | h2 <;> exact Or.inr h2
        · rw [if_neg b] at h2
          simp only [Bool.or_eq_true]
          exact Or.inr h2
      · rw [if_neg a] at h1
        exact absurd h1 a
    · have hjw' : j < w := by omega
      have T := ih j r
      by_cases a : cl_all w R r w = true
      · rw [if_pos a] at h1 ⊢
        simp only [Bool.or_eq_true] at h1 ⊢
        by_cases b : cl_all w R j w = true
        · rw [if_pos b] at h2
          simp only [Bool.or_eq_true] at h2
          rcases h2 with h2 | h2
          · rcases h1 with h1 | h1
            · exact Or.inl (ih j r k hjw' (by omega) hr h1 h2)
            · exact Or.inr (ih j w k hjw' (by omega) (by omega) h1 h2)
          · exact Or.inr h2
        · rw [if_neg b] at h2
          rcases h1 with h1 | h1
          · exact Or.inl (ih j r k hjw' (by omega) hr h1 h2)
          · exact Or.inr (ih j w k hjw' (by omega) (by omega) h1 h2)
      · rw [if_neg a] at h1 ⊢
        by_cases b : cl_all w R j w = true
        · exact absurd (ih j r w hjw' (by omega) hr h1 b) a
        · rw [if_neg b] at h2
          exact ih j r k hjw' (by omega) hr h1 h2
/-- nothing comes in that a closed set doesn't hold -/
theorem cl_all_least (R : Nat → Nat → Bool) : ∀ w r, w ≤ 6 → ∀ T : Nat → Bool, (∀ k, R r k = true → T k = true) → (∀ j, j < 6 → T j = true → ∀ k, R j k = true → T k = true) → ∀ k, cl_all w R r k = true → T k = true := by
  intro w
  induction w with
  | zero => intro r _ T h1 _ k h; exact h1 k h
  | succ w ih =>
    intro r hw T h1 h2 k h
    have h' : cl_row w 6 (cl_all w R) r k = true := h
    rw [cl_row_eq] at h'
    split at h'
    · next hc =>
      simp only [Bool.or_eq_true] at h'
      rcases h' with h' | h'
      · exact ih r (by omega) T h1 h2 k h'
      · have hTw : T w = true := ih r (by omega) T h1 h2 w hc.2
        exact ih w (by omega) T (h2 w (by omega) hTw) h2 k h'
    · exact ih r (by omega) T h1 h2 k h'
/-- the other way: one row, six rounds over the six rows -/
def cl_rd (R : Nat → Nat → Bool) : Nat → (Nat → Bool) → (Nat → Bool)
  | 0, s => s
  | n + 1, s => fun k => if cl_rd R n s n = true then cl_rd R n s k || R n k else cl_rd R n s k
def cl_rds (R : Nat → Nat → Bool) (s : Nat → Bool) : Nat → (Nat → Bool)
  | 0 => s
  | i + 1 => cl_rd R 6 (cl_rds R s i)
theorem cl_rd_sub (R : Nat → Nat → Bool) (s : Nat → Bool) : ∀ n k, s k = true → cl_rd R n s k = true := by
  intro n
  induction n with
  | zero => intro k h; exact h
  | succ n ih =>
    intro k h
    show (if _ then _ else _) = true
    split
    · simp [ih k h]
    · exact ih k h
theorem cl_rd_has (R : Nat → Nat → Bool) (s : Nat → Bool) : ∀ n j k, j < n → s j = true → R j k = true → cl_rd R n s k = true := by
  intro n
  induction n with
  | zero => intro j k h; omega
  | succ n ih =>
    intro j k hj hs hR
    show (if _ then _ else _) = true
    by_cases e : j = n
    · subst e
      rw [if_pos (cl_rd_sub R s j j hs)]
      simp [hR]
    · have := ih j k (by omega) hs hR
      split
      · simp [this]
      · exact this
theorem cl_rd_least (R : Nat → Nat → Bool) (T : Nat → Bool) (h2 : ∀ j, j < 6 → T j = true → ∀ k, R j k = true → T k = true) : ∀ n (s : Nat → Bool), n ≤ 6 → (∀ k, s k = true → T k = true) → ∀ k, cl_rd R n s k = true → T k = true := by
  intro n
  induction n with
  | zero => intro s _ h1 k h; exact h1 k h
  | succ n ih =>
    intro s hn h1 k h
    have h' : (if cl_rd R n s n = true then cl_rd R n s k || R n k else cl_rd R n s k) = true := h
    split at h'
    · next hc =>
      simp only [Bool.or_eq_true] at h'
      rcases h' with h' | h'
      · exact ih s (by omega) h1 k h'
      · exact h2 n (by omega) (ih s (by omega) h1 n hc) k h'
    · exact ih s (by omega) h1 k h'
theorem cl_rds_least (R : Nat → Nat → Bool) (T : Nat → Bool) (h2 : ∀ j, j < 6 → T j = true → ∀ k, R j k = true → T k = true) (s : Nat → Bool) (h1 : ∀ k, s k = true → T k = true) : ∀ i k, cl_rds R s i k = true → T k = true := by
  intro i
  induction i with
  | zero => exact h1
  | succ i ih => exact cl_rd_least R T h2 6 _ (by omega) ih
theorem cl_rds_grow (R : Nat → Nat → Bool) (s : Nat → Bool) (i k : Nat) (h : cl_rds R s i k = true) : cl_rds R s (i + 1) k = true := cl_rd_sub R _ 6 k h
theorem cl_rds_le (R : Nat → Nat → Bool) (s : Nat → Bool) (i j k : Nat) (h : cl_rds R s i k = true) : cl_rds R s (i + j) k = true := by
  induction j with
  | zero => exact h
  | succ j ih => exact cl_rds_grow R s (i + j) k ih
/-- where all six marks stand still over a round, the set is closed from then on -/
theorem cl_still (R : Nat → Nat → Bool) (s : Nat → Bool) (hR : ∀ j k, R j k = true → k < 6) (i : Nat) (h : ∀ r, r < 6 → cl_rds R s i r = cl_rds R s (i + 1) r) : ∀ n j, j < 6 → cl_rds R s (i + n) j = true → ∀ k, R j k = true → cl_rds R s i k = true := by
  have hc : ∀ j, j < 6 → cl_rds R s i j = true → ∀ k, R j k = true → cl_rds R s i k = true := by
    intro j hj hs k hk
    rw [h k (hR j k hk)]
    exact cl_rd_has R _ 6 j k hj hs hk
  have hb : ∀ n k, k < 6 → cl_rds R s (i + n) k = true → cl_rds R s i k = true := by
    intro n
    induction n with
    | zero => intro k _ h; exact h
    | succ n ih =>
      intro k hk hh
      exact cl_rd_least R (fun q => if q < 6 then cl_rds R s i q else true) (by
        intro j hj hT q hq
        simp only [hj, if_true] at hT
        have := hR j q hq
        simp only [this, if_true]
        exact hc j hj hT q hq) 6 (cl_rds R s (i + n)) (by omega) (by
        intro q hq
        by_cases q6 : q < 6
        · simp only [q6, if_true]; exact ih q q6 hq
        · simp only [q6, if_false]) k hh |> fun t => by simpa [hk] using t
  intro n j hj hs k hk
  exact hc j hj (hb n j hj hs) k hk
theorem cl_six (f : Nat → Nat → Bool) (hf : ∀ r i, f r i = true → f r (i + 1) = true) (h0 : (∀ r, r < 6 → f r 0 = false) → ∀ r, r < 6 → f r 0 = f r 1) : ∃ i, i ≤ 5 ∧ ∀ r, r < 6 → f r i = f r (i + 1) := by
  by_cases hz : ∀ r, r < 6 → f r 0 = false
  · exact ⟨0, by omega, h0 hz⟩
  apply Classical.byContradiction
  intro hno
  have hpos : 1 ≤ (f 0 0).toNat + (f 1 0).toNat + (f 2 0).toNat + (f 3 0).toNat + (f 4 0).toNat + (f 5 0).toNat := by
    apply Classical.byContradiction
    intro hc
    apply hz
    intro r hr
    have heq : ∀ b : Bool, b.toNat = 0 → b = false := by intro b; cases b <;> simp
    apply heq
    rcases (show r = 0 ∨ r = 1 ∨ r = 2 ∨ r = 3 ∨ r = 4 ∨ r = 5 by omega) with rfl | rfl | rfl | rfl | rfl | rfl <;> omega
  have hle : ∀ r i, (f r i).toNat ≤ (f r (i + 1)).toNat := by
    intro r i
    have h := hf r i
    cases h1 : f r i <;> cases h2 : f r (i + 1) <;> simp_all
  have hs : ∀ i, i ≤ 5 → (f 0 i).toNat + (f 1 i).toNat + (f 2 i).toNat + (f 3 i).toNat + (f 4 i).toNat + (f 5 i).toNat + 1 ≤ (f 0 (i + 1)).toNat + (f 1 (i + 1)).toNat + (f 2 (i + 1)).toNat + (f 3 (i + 1)).toNat + (f 4 (i + 1)).toNat + (f 5 (i + 1)).toNat := by
    intro i hi
    apply Classical.byContradiction
    intro hc
    apply hno
    refine ⟨i, hi, fun r hr => ?_⟩
    have heq : ∀ r, (f r i).toNat = (f r (i + 1)).toNat → f r i = f r (i + 1) := by
      intro r
      cases f r i <;> cases f r (i + 1) <;> simp
    apply heq
    have h0 := hle 0 i
    have h1 := hle 1 i
    have h2 := hle 2 i
    have h3 := hle 3 i
    have h4 := hle 4 i
    have h5 := hle 5 i
    rcases (show r = 0 ∨ r = 1 ∨ r = 2 ∨ r = 3 ∨ r = 4 ∨ r = 5 by omega) with rfl | rfl | rfl | rfl | rfl | rfl <;> omega
  have hb : ∀ r, (f r 6).toNat ≤ 1 := fun r => Bool.toNat_le _
  have e0 := hs 0 (by omega)
  have e1 := hs 1 (by omega)
  have e2 := hs 2 (by omega)
  have e3 := hs 3 (by omega)
  have e4 := hs 4 (by omega)
  have e5 := hs 5 (by omega)
  simp only [Nat.reduceAdd, Nat.zero_add] at e0 e1 e2 e3 e4 e5
  have b0 := hb 0
  have b1 := hb 1
  have b2 := hb 2
  have b3 := hb 3
  have b4 := hb 4
  have b5 := hb 5
  omega
theorem cl_rd_none (R : Nat → Nat → Bool) (s : Nat → Bool) (h : ∀ r, r < 6 → s r = false) : ∀ n, n ≤ 6 → ∀ k, cl_rd R n s k = s k := by
  intro n
  induction n with
  | zero => intro _ k; rfl
  | succ n ih =>
    intro hn k
    show (if cl_rd R n s n = true then _ else _) = _
    have e := ih (by omega)
    rw [e n, h n (by omega), if_neg (by decide)]
    exact e k
theorem cl_closed (R : Nat → Nat → Bool) (s : Nat → Bool) (hR : ∀ j k, R j k = true → k < 6) : ∀ j, j < 6 → cl_rds R s 6 j = true → ∀ k, R j k = true → cl_rds R s 6 k = true := by
  obtain ⟨i, hi, hst⟩ := cl_six (fun r i => cl_rds R s i r) (fun r i h => cl_rds_grow R s i r h) (by
    intro hz r hr
    exact (cl_rd_none R s hz 6 (by omega) r).symm)
  intro j hj hs k hk
  have h1 := cl_still R s hR i hst (6 - i) j hj (by rw [show i + (6 - i) = 6 by omega]; exact hs) k hk
  have h2 := cl_rds_le R s i (6 - i) k h1
  rw [show i + (6 - i) = 6 by omega] at h2
  exact h2
/-- both ways come to the same rows -/
theorem cl_eq (R : Nat → Nat → Bool) (hR : ∀ j k, R j k = true → k < 6) {r : Nat} (hr : r < 6) (k : Nat) : cl_all 6 R r k = cl_rds R (R r) 6 k := by
  have h1 : cl_all 6 R r k = true → cl_rds R (R r) 6 k = true :=
    cl_all_least R 6 r (by omega) _ (fun k h => by have := cl_rds_le R (R r) 0 6 k h; exact this) (cl_closed R (R r) hR) k
  have h2 : cl_rds R (R r) 6 k = true → cl_all 6 R r k = true :=
    cl_rds_least R (cl_all 6 R r) (fun j hj h k hk => cl_all_trans R 6 j r k hj (by omega) hr h (cl_all_sub R 6 j k hk)) (R r) (fun k h => cl_all_sub R 6 r k h) 6 k
  cases h3 : cl_all 6 R r k <;> cases h4 : cl_rds R (R r) 6 k <;> simp_all
end CLOSE
