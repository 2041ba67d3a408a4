/-! which nodes may be made: the small questions on both sides -/
section NOD1
variable {σ m : MZ_} {g : Nat} {kd : Nat → Nat} {ga gb gc : Nat → Int32} {hg : Nat → Nat} {bo : Nat → Option Nat}
def rn_ (a hi : Int32) : Bool := decide (0 ≤ a ∧ a ≤ hi)
theorem rn_in (a hi : Int32) : f_R_in a 0 hi = some (bI (rn_ a hi)) := by
  rw [in_f]
  unfold rn_ bI
  by_cases q : 0 ≤ a ∧ a ≤ hi
  · rw [if_pos q, decide_eq_true q]; rfl
  · rw [if_neg q, decide_eq_false q]; rfl
theorem rn_nat {a : Int32} {h : Nat} (hh : h < 1000) (e : rn_ a (nI h) = true) : ∃ n, n ≤ h ∧ a = nI n := by
  have q := of_decide_eq_true e
  obtain ⟨n, hn, rfl⟩ := nI_back (a := a) (g := h + 1) (by omega) q.1 (fun hh2 => by
    have := (le_c (N := h + 1) (n := h) (by omega) (by omega)).mp (Int32.le_trans hh2 q.2)
    omega)
  exact ⟨n, by omega, rfl⟩
theorem rn_lt {a : Int32} {h : Nat} (hh : h < 1000) {α : Type} (x y : α) : (if a < 0 then x else if nI (h + 1) ≤ a then x else y) = if rn_ a (nI h) = true then y else x := by
  by_cases q1 : a < 0
  · rw [if_pos q1, if_neg (fun e => Int32.not_le.mpr q1 (of_decide_eq_true e).1)]
  · rw [if_neg q1]
    have q0 : 0 ≤ a := Int32.not_lt.mp q1
    by_cases q2 : nI (h + 1) ≤ a
    · rw [if_pos q2, if_neg (fun e => by
        have := (le_c (N := h + 1) (n := h) (by omega) (by omega)).mp (Int32.le_trans q2 (of_decide_eq_true e).2)
        omega)]
    · obtain ⟨n, hn, rfl⟩ := nI_back (by omega) q0 q2
      rw [if_neg q2, if_pos (show rn_ (nI n) (nI h) = true from decide_eq_true ⟨q0, (le_c (by omega) (by omega)).mpr (by omega)⟩)]
theorem bI_if (b : Bool) : (if b = true then some (1 : Int32) else some 0) = some (bI b) := by cases b <;> rfl
theorem rn_way (a : Int32) : f_G_isWay a = some (bI (rn_ a 7)) := by
  unfold f_G_isWay
  exact (rn_lt (h := 7) (by omega) _ _).trans (bI_if _)
theorem rn_reg (a : Int32) : f_S_isRegister a = some (bI (rn_ a 3)) := by
  unfold f_S_isRegister
  exact (rn_lt (h := 3) (by omega) _ _).trans (bI_if _)
theorem rn_rule (a : Int32) : f_G_isRule a = some (bI (rn_ a 5)) := by
  unfold f_G_isRule
  exact (rn_lt (h := 5) (by omega) _ _).trans (bI_if _)
theorem rn_sign (a : Int32) : f_S_isSign a = some (bI (rn_ a 255)) := by
  unfold f_S_isSign rn_
  by_cases q1 : a < 0
  · rw [if_pos q1, decide_eq_false (fun e => Int32.not_le.mpr q1 e.1)]; rfl
  · rw [if_neg q1]
    by_cases q2 : 255 < a
    · rw [if_pos q2, decide_eq_false (fun e => Int32.not_le.mpr q2 e.2)]; rfl
    · rw [if_neg q2, decide_eq_true ⟨Int32.not_lt.mp q1, Int32.not_lt.mp q2⟩]; rfl
/-- a part: a node on both sides, and on the class's side not too high -/
theorem pt_both (hW : WF_ g kd ga gb gc hg bo) (hX : XG_ σ g kd ga gb gc hg bo) (hR : RG_ m g kd ga gb gc hg bo) (a : Int32) : (f_R_isNode m a = some 0 ∧ f_G_canBePart σ a = some 0) ∨ ∃ x, x < g ∧ a = nI x ∧ f_R_isNode m a = some 1 ∧ f_G_canBePart σ a = some (bI (decide (hg x ≤ 7))) ∧ m 5 x = nI (hg x) := by
  have hg80 := hW.1
  obtain ⟨b, b1, b2, b3⟩ := nd_both ⟨kd, ga, gb, gc, hg, bo, hW, hX, hR⟩ a
  cases b with
  | false =>
    refine Or.inl ⟨b2, ?_⟩
    unfold f_G_canBePart
    rw [bd_s b1, if_pos (bI_0 rfl)]
  | true =>
    obtain ⟨x, hx, rfl⟩ := b3 rfl
    refine Or.inr ⟨x, hx, rfl, b2, ?_, (hR.2.1 x hx).2.2.2.2⟩
    have h8 := (hW.2.1 x hx).2.1
    unfold f_G_canBePart
    rw [bd_s b1, if_neg (bI_1 rfl), gd_in (vp_in_nI (by omega) (by omega)), nI_clamp (by omega), (hX.2.1 x hx).2.2.2.2]
    by_cases q : hg x ≤ 7
    · rw [if_neg (show ¬ (8 : Int32) ≤ nI (hg x) from fun hh => by have := (le_c (N := 8) (by omega) (by omega)).mp hh; omega), decide_eq_true q]; rfl
    · rw [if_pos (show (8 : Int32) ≤ nI (hg x) from (le_c (N := 8) (by omega) (by omega)).mpr (by omega)), decide_eq_false q]; rfl
/-- heights, by how many parts a kind has -/
theorem ht_0 {k a b : Int32} (h1 : f_R_hasFirst k = some 0) (h2 : f_R_hasSecond k = some 0) : f_R_height m k a b = some 1 := by
  unfold f_R_height
  rw [bd_s h1, if_pos rfl, bd_s h2, if_pos rfl]
  rfl
theorem ht_1 {k b : Int32} {x : Nat} (hW : WF_ g kd ga gb gc hg bo) (hx : x < g) (hm : m 5 x = nI (hg x)) (h1 : f_R_hasFirst k = some 1) (h2 : f_R_hasSecond k = some 0) : f_R_height m k (nI x) b = some (nI (hg x + 1)) := by
  have hg80 := hW.1
  have h8 := (hW.2.1 x hx).2.1
  unfold f_R_height
  rw [bd_s h1, if_neg (show ¬ (1 : Int32) = 0 by decide), gd_in (vp_in_nI (by omega) (by omega)), bd_s h2, if_pos rfl, nI_clamp (by omega), hm, if_neg (show ¬ nI (hg x) ≤ 0 from fun hh => by have := (li_le 0 rfl (by omega) (by omega)).mp hh; omega), nI_1]
theorem ht_2 {k : Int32} {x y : Nat} (hW : WF_ g kd ga gb gc hg bo) (hx : x < g) (hy : y < g) (hm : m 5 x = nI (hg x)) (hm2 : m 5 y = nI (hg y)) (h1 : f_R_hasFirst k = some 1) (h2 : f_R_hasSecond k = some 1) : f_R_height m k (nI x) (nI y) = some (nI (max (hg x) (hg y) + 1)) := by
  have hg80 := hW.1
  have h8 := (hW.2.1 x hx).2.1
  have h9 := (hW.2.1 y hy).2.1
  unfold f_R_height
  rw [bd_s h1, if_neg (show ¬ (1 : Int32) = 0 by decide), gd_in (vp_in_nI (by omega) (by omega)), bd_s h2, if_neg (show ¬ (1 : Int32) = 0 by decide), gd_in (vp_in_nI (show y < 80 by omega) (by omega)), nI_clamp (by omega), nI_clamp (show y < 2 ^ 31 by omega), hm, hm2]
  by_cases q : hg x ≤ hg y
  · rw [if_pos ((le_c (by omega) (by omega)).mpr q), nI_1, Nat.max_eq_right q]
  · rw [if_neg (fun hh => q ((le_c (by omega) (by omega)).mp hh)), nI_1, Nat.max_eq_left (by omega)]
end NOD1
