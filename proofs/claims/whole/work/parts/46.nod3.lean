/-! node where it is refused -/
section NOD3
variable {σ μ m : MZ_} {g : Nat} {kd : Nat → Nat} {ga gb gc : Nat → Int32} {hg : Nat → Nat} {bo : Nat → Option Nat} {a b c : Int32}
theorem nk_no {k : Int32} (h : rn_ k 13 = false) : f_G_allows σ k a b c = some 0 ∧ f_R_fits m k a b c = some 0 := by
  have hk : ∀ j : Nat, j ≤ 13 → ¬ k = nI j := fun j hj e => by
    rw [e] at h
    have : rn_ (nI j) 13 = true := decide_eq_true ⟨Int32.not_lt.mp (nI_pos (by omega)), (show nI j ≤ nI 13 from (le_c (by omega) (by omega)).mpr hj)⟩
    rw [this] at h; cases h
  have k0 : ¬ k = (0 : Int32) := hk 0 (by omega)
  have k1 : ¬ k = (1 : Int32) := hk 1 (by omega)
  have k2 : ¬ k = (2 : Int32) := hk 2 (by omega)
  have k3 : ¬ k = (3 : Int32) := hk 3 (by omega)
  have k4 : ¬ k = (4 : Int32) := hk 4 (by omega)
  have k5 : ¬ k = (5 : Int32) := hk 5 (by omega)
  have k6 : ¬ k = (6 : Int32) := hk 6 (by omega)
  have k7 : ¬ k = (7 : Int32) := hk 7 (by omega)
  have k8 : ¬ k = (8 : Int32) := hk 8 (by omega)
  have k9 : ¬ k = (9 : Int32) := hk 9 (by omega)
  have k10 : ¬ k = (10 : Int32) := hk 10 (by omega)
  have k11 : ¬ k = (11 : Int32) := hk 11 (by omega)
  have k12 : ¬ k = (12 : Int32) := hk 12 (by omega)
  have k13 : ¬ k = (13 : Int32) := hk 13 (by omega)
  have h1 : f_R_hasFirst k = some 0 := by
    unfold f_R_hasFirst
    by_cases q : k < 4
    · rw [if_pos q, if_neg k12]
    · rw [if_neg q, if_neg k12]
      by_cases q2 : k ≤ 10
      · exfalso
        have q0 : (0 : Int32) ≤ k := Int32.le_trans (show (0 : Int32) ≤ 4 by decide) (Int32.not_lt.mp q)
        have : rn_ k 13 = true := decide_eq_true ⟨q0, Int32.le_trans q2 (by decide)⟩
        rw [this] at h; cases h
      · rw [if_neg q2]
  have h2 : f_R_hasSecond k = some 0 := by
    unfold f_R_hasSecond
    rw [if_neg k4, if_neg k5, if_neg k10]
  refine ⟨?_, ?_⟩
  · unfold f_G_allows; rw [if_neg k0, if_neg k1, if_neg k2, if_neg k3, if_neg k4, if_neg k5, if_neg k6, if_neg k7, if_neg k8, if_neg k9, if_neg k10, if_neg k11, if_neg k12, if_neg k13]
  · unfold f_R_fits; rw [bd_s h1, if_pos (show (0 : Int32) = 0 from rfl), bd_s h2, if_pos (show (0 : Int32) = 0 from rfl), if_neg k1, if_neg k2, if_neg k3, if_neg k4, if_neg k5, if_neg k6, if_neg k7, if_neg k8, if_neg k9, if_neg k10, if_neg k11, if_neg k12, if_neg k13, bd_s (rn_in _ _), h, if_pos (bI_0 rfl)]
theorem nf_all {k : Nat} (hk : k ≤ 13) (hW : WF_ g kd ga gb gc hg bo) (hX : XG_ σ g kd ga gb gc hg bo) (hR : RG_ m g kd ga gb gc hg bo) : NF_ σ m g hg k a b c := by
  rcases (show k = 0 ∨ k = 1 ∨ k = 2 ∨ k = 3 ∨ k = 4 ∨ k = 5 ∨ k = 6 ∨ k = 7 ∨ k = 8 ∨ k = 9 ∨ k = 10 ∨ k = 11 ∨ k = 12 ∨ k = 13 by omega) with rfl | rfl | rfl | rfl | rfl | rfl | rfl | rfl | rfl | rfl | rfl | rfl | rfl | rfl
  · exact nk_0
  · exact nk_1
  · exact nk_2
  · exact nk_3
  · exact nk_4 hW hX hR
  · exact nk_5 hW hX hR
  · exact nk_6 hW hX hR
  · exact nk_7 hW hX hR
  · exact nk_8 hW hX hR
  · exact nk_9 hW hX hR
  · exact nk_10 hW hX hR
  · exact nk_11
  · exact nk_12 hW hX hR
  · exact nk_13
/-- a node that isn't allowed: the other system says 1 -/
theorem vn_refuse (h : Vn_ σ μ) (k : Int32) : ∃ ok : Bool, f_G_allows σ k a b c = some (bI ok) ∧ (ok = false → ∃ μ', f_R_node μ k a b c = some (0, μ') ∧ Vn_ σ μ' ∧ μ' 30 0 = 1) ∧ (ok = true → ∃ n, n ≤ 13 ∧ k = nI n) := by
  have hv := vn_30 h (fun _ => 0)
  have key : ∀ r1 : Option Int32, (f_R_fits (va_up μ 30 (fun _ => 0)) k a b c = some 0 ∨ (f_R_fits (va_up μ 30 (fun _ => 0)) k a b c = some 1 ∧ ∃ hh, f_R_height (va_up μ 30 (fun _ => 0)) k a b = some (nI hh) ∧ 8 < hh ∧ hh ≤ 100)) → ∃ μ', f_R_node μ k a b c = some (0, μ') ∧ Vn_ σ μ' ∧ μ' 30 0 = 1 := by
    intro _ hq
    refine ⟨va_up (va_up μ 30 (fun _ => 0)) 30 (fun _ => 1), ?_, vn_30 hv _, rfl⟩
    unfold f_R_node
    rw [st_e]
    rcases hq with hq | ⟨hq, hh, e1, e2, e3⟩
    · rw [bd_s hq, if_pos rfl]; rfl
    · rw [bd_s hq, if_neg (show ¬ (1 : Int32) = 0 by decide), bd_s e1, if_neg (show ¬ nI hh ≤ 8 from fun q => by have := (le_c (N := hh) (n := 8) (by omega) (by omega)).mp q; omega)]; rfl
  obtain ⟨g, ⟨kd, ga, gb, gc, hg, bo, hW, hX, hR⟩, -⟩ := id hv
  cases q : rn_ k 13 with
  | false =>
    obtain ⟨n1, n2⟩ := nk_no (σ := σ) (m := va_up μ 30 (fun _ => 0)) (a := a) (b := b) (c := c) q
    exact ⟨false, n1, fun _ => key none (Or.inl n2), fun e => by cases e⟩
  | true =>
    obtain ⟨n, hn, rfl⟩ := rn_nat (h := 13) (by omega) q
    obtain ⟨ok, o1, o2, -⟩ := nf_all (a := a) (b := b) (c := c) hn hW hX hR
    exact ⟨ok, o1, fun e => key none (o2 e), fun _ => ⟨n, hn, rfl⟩⟩
end NOD3
