/-! the constructors -/
theorem na_i (cA : ClassId) (N : Nat) : vp_cell cA (N, .inl (fun _ => 0)) = arrV cA N (fun _ => defaultValue .int) := rfl
theorem na_b (cA : ClassId) (N : Nat) : vp_cell cA (N, .inl (fun _ => 0)) = arrV cA N (fun _ => defaultValue .boolean) := rfl
theorem na_c (cA : ClassId) (N : Nat) : vp_cell cA (N, .inl (fun _ => 0)) = arrV cA N (fun _ => defaultValue .char) := rfl
theorem na_l (cA : ClassId) (N : Nat) : vp_cell cA (N, .inr (.inl (fun _ => 0))) = arrV cA N (fun _ => defaultValue .long) := rfl
abbrev IU_ : Type := (Nat → Nat) × (Nat → ClassId) × (Nat → Int32)
def PI_ (dC : Nat → ClassId) (dI : Nat → Nat → Nat) (w : va_W) (sz : Nat) (U : State) : Prop := U.heap.size = sz ∧ va_P (dC, dI) cls_ w U.heap ∧ va_K (dC, dI) cls_ [] U ∧ va_D (fun _ => True) w ∧ ∀ x ∈ NW_, va_Nw x U
theorem pi_B {av : List Value} {dC : Nat → ClassId} {dI : Nat → Nat → Nat} {w : va_W} {sz : Nat} : FrameBlind (va_Pc av (PI_ dC dI w sz)) := by
  intro a U g mrk hq
  obtain ⟨q0, q1, qP, qK, qD, qN⟩ := hq
  exact ⟨q0, q1, qP, va_K.moved (u := U) (U := U.calling g mrk a) (Vm.Alike.refl U.vm) qK, qD, nw_same (s := U) (U := U.calling g mrk a) rfl qN⟩
theorem wf_join {A : Nat → Prop} {D : va_G} {cl : List vw_C} {wr : va_W} {b : Nat} {e0 : va_E} {H H1 : Heap} (hPr : va_P D cl wr H) (hD : va_D A (wr ++ [(b, e0)])) (hF : ∀ q : Nat, q < H.size → ¬ q = b → H1[q]? = H[q]?) : va_P D cl wr H1 :=
  hPr.kept (fun k z hz => hF _ (hPr k z hz).lt (fun e => by
    have hk : k < wr.length := (List.getElem?_eq_some_iff.mp hz).1
    have h9 := hD.1 k wr.length z (b, e0) (by rw [List.getElem?_append_left hk]; exact hz) (by rw [List.getElem?_append_right (Nat.le_refl _), Nat.sub_self]; rfl) e
    omega))
theorem fillB {dC : Nat → ClassId} {dI : Nat → Nat → Nat} {b : Nat} {cB : ClassId} {σ : MZ_} {av : List Value} : FrameBlind (va_Pc av (fun U => va_P (dC, dI) cls_ (wF_ b cB σ) U.heap ∧ va_K (dC, dI) cls_ [(cB, .int)] U)) := by
  intro a U g mrk hq
  obtain ⟨q0, qP, qK⟩ := hq
  exact ⟨q0, qP, va_K.moved (u := U) (U := U.calling g mrk a) (Vm.Alike.refl U.vm) qK⟩
