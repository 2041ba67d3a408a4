/-! Arrays.fill over a lone array of six places -/
def wF_ (b : Nat) (cB : ClassId) (σ : MZ_) : va_W := [(b, .inl (cB, 6, .inl (σ 7)))]
theorem wF_D (b : Nat) (cB : ClassId) (σ : MZ_) : va_D (fun a => a = b) (wF_ b cB σ) := by
  refine ⟨fun i j x y hi hj _ => ?_, fun k z hz => ?_⟩
  · cases i with
    | succ i => cases hi
    | zero => cases j with
      | succ j => cases hj
      | zero => rfl
  · cases k with
    | succ k => cases hz
    | zero => cases hz; rfl
set_option maxHeartbeats 4000000 in
set_option maxRecDepth 100000 in
theorem c_fill_ (l : Launch) (dC : Nat → ClassId) (dI : Nat → Nat → Nat) (b : Nat) (cB : ClassId) (σ : MZ_) (a1 : Int32) (u : MZ_) (h : f_A_fill_7 σ a1 = some u) : Met l y_A_fill w_A_fill rm_A_fill (va_Pc [.ref b, .int a1] (fun U => va_P (dC, dI) cls_ (wF_ b cB σ) U.heap ∧ va_K (dC, dI) cls_ [(cB, .int)] U)) (QW_ none (fun H => va_P (dC, dI) cls_ (wF_ b cB u) H) (fun a => a = b)) 0 0 (fun a => a = b) := by
  refine va_MetF (cc := prog_18_method_103_code) (maxL := 4) (ret := none) (by decide) rfl ?_
  intro p e s m args below meth c s₁ B hml hv
  obtain ⟨rfl, hP, hK⟩ := hv
  have hx := B.exec
  have hb := B.bytes
  have hr := B.returns
  have hts : ∀ w ∈ AW_, w.before _ s = true := fun w h => atoms_spec (ws := w_A_fill) B.pre w (List.mem_cons_of_mem _ h)
  have hown : s.vm.findClass "java/util/Arrays" = some m.cls := findClass_of_methodNamed B.named
  have hlocks := B.notSynchronized
  have hS : va_S (fun a => a = b) s.heap s.heap [] := va_S.rf
  have hl := lv_entry ([.ref b, .int a1]) (n := 4) (Nat.le_of_ble_eq_true rfl)
  rw [lg_entry_eq]
  generalize (lg_sl ([.ref b, .int a1]) ++ List.replicate (4 - (lg_sl ([.ref b, .int a1])).length) Slot.unset).toArray = ls at hl ⊢
  have hl : lv_has ls 4 [(0, .ref b), (1, .int a1)] := hl
  have L5 : ∀ (N5 : Nat) (σ : MZ_) (x1 : Int32) (x2 : Int32) (x3 : Int32), f_A_fill_7_L5 N5 σ x1 x2 x3 = some u → ∀ (H : Heap) (locs : List Loc) (ls : Array Slot), va_P (dC, dI) cls_ (wF_ b cB σ) H → va_S (fun a => a = b) s.heap H locs → lv_has ls 4 [(0, .ref b), (1, .int x1), (2, .int x2), (3, .int x3)] → W p l e (headSpec w_A_fill rm_A_fill).room s m ([.ref b, .int a1] : List Value).toArray below meth c H locs 0 0 (MQ below (QW_ none (fun H => va_P (dC, dI) cls_ (wF_ b cB u) H) (fun a => a = b)) ([.ref b, .int a1] : List Value).toArray s 0 0 (fun a => a = b)) (F0 m 5 ls []) := by
    intro N5
    induction N5 with
    | zero => intro σ x1 x2 x3 h; cases h
    | succ N5 ih5 =>
      intro σ x1 x2 x3 h H locs ls hP hS hl
      have hD : va_D (fun a => a = b) (wF_ b cB σ) := wF_D _ _ _
      rw [f_A_fill_7_L5] at h
      refine lv_iload_n hx hb d_A_fill_7_5 rfl (lv_at hl 2 rfl) ?_
      refine lv_iload_n hx hb d_A_fill_7_6 rfl (lv_at hl 3 rfl) ?_
      refine lv_icmp_ge (tgt := 20) hx hb d_A_fill_7_7 rfl (fun hc => ?_) (fun hc => ?_)
      · have h := if_t hc h
        obtain rfl := Option.some.inj h
        exact W.vret hx hb hr (fun t ht hW => ⟨rfl, by rw [ht]; exact hP, hS.F ht⟩) hS.2.2 d_A_fill_7_20
      · have h := if_f hc h
        refine lv_aload_n hx hb d_A_fill_7_10 rfl (lv_at hl 0 rfl) ?_
        refine lv_iload_n hx hb d_A_fill_7_11 rfl (lv_at hl 2 rfl) ?_
        refine lv_iload_n hx hb d_A_fill_7_12 rfl (lv_at hl 1 rfl) ?_
        obtain ⟨hgd, h⟩ := gd_some h
        refine va_iast (D := (dC, dI)) (cl := cls_) (ws := wF_ b cB σ) (tys := [(cB, .int)]) hx hb hK hP hD hS 0 0 rfl rfl hgd d_A_fill_7_13 (fun H locs hP _ hS => ?_)
        obtain ⟨σ1, eσ1, h⟩ := st_some h
        have hP : va_P (dC, dI) cls_ (wF_ b cB σ1) H := (by rw [eσ1]; exact hP)
        have hD : va_D (fun a => a = b) (wF_ b cB σ1) := wF_D _ _ _
        refine lv_iinc (v := x2 + 1) hx hb d_A_fill_7_14 hl (k := 2) rfl rfl (by decide) rfl (fun ls hl => ?_)
        have hl : lv_has ls 4 [(2, .int (x2 + 1)), (0, .ref b), (1, .int x1), (3, .int x3)] := hl
        refine lv_goto (tgt := 5) hx hb d_A_fill_7_17 rfl ?_
        exact ih5 _ _ _ _ h _ _ _ hP hS (lv_sub hl [1, 2, 0, 3] rfl)
  rw [f_A_fill_7] at h
  refine lv_iconst (v := 0) hx hb d_A_fill_7_0 (by decide) ?_
  refine lv_istore_n hx hb d_A_fill_7_1 rfl hl (by decide) rfl (fun ls hl => ?_)
  have hl : lv_has ls 4 [(2, .int 0), (0, .ref b), (1, .int a1)] := hl
  refine lv_aload_n hx hb d_A_fill_7_2 rfl (lv_at hl 1 rfl) ?_
  refine va_alen (D := (dC, dI)) (cl := cls_) (ws := wF_ b cB σ) (tys := [(cB, .int)]) hx hb hK hP 0 0 rfl rfl (show Int32.ofNat 6 = 6 by decide) d_A_fill_7_3 ?_
  refine lv_istore_n hx hb d_A_fill_7_4 rfl hl (by decide) rfl (fun ls hl => ?_)
  have hl : lv_has ls 4 [(3, .int 6), (2, .int 0), (0, .ref b), (1, .int a1)] := hl
  exact L5 _ _ _ _ _ h _ _ _ hP hS (lv_sub hl [2, 3, 1, 0] rfl)
theorem fill_is (σ : MZ_) : ∃ u, f_A_fill_7 σ (-1) = some u ∧ ∀ j, j < 6 → u 7 j = -1 := by
  refine ⟨_, rfl, fun j hj => ?_⟩
  rcases (show j = 0 ∨ j = 1 ∨ j = 2 ∨ j = 3 ∨ j = 4 ∨ j = 5 by omega) with rfl | rfl | rfl | rfl | rfl | rfl <;> rfl
