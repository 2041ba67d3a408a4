/-! what holds at the law's start -/
section STRT
theorem lt_t {w : Cond} (h : w ∈ tables_1) : w ∈ lw_tbl := List.mem_append_right _ h
theorem lt_1 {w : Cond} (i : Nat) (h : tables_1_1[i]? = some w) : w ∈ lw_tbl := lt_t (List.mem_append_left _ (List.mem_of_getElem? h))
theorem lt_2 {w : Cond} (i : Nat) (h : tables_1_2[i]? = some w) : w ∈ lw_tbl := lt_t (List.mem_append_right _ (List.mem_append_left _ (List.mem_of_getElem? h)))
theorem lt_3 {w : Cond} (i : Nat) (h : tables_1_3[i]? = some w) : w ∈ lw_tbl := lt_t (List.mem_append_right _ (List.mem_append_right _ (List.mem_append_left _ (List.mem_of_getElem? h))))
theorem lt_4 {w : Cond} (i : Nat) (h : tables_1_4[i]? = some w) : w ∈ lw_tbl := lt_t (List.mem_append_right _ (List.mem_append_right _ (List.mem_append_right _ (List.mem_append_left _ (List.mem_of_getElem? h)))))
theorem lt_5 {w : Cond} (i : Nat) (h : tables_1_5[i]? = some w) : w ∈ lw_tbl := lt_t (List.mem_append_right _ (List.mem_append_right _ (List.mem_append_right _ (List.mem_append_right _ (List.mem_of_getElem? h)))))
variable {s : State} {args : Array Value}
theorem st_K (hts : ∀ w ∈ AW_, w.before args s = true) : ∃ (dC : Nat → ClassId) (dI : Nat → Nat → Nat), va_K (dC, dI) cls_ [] s := by
  obtain ⟨c0, i0, h0⟩ := u_known hts uz_S (hts _ kw_19)
  obtain ⟨c1, i1, h1⟩ := u_known hts uz_G (hts _ kw_27)
  obtain ⟨c2, i2, h2⟩ := u_known hts uz_Y (hts _ kw_59)
  obtain ⟨c3, i3, h3⟩ := u_known hts uz_C (hts _ kw_85)
  obtain ⟨c4, i4, h4⟩ := u_known hts uz_T (hts _ kw_110)
  obtain ⟨c5, i5, h5⟩ := u_known hts uz_M (hts _ kw_124)
  obtain ⟨c6, i6, h6⟩ := u_known hts uz_F (hts _ kw_130)
  obtain ⟨c7, i7, h7⟩ := u_known hts uz_R (hts _ kw_806)
  refine ⟨fun c => ([c0, c1, c2, c3, c4, c5, c6, c7] : List ClassId).getD c 0, fun c => ([i0, i1, i2, i3, i4, i5, i6, i7] : List (Nat → Nat)).getD c (fun _ => 0), fun c x hx => ?_, fun k x hx => (by cases hx)⟩
  rcases (show c = 0 ∨ c = 1 ∨ c = 2 ∨ c = 3 ∨ c = 4 ∨ c = 5 ∨ c = 6 ∨ c = 7 ∨ 8 ≤ c by omega) with rfl | rfl | rfl | rfl | rfl | rfl | rfl | rfl | h8
  · cases hx; exact h0
  · cases hx; exact h1
  · cases hx; exact h2
  · cases hx; exact h3
  · cases hx; exact h4
  · cases hx; exact h5
  · cases hx; exact h6
  · cases hx; exact h7
  · have h9 : c < 8 := (List.getElem?_eq_some_iff.mp hx).1
    omega
theorem st_N (hts : ∀ w ∈ lw_tbl, w.before args s = true) : ∀ w ∈ NW_, va_Nw w s := by
  intro w hw
  unfold NW_ at hw
  simp only [List.mem_cons, List.not_mem_nil, or_false] at hw
  rcases hw with rfl | rfl | rfl | rfl | rfl | rfl | rfl | rfl | rfl | rfl
  · exact va_Nw.of rfl (hts _ (lt_1 86 rfl))
  · exact va_Nw.of rfl (hts _ (lt_1 111 rfl))
  · exact va_Nw.of rfl (hts _ (lt_1 131 rfl))
  · exact va_Nw.of rfl (hts _ (lt_2 9 rfl))
  · exact va_Nw.of rfl (hts _ (lt_2 168 rfl))
  · exact va_Nw.of rfl (hts _ (lt_2 192 rfl))
  · exact va_Nw.of rfl (hts _ (lt_2 202 rfl))
  · exact va_Nw.of rfl (hts _ (lt_3 58 rfl))
  · exact va_Nw.of rfl (hts _ (lt_4 32 rfl))
  · exact va_Nw.of rfl (hts _ (lt_4 40 rfl))
theorem eq_ev {t : Term} {z : Int32} (h : (Cond.eq t (.int z)).before args s = true) : t.eval args s none [] s = some (.int z) := by
  cases hv : t.eval args s none [] s with
  | none => simp [Cond.before, Cond.holds, Cond.value, hv] at h
  | some w =>
    have hz : (Term.int z).eval args s none [] s = some (.int z) := rfl
    simp only [Cond.before, Cond.holds, Cond.value, hv, hz] at h
    cases w <;> simp_all
theorem rf_ev {t : Term} (h : (Cond.isRef t).before args s = true) : ∃ u : RefV, t.eval args s none [] s = some u.v := by
  cases hv : t.eval args s none [] s with
  | none => simp [Cond.before, Cond.holds, Cond.value, hv] at h
  | some w =>
    simp only [Cond.before, Cond.holds, Cond.value, hv] at h
    exact ⟨⟨w, by cases w <;> simp_all [Value.isRef]⟩, rfl⟩
theorem an_old : ∀ a : Nat, a < s.heap.size → ¬ AN_ s a := fun _ h => Nat.not_le.mpr h
set_option maxRecDepth 100000 in
theorem st_X (hts : ∀ w ∈ lw_tbl, w.before args s = true) (hgv : (Jvm.Cond.and given_1 narrow_1).before args s = true) : ∃ pt, va_Z "StagedParsers" "PARTS" "[I" (.ref pt) (AN_ s) s s.heap ∧ va_T .int pt 14 (fun j => .int (PT_ j)) (AN_ s) s s.heap := by
  have hs := flat_of_before _ hgv
  have hel : ∀ j : Nat, j < 14 → (Term.elem (Term.static "StagedParsers" "PARTS" "[I") (.int (Int32.ofNat j))).eval args s none [] s = some (.int (PT_ j)) := by
    intro j hj
    rcases (show j = 0 ∨ j = 1 ∨ j = 2 ∨ j = 3 ∨ j = 4 ∨ j = 5 ∨ j = 6 ∨ j = 7 ∨ j = 8 ∨ j = 9 ∨ j = 10 ∨ j = 11 ∨ j = 12 ∨ j = 13 by omega) with rfl | rfl | rfl | rfl | rfl | rfl | rfl | rfl | rfl | rfl | rfl | rfl | rfl | rfl
    · exact eq_ev (hs (.eq (.elem (Term.static "StagedParsers" "PARTS" "[I") (.int 0)) (.int 0)) (by decide +kernel))
    · exact eq_ev (hs (.eq (.elem (Term.static "StagedParsers" "PARTS" "[I") (.int 1)) (.int 0)) (by decide +kernel))
    · exact eq_ev (hs (.eq (.elem (Term.static "StagedParsers" "PARTS" "[I") (.int 2)) (.int 0)) (by decide +kernel))
    · exact eq_ev (hs (.eq (.elem (Term.static "StagedParsers" "PARTS" "[I") (.int 3)) (.int 0)) (by decide +kernel))
    · exact eq_ev (hs (.eq (.elem (Term.static "StagedParsers" "PARTS" "[I") (.int 4)) (.int 2)) (by decide +kernel))
    · exact eq_ev (hs (.eq (.elem (Term.static "StagedParsers" "PARTS" "[I") (.int 5)) (.int 2)) (by decide +kernel))
    · exact eq_ev (hs (.eq (.elem (Term.static "StagedParsers" "PARTS" "[I") (.int 6)) (.int 1)) (by decide +kernel))
    · exact eq_ev (hs (.eq (.elem (Term.static "StagedParsers" "PARTS" "[I") (.int 7)) (.int 1)) (by decide +kernel))
    · exact eq_ev (hs (.eq (.elem (Term.static "StagedParsers" "PARTS" "[I") (.int 8)) (.int 1)) (by decide +kernel))
    · exact eq_ev (hs (.eq (.elem (Term.static "StagedParsers" "PARTS" "[I") (.int 9)) (.int 1)) (by decide +kernel))
    · exact eq_ev (hs (.eq (.elem (Term.static "StagedParsers" "PARTS" "[I") (.int 10)) (.int 2)) (by decide +kernel))
    · exact eq_ev (hs (.eq (.elem (Term.static "StagedParsers" "PARTS" "[I") (.int 11)) (.int 0)) (by decide +kernel))
    · exact eq_ev (hs (.eq (.elem (Term.static "StagedParsers" "PARTS" "[I") (.int 12)) (.int 1)) (by decide +kernel))
    · exact eq_ev (hs (.eq (.elem (Term.static "StagedParsers" "PARTS" "[I") (.int 13)) (.int 0)) (by decide +kernel))
  obtain ⟨t, h1, h2⟩ := va_Tof (tm := (Term.static "StagedParsers" "PARTS" "[I")) (ty := .int) (N := 14) (f := fun j => .int (PT_ j)) (A := AN_ s) (by decide) (hs (.arrayOf (Term.static "StagedParsers" "PARTS" "[I") .int) (by decide +kernel)) (eq_ev (hs (.eq (.length (Term.static "StagedParsers" "PARTS" "[I")) (.int 14)) (by decide +kernel))) hel an_old
  exact ⟨t, va_Zof (hts _ (lt_2 10 rfl)) (hts _ (lt_1 1 rfl)) h1 an_old, h2⟩
set_option maxRecDepth 100000 in
theorem st_E (hts : ∀ w ∈ lw_tbl, w.before args s = true) (hgv : (Jvm.Cond.and given_1 narrow_1).before args s = true) : EX_ (AN_ s) s := by
  have hs := flat_of_before _ hgv
  obtain ⟨u0, e0⟩ := rf_ev (hs (.isRef (.static Bundle.tN "UNASSIGNED_STACK" Bundle.steD)) (by decide +kernel))
  obtain ⟨u1, e1⟩ := rf_ev (hs (.isRef (.static Bundle.tN "SUPPRESSED_SENTINEL" Bundle.listD)) (by decide +kernel))
  have l0 : (Cond.laysStatic Bundle.tN "UNASSIGNED_STACK" Bundle.steD).before args s = true := hts _ (lt_2 230 rfl)
  have l1 : (Cond.laysStatic Bundle.tN "SUPPRESSED_SENTINEL" Bundle.listD).before args s = true := hts _ (lt_2 232 rfl)
  refine ⟨⟨u0, u1, va_Zof l0 (hts _ (lt_1 10 rfl)) e0 an_old, va_Zof l1 (hts _ (lt_1 10 rfl)) e1 an_old⟩, fun x hx => ?_, fun w hw => ?_, l0, l1⟩
  · have hcl : ∃ d, s.vm.findClass "StagedParsers" = some d := by
      obtain ⟨c, k, i, f, a, cell, hc, -⟩ := Cond.laysStatic_spec (hts _ (lt_2 10 rfl))
      exact ⟨c, hc⟩
    obtain ⟨dd, hdd⟩ := hcl
    have key : ∀ (k : Nat) (tx : String), (Cond.stringRef "StagedParsers" k tx).before args s = true → ∃ a, vk_R "StagedParsers" k tx a s := fun k tx h => by
      obtain ⟨k1, cf, i, a, -, -, -, -, -, hev⟩ := Cond.stringRef_spec hdd h
      exact ⟨a, vk_R.of h hev⟩
    simp only [ST_, List.mem_cons, List.not_mem_nil, or_false] at hx
    rcases hx with rfl | rfl | rfl | rfl | rfl | rfl | rfl | rfl | rfl | rfl | rfl | rfl
    · exact key _ _ (hts _ (lt_3 5 rfl))
    · exact key _ _ (hts _ (lt_3 45 rfl))
    · exact key _ _ (hts _ (lt_3 71 rfl))
    · exact key _ _ (hts _ (lt_3 83 rfl))
    · exact key _ _ (hts _ (lt_3 96 rfl))
    · exact key _ _ (hts _ (lt_3 116 rfl))
    · exact key _ _ (hts _ (lt_3 128 rfl))
    · exact key _ _ (hts _ (lt_3 133 rfl))
    · exact key _ _ (hts _ (lt_3 147 rfl))
    · exact key _ _ (hts _ (lt_3 149 rfl))
    · exact key _ _ (hts _ (lt_4 61 rfl))
    · exact key _ _ (hts _ (lt_4 77 rfl))
  · simp only [XW_, List.mem_cons, List.not_mem_nil, or_false] at hw
    rcases hw with rfl | rfl | rfl
    · exact va_Nw.of rfl (hts _ (lt_2 211 rfl))
    · exact va_Nw.of rfl (hts _ (lt_2 209 rfl))
    · exact va_Nw.of rfl (hts _ (lt_2 207 rfl))
set_option maxRecDepth 100000 in
theorem st_C (hgv : (Jvm.Cond.and given_1 narrow_1).before args s = true) : ∀ z ∈ NCL_, NC_ z.1 z.2 s := by
  have hs := flat_of_before _ hgv
  intro z hz
  simp only [NCL_, List.mem_cons, List.not_mem_nil, or_false] at hz
  rcases hz with rfl | rfl | rfl | rfl | rfl | rfl | rfl
  · exact NC_of (hs (.not (.castable "java/lang/IllegalStateException" "java/lang/IllegalArgumentException")) (by decide +kernel))
  · exact NC_of (hs (.not (.castable "java/lang/IllegalArgumentException" "java/lang/IllegalStateException")) (by decide +kernel))
  · exact NC_of (hs (.not (.castable "java/lang/UnsupportedOperationException" "java/lang/IllegalStateException")) (by decide +kernel))
  · exact NC_of (hs (.not (.castable "java/lang/UnsupportedOperationException" "java/lang/IllegalArgumentException")) (by decide +kernel))
  · exact NC_of (hs (.not (.castable "java/util/NoSuchElementException" "java/lang/IllegalStateException")) (by decide +kernel))
  · exact NC_of (hs (.not (.castable "java/util/NoSuchElementException" "java/lang/IllegalArgumentException")) (by decide +kernel))
  · exact NC_of (hs (.not (.castable "java/util/NoSuchElementException" "java/lang/UnsupportedOperationException")) (by decide +kernel))
theorem EX_narrow {A B : Nat → Prop} {U : State} (h : EX_ A U) (hAB : ∀ q, B q → A q) : EX_ B U := ⟨TZ_narrow h.1 hAB, h.2⟩
end STRT
