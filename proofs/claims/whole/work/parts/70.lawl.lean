/-! the law: its loop -/
theorem lp_c {L k : Nat} (hL : L ≤ 2560) (hk : k ≤ 1000) : (Int32.ofNat L - 5 < nI (5 * k)) ↔ L < 5 * k + 5 := by
  rw [Int32.lt_iff_toInt_lt, show Int32.ofNat L - 5 = nI L - nI 5 from rfl, pk_sub_toInt (by omega) (by omega), nI_toInt (by omega)]
  omega
set_option maxHeartbeats 4000000 in
set_option maxRecDepth 100000 in
theorem law_loop {p : Program} {l : Launch} {e : Env} {s : State} {m : MethodId} {below : List Frame} {meth : Method} {c : Code} {Q : State → Prop} {dC : Nat → ClassId} {dI : Nat → Nat → Nat} {q : Nat → Nat} {cA : Nat → ClassId} {pt : Nat} {qr : Nat → Nat} {cR : Nat → ClassId} {ou : Nat} {cL : ClassId} {b L : Nat} {xs : Nat → Int32} (hfl : l.flags = pinnedFlags ++ [noTraceFlag]) (C : LC_ p s m c b L xs dC dI q cA pt qr cR ou cL) (hL : L ≤ 2560)
    (kend : ∀ (k : Nat) (H : Heap) (locs : List Loc) (ls : Array Slot), k ≤ 512 → va_S (AN_ s) s.heap H locs → W p l e room_1 s m #[Value.ref b] below meth c H locs (50 + k) (8998 + 6 * k) Q (F0 m 675 ls [])) :
    ∀ (n k : Nat), L < 5 * k + 5 * n → 5 * k ≤ L → ∀ (H : Heap) (locs : List Loc) (ls : Array Slot) (σ μ : MZ_) (f : Nat → Int64), LI_ s dC dI q cA qr cR ou cL σ μ f H locs → Vn_ σ μ → lv_has ls 7 [(0, .ref b), (1, .ref (q 0)), (2, .ref (qr 0)), (3, .ref ou), (4, .int (nI (5 * k)))] →
      W p l e room_1 s m #[Value.ref b] below meth c H locs (50 + k) (8998 + 6 * k) Q (F0 m 23 ls []) := by
  have C' := C
  obtain ⟨hx, hb, hml, hown, hts, hKX, hKR, hKO, hN, hZ, hE, hNC, hXs, hbl, hDX, hDR, hd, hno, hnw⟩ := C'
  have hbA : ¬ AN_ s b := Nat.not_le.mpr hbl
  intro n
  induction n with
  | zero => intro k h1 h2; omega
  | succ n ih =>
    intro k h1 h2 H locs ls σ μ f I hv hl
    have hS := I.2.2.2
    refine lv_iload hx hb d_law_23 (lv_at hl 4 rfl) ?_
    refine lv_aload_n hx hb d_law_25 rfl (lv_at hl 0 rfl) ?_
    refine va_slen hx hb hXs hbl hbA hS d_law_26 ?_
    refine lv_iconst (v := 5) hx hb d_law_27 (by decide) ?_
    refine lv_isub hx hb d_law_28 ?_
    refine lv_icmp_gt (tgt := 675) hx hb d_law_29 rfl (fun hc => ?_) (fun hc => ?_)
    · exact kend k H locs ls (by omega) hS
    · have hk : 5 * k + 5 ≤ L := by
        have h9 : ¬ L < 5 * k + 5 := fun z => hc ((lp_c hL (by omega)).mpr z)
        omega
      have kk : ∀ (H : Heap) (locs : List Loc) (ls : Array Slot) (σ μ : MZ_) (f : Nat → Int64), LI_ s dC dI q cA qr cR ou cL σ μ f H locs → Vn_ σ μ → lv_has ls 7 [(0, .ref b), (1, .ref (q 0)), (2, .ref (qr 0)), (3, .ref ou), (4, .int (nI (5 * k)))] → W p l e room_1 s m #[Value.ref b] below meth c H locs (50 + k + 1) (8998 + 6 * k + 6) Q (F0 m 669 ls []) := by
        intro H locs ls σ μ f I hv hl
        refine lv_iinc (v := nI (5 * (k + 1))) hx hb d_law_669 hl (k := 4) rfl (by show nI (5 * k) + nI 5 = _; rw [nI_add]; rfl) (by decide) rfl (fun ls hl => ?_)
        refine lv_goto (tgt := 23) hx hb d_law_672 rfl ?_
        refine W.widen (k := 50 + (k + 1)) (n := 8998 + 6 * (k + 1)) (by omega) (by omega) ?_
        exact ih (k + 1) (by omega) (by omega) H locs ls σ μ f I hv (lv_sub hl [1, 2, 3, 4, 0] rfl)
      refine lv_aload_n hx hb d_law_32 rfl (lv_at hl 0 rfl) ?_
      refine lv_iload hx hb d_law_33 (lv_at hl 4 rfl) ?_
      refine va_sld hx hb hXs hbl hbA hS (vp_in_nI (by omega) (by omega)) d_law_35 ?_
      refine lv_bipush (v := 15) hx hb d_law_36 (by decide) ?_
      refine lv_iand hx hb d_law_38 ?_
      obtain ⟨j, hj, ej⟩ := pk_andE (xs (nI (5 * k)).toNatClampNeg) (m := 15) 4 (by decide)
      rcases (show j = 0 ∨ j = 1 ∨ j = 2 ∨ j = 3 ∨ j = 4 ∨ j = 5 ∨ j = 6 ∨ j = 7 ∨ j = 8 ∨ j = 9 ∨ j = 10 ∨ j = 11 ∨ 12 ≤ j by omega) with rfl | rfl | rfl | rfl | rfl | rfl | rfl | rfl | rfl | rfl | rfl | rfl | hj12
      · refine sw_in (tgt := 100) hx hb d_law_39 ej (by decide) (by decide) rfl rfl ?_
        exact lc_node hfl C I hv hk hL hl kk
      · refine sw_in (tgt := 192) hx hb d_law_39 ej (by decide) (by decide) rfl rfl ?_
        exact lc_rule hfl C I hv hk hL hl kk
      · refine sw_in (tgt := 260) hx hb d_law_39 ej (by decide) (by decide) rfl rfl ?_
        exact lc_stage hfl C I hv hk hL hl kk
      · refine sw_in (tgt := 273) hx hb d_law_39 ej (by decide) (by decide) rfl rfl ?_
        exact lc_empty hfl C I hv hk hL hl kk
      · refine sw_in (tgt := 336) hx hb d_law_39 ej (by decide) (by decide) rfl rfl ?_
        exact lc_begins hfl C I hv hk hL hl kk
      · refine sw_in (tgt := 411) hx hb d_law_39 ej (by decide) (by decide) rfl rfl ?_
        exact lc_leads hfl C I hv hk hL hl kk
      · refine sw_in (tgt := 467) hx hb d_law_39 ej (by decide) (by decide) rfl rfl ?_
        exact lc_type hfl C I hv hk hL hl kk
      · refine sw_in (tgt := 525) hx hb d_law_39 ej (by decide) (by decide) rfl rfl ?_
        exact lc_clear hfl C I hv hk hL hl kk
      · refine sw_in (tgt := 538) hx hb d_law_39 ej (by decide) (by decide) rfl rfl ?_
        exact lc_parse hfl C I hv hk hL hl kk
      · refine sw_in (tgt := 594) hx hb d_law_39 ej (by decide) (by decide) rfl rfl ?_
        exact lc_latest hfl C I hv hk hL hl kk
      · refine sw_in (tgt := 619) hx hb d_law_39 ej (by decide) (by decide) rfl rfl ?_
        exact lc_register hfl C I hv hk hL hl kk
      · refine sw_in (tgt := 644) hx hb d_law_39 ej (by decide) (by decide) rfl rfl ?_
        exact lc_count hfl C I hv hk hL hl kk
      · refine lv_tableOut (tgt := 669) hx hb d_law_39 (Or.inr (by rw [ej, nI_toInt (by omega)]; omega)) rfl ?_
        refine W.widen (k := 50 + k + 1) (n := 8998 + 6 * k + 6) (by omega) (by omega) ?_
        exact kk _ _ _ _ _ _ I hv hl
