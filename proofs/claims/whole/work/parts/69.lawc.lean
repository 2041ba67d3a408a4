/-! the law: its twelve cases -/
set_option maxHeartbeats 4000000 in
set_option maxRecDepth 100000 in
theorem lc_node {p : Program} {l : Launch} {e : Env} {s : State} {m : MethodId} {below : List Frame} {meth : Method} {c : Code} {H : Heap} {locs : List Loc} {Q : State → Prop} {ls : Array Slot} {dC : Nat → ClassId} {dI : Nat → Nat → Nat} {q : Nat → Nat} {cA : Nat → ClassId} {pt : Nat} {qr : Nat → Nat} {cR : Nat → ClassId} {ou : Nat} {cL : ClassId} {σ μ : MZ_} {f : Nat → Int64} {b L : Nat} {xs : Nat → Int32} {k : Nat} (hfl : l.flags = pinnedFlags ++ [noTraceFlag]) (C : LC_ p s m c b L xs dC dI q cA pt qr cR ou cL) (I : LI_ s dC dI q cA qr cR ou cL σ μ f H locs) (hv : Vn_ σ μ) (hk : 5 * k + 5 ≤ L) (hL : L ≤ 2560) (hl : lv_has ls 7 [(0, .ref b), (1, .ref (q 0)), (2, .ref (qr 0)), (3, .ref ou), (4, .int (nI (5 * k)))]) (kk : ∀ (H : Heap) (locs : List Loc) (ls : Array Slot) (σ μ : MZ_) (f : Nat → Int64), LI_ s dC dI q cA qr cR ou cL σ μ f H locs → Vn_ σ μ → lv_has ls 7 [(0, .ref b), (1, .ref (q 0)), (2, .ref (qr 0)), (3, .ref ou), (4, .int (nI (5 * k)))] → W p l e room_1 s m #[Value.ref b] below meth c H locs (50 + k + 1) (8998 + 6 * k + 6) Q (F0 m 669 ls [])) : W p l e room_1 s m #[Value.ref b] below meth c H locs (50 + k) (8998 + 6 * k) Q (F0 m 100 ls []) := by
  have C' := C
  obtain ⟨hx, hb, hml, hown, hts, hKX, hKR, hKO, hN, hZ, hE, hNC, hXs, hbl, hDX, hDR, hd, hno, hnw⟩ := C'
  have hbA : ¬ AN_ s b := Nat.not_le.mpr hbl
  have hne : ¬ AX q ou := fun h => (hd ou h).2 rfl
  have hnO : ∀ a, AO_ q ou a → AN_ s a := fun a h => hnw a (h.elim Or.inl (fun h => Or.inr (Or.inr h)))
  have hnX : ∀ a, AX q a → AN_ s a := fun a h => hnw a (Or.inl h)
  have hnR : ∀ a, AR qr a → AN_ s a := fun a h => hnw a (Or.inr (Or.inl h))
  obtain ⟨hPX, hPR, hPO, hS⟩ := id I
  have vi1 : vp_in (nI (5 * k) + 1) L := vi_k (j := 1) hk hL (by omega)
  have vi2 : vp_in (nI (5 * k) + 2) L := vi_k (j := 2) hk hL (by omega)
  have vi3 : vp_in (nI (5 * k) + 3) L := vi_k (j := 3) hk hL (by omega)
  have vi4 : vp_in (nI (5 * k) + 4) L := vi_k (j := 4) hk hL (by omega)
  obtain ⟨kq, σ2, f2, y, μ2, hH, hR2, hv2, h30, hf2⟩ := un_node (a1 := (xs (nI (5 * k) + 1).toNatClampNeg)) (a2 := (xs (nI (5 * k) + 2).toNatClampNeg)) (a3 := (xs (nI (5 * k) + 3).toNatClampNeg)) (a4 := (xs (nI (5 * k) + 4).toNatClampNeg)) f hv
  refine lv_aload_n hx hb d_law_100 rfl (lv_at hl 1 rfl) ?_
  refine lv_aload_n hx hb d_law_101 rfl (lv_at hl 0 rfl) ?_
  refine lv_iload hx hb d_law_102 (lv_at hl 4 rfl) ?_
  refine lv_iconst (v := 1) hx hb d_law_104 (by decide) ?_
  refine lv_iadd hx hb d_law_105 ?_
  refine va_sld hx hb hXs hbl hbA hS vi1 d_law_106 ?_
  refine lv_aload_n hx hb d_law_107 rfl (lv_at hl 0 rfl) ?_
  refine lv_iload hx hb d_law_108 (lv_at hl 4 rfl) ?_
  refine lv_iconst (v := 2) hx hb d_law_110 (by decide) ?_
  refine lv_iadd hx hb d_law_111 ?_
  refine va_sld hx hb hXs hbl hbA hS vi2 d_law_112 ?_
  refine lv_aload_n hx hb d_law_113 rfl (lv_at hl 0 rfl) ?_
  refine lv_iload hx hb d_law_114 (lv_at hl 4 rfl) ?_
  refine lv_iconst (v := 3) hx hb d_law_116 (by decide) ?_
  refine lv_iadd hx hb d_law_117 ?_
  refine va_sld hx hb hXs hbl hbA hS vi3 d_law_118 ?_
  refine lv_aload_n hx hb d_law_119 rfl (lv_at hl 0 rfl) ?_
  refine lv_iload hx hb d_law_120 (lv_at hl 4 rfl) ?_
  refine lv_iconst (v := 4) hx hb d_law_122 (by decide) ?_
  refine lv_iadd hx hb d_law_123 ?_
  refine va_sld hx hb hXs hbl hbA hS vi4 d_law_124 ?_
  refine lv_aload_n hx hb d_law_125 rfl (lv_at hl 3 rfl) ?_
  refine cx_wrM (cx_runSW (n := 6) (As := [.ref (q 0), .int (xs (nI (5 * k) + 1).toNatClampNeg), .int (xs (nI (5 * k) + 2).toNatClampNeg), .int (xs (nI (5 * k) + 3).toNatClampNeg), .int (xs (nI (5 * k) + 4).toNatClampNeg), .ref ou]) (rest := []) ⟨hx, hb, hml, hown, hts⟩ (c_L_node l hfl dC dI q cA pt σ (xs (nI (5 * k) + 1).toNatClampNeg) (xs (nI (5 * k) + 2).toNatClampNeg) (xs (nI (5 * k) + 3).toNatClampNeg) (xs (nI (5 * k) + 4).toNatClampNeg) ou cL f kq σ2 f2 hH) rfl rfl ⟨Nat.le_of_ble_eq_true rfl, Nat.le_of_ble_eq_true rfl⟩ (aw_inW kw_421) List.mem_cons_self (hts _ kw_0) ⟨by decide, by decide, by decide +kernel⟩ (hts _ kw_419) (hts _ kw_420) ⟨po_B, po_L hPX hPO hKX hKO (hDX σ) hN hZ hE hne hNC hS⟩ rfl rfl hl.1 rfl (lv_room (Nat.le_of_ble_eq_true rfl)) d_law_126 ⟨by show 50 + k + 1 ≤ 1086; omega, by show 8998 + 6 * k + 6 ≤ 17262; omega⟩) hS hnO (fun H locs hB hF hS => ?_)
  have I := li_O C I hB hF hS
  obtain ⟨hPX, hPR, hPO, hS⟩ := id I
  refine lv_istore hx hb d_law_129 hl (by decide) rfl (fun ls hl => ?_)
  have hl : lv_has ls 7 [(5, .int kq), (0, .ref b), (1, .ref (q 0)), (2, .ref (qr 0)), (3, .ref ou), (4, .int (nI (5 * k)))] := hl
  refine lv_aload_n hx hb d_law_131 rfl (lv_at hl 3 rfl) ?_
  refine lv_aload_n hx hb d_law_132 rfl (lv_at hl 1 rfl) ?_
  refine lv_iload hx hb d_law_133 (lv_at hl 5 rfl) ?_
  refine lv_iconst (v := 1) hx hb d_law_135 (by decide) ?_
  refine lv_iadd hx hb d_law_136 ?_
  refine va_sld hx hb hXs hbl hbA hS vi1 d_law_137 ?_
  refine lv_aload_n hx hb d_law_138 rfl (lv_at hl 1 rfl) ?_
  refine lv_iload hx hb d_law_139 (lv_at hl 5 rfl) ?_
  refine lv_iconst (v := 2) hx hb d_law_141 (by decide) ?_
  refine lv_iadd hx hb d_law_142 ?_
  refine va_sld hx hb hXs hbl hbA hS vi2 d_law_143 ?_
  refine lv_aload_n hx hb d_law_144 rfl (lv_at hl 1 rfl) ?_
  refine lv_iload hx hb d_law_145 (lv_at hl 5 rfl) ?_
  refine lv_iconst (v := 3) hx hb d_law_147 (by decide) ?_
  refine lv_iadd hx hb d_law_148 ?_
  refine va_sld hx hb hXs hbl hbA hS vi3 d_law_149 ?_
  refine lv_aload_n hx hb d_law_150 rfl (lv_at hl 1 rfl) ?_
  refine lv_iload hx hb d_law_151 (lv_at hl 5 rfl) ?_
  refine lv_iconst (v := 4) hx hb d_law_153 (by decide) ?_
  refine lv_iadd hx hb d_law_154 ?_
  refine va_sld hx hb hXs hbl hbA hS vi4 d_law_155 ?_
  refine cx_wr (va_runV (As := [.int (xs (nI (5 * k) + 1).toNatClampNeg), .int (xs (nI (5 * k) + 2).toNatClampNeg), .int (xs (nI (5 * k) + 3).toNatClampNeg), .int (xs (nI (5 * k) + 4).toNatClampNeg)]) (rest := []) ⟨hx, hb, hml, hown, hts⟩ (c_R_node l dC dI qr cR μ (xs (nI (5 * k) + 1).toNatClampNeg) (xs (nI (5 * k) + 2).toNatClampNeg) (xs (nI (5 * k) + 3).toNatClampNeg) (xs (nI (5 * k) + 4).toNatClampNeg) (y, μ2) hR2) (cw_L_53 hts ⟨Nat.le_of_ble_eq_true rfl, Nat.le_of_ble_eq_true rfl⟩) ⟨pxR_B, va_recv hKR hPR (ci := 7) (q0 := 0) rfl rfl, pr_L hPR hKR (hDR μ)⟩ rfl rfl hl.1 rfl (lv_room (Nat.le_of_ble_eq_true rfl)) d_law_156 ⟨by show 50 + k + 1 + 0 ≤ 1086; omega, by show 8998 + 6 * k + 6 + 0 ≤ 17262; omega⟩) hS hnR (fun H locs hB hF hS => ?_)
  have I := li_R C I hB hF hS
  obtain ⟨hPX, hPR, hPO, hS⟩ := id I
  refine lv_istore hx hb d_law_159 hl (by decide) rfl (fun ls hl => ?_)
  have hl : lv_has ls 7 [(6, .int y), (5, .int kq), (0, .ref b), (1, .ref (q 0)), (2, .ref (qr 0)), (3, .ref ou), (4, .int (nI (5 * k)))] := hl
  refine lv_aload_n hx hb d_law_161 rfl (lv_at hl 4 rfl) ?_
  refine cx_read (va_runV (As := []) (rest := []) ⟨hx, hb, hml, hown, hts⟩ (c_R_thrown l dC dI qr cR μ2 (μ2 30 0) rfl) (cw_L_54 hts ⟨Nat.le_of_ble_eq_true rfl, Nat.le_of_ble_eq_true rfl⟩) ⟨pxR_B, va_recv hKR hPR (ci := 7) (q0 := 0) rfl rfl, pr_L hPR hKR (hDR μ2)⟩ rfl rfl hl.1 rfl (lv_room (Nat.le_of_ble_eq_true rfl)) d_law_162 ⟨by show 50 + k + 1 + 0 ≤ 1086; omega, by show 8998 + 6 * k + 6 + 0 ≤ 17262; omega⟩) ?_
  refine lv_iload hx hb d_law_165 (lv_at hl 1 rfl) ?_
  refine lv_icmp_eq (tgt := 172) hx hb d_law_167 rfl (fun hc => ?_) (fun hc => absurd h30 hc)
  refine lv_iload hx hb d_law_172 (lv_at hl 1 rfl) ?_
  refine lv_if_ne (tgt := 189) hx hb d_law_174 rfl (fun hc => ?_) (fun hc => ?_)
  · refine lv_goto (tgt := 669) hx hb d_law_189 rfl ?_
    exact kk _ _ _ _ _ _ I hv2 (lv_sub hl [2, 3, 4, 5, 6] rfl)
  · refine lv_aload_n hx hb d_law_177 rfl (lv_at hl 5 rfl) ?_
    refine lv_iconst (v := 0) hx hb d_law_178 (by decide) ?_
    refine va_lald (ws := ow_ ou cL f2) (tys := [(cL, .long)]) hx hb hKO hPO 0 0 rfl rfl vi_0 d_law_179 ?_
    rw [show f2 (0 : Int32).toNatClampNeg = y.toInt64 by rw [sb_cl0]; exact hf2 hc]
    refine lv_iload hx hb d_law_180 (lv_at hl 0 rfl) ?_
    refine lv_i2l (v := y.toInt64) hx hb d_law_182 rfl ?_
    refine W.lcmp hx hb d_law_183 ?_
    rw [lg_same]
    refine lv_if_eq (tgt := 189) hx hb d_law_184 rfl (fun _ => ?_) (fun hc => absurd rfl hc)
    refine lv_goto (tgt := 669) hx hb d_law_189 rfl ?_
    exact kk _ _ _ _ _ _ I hv2 (lv_sub hl [2, 3, 4, 5, 6] rfl)
set_option maxHeartbeats 4000000 in
set_option maxRecDepth 100000 in
theorem lc_rule {p : Program} {l : Launch} {e : Env} {s : State} {m : MethodId} {below : List Frame} {meth : Method} {c : Code} {H : Heap} {locs : List Loc} {Q : State → Prop} {ls : Array Slot} {dC : Nat → ClassId} {dI : Nat → Nat → Nat} {q : Nat → Nat} {cA : Nat → ClassId} {pt : Nat} {qr : Nat → Nat} {cR : Nat → ClassId} {ou : Nat} {cL : ClassId} {σ μ : MZ_} {f : Nat → Int64} {b L : Nat} {xs : Nat → Int32} {k : Nat} (hfl : l.flags = pinnedFlags ++ [noTraceFlag]) (C : LC_ p s m c b L xs dC dI q cA pt qr cR ou cL) (I : LI_ s dC dI q cA qr cR ou cL σ μ f H locs) (hv : Vn_ σ μ) (hk : 5 * k + 5 ≤ L) (hL : L ≤ 2560) (hl : lv_has ls 7 [(0, .ref b), (1, .ref (q 0)), (2, .ref (qr 0)), (3, .ref ou), (4, .int (nI (5 * k)))]) (kk : ∀ (H : Heap) (locs : List Loc) (ls : Array Slot) (σ μ : MZ_) (f : Nat → Int64), LI_ s dC dI q cA qr cR ou cL σ μ f H locs → Vn_ σ μ → lv_has ls 7 [(0, .ref b), (1, .ref (q 0)), (2, .ref (qr 0)), (3, .ref ou), (4, .int (nI (5 * k)))] → W p l e room_1 s m #[Value.ref b] below meth c H locs (50 + k + 1) (8998 + 6 * k + 6) Q (F0 m 669 ls [])) : W p l e room_1 s m #[Value.ref b] below meth c H locs (50 + k) (8998 + 6 * k) Q (F0 m 192 ls []) := by
  have C' := C
  obtain ⟨hx, hb, hml, hown, hts, hKX, hKR, hKO, hN, hZ, hE, hNC, hXs, hbl, hDX, hDR, hd, hno, hnw⟩ := C'
  have hbA : ¬ AN_ s b := Nat.not_le.mpr hbl
  have hne : ¬ AX q ou := fun h => (hd ou h).2 rfl
  have hnO : ∀ a, AO_ q ou a → AN_ s a := fun a h => hnw a (h.elim Or.inl (fun h => Or.inr (Or.inr h)))
  have hnX : ∀ a, AX q a → AN_ s a := fun a h => hnw a (Or.inl h)
  have hnR : ∀ a, AR qr a → AN_ s a := fun a h => hnw a (Or.inr (Or.inl h))
  obtain ⟨hPX, hPR, hPO, hS⟩ := id I
  have vi1 : vp_in (nI (5 * k) + 1) L := vi_k (j := 1) hk hL (by omega)
  have vi2 : vp_in (nI (5 * k) + 2) L := vi_k (j := 2) hk hL (by omega)
  have vi3 : vp_in (nI (5 * k) + 3) L := vi_k (j := 3) hk hL (by omega)
  have vi4 : vp_in (nI (5 * k) + 4) L := vi_k (j := 4) hk hL (by omega)
  obtain ⟨kq, σ2, f2, y, μ2, hH, hR2, hv2, h30, hf2⟩ := un_rule (a1 := (xs (nI (5 * k) + 1).toNatClampNeg)) (a2 := (xs (nI (5 * k) + 2).toNatClampNeg)) f hv
  refine lv_aload_n hx hb d_law_192 rfl (lv_at hl 1 rfl) ?_
  refine lv_aload_n hx hb d_law_193 rfl (lv_at hl 0 rfl) ?_
  refine lv_iload hx hb d_law_194 (lv_at hl 4 rfl) ?_
  refine lv_iconst (v := 1) hx hb d_law_196 (by decide) ?_
  refine lv_iadd hx hb d_law_197 ?_
  refine va_sld hx hb hXs hbl hbA hS vi1 d_law_198 ?_
  refine lv_aload_n hx hb d_law_199 rfl (lv_at hl 0 rfl) ?_
  refine lv_iload hx hb d_law_200 (lv_at hl 4 rfl) ?_
  refine lv_iconst (v := 2) hx hb d_law_202 (by decide) ?_
  refine lv_iadd hx hb d_law_203 ?_
  refine va_sld hx hb hXs hbl hbA hS vi2 d_law_204 ?_
  refine lv_aload_n hx hb d_law_205 rfl (lv_at hl 3 rfl) ?_
  refine cx_wrM (cx_runSW (n := 4) (As := [.ref (q 0), .int (xs (nI (5 * k) + 1).toNatClampNeg), .int (xs (nI (5 * k) + 2).toNatClampNeg), .ref ou]) (rest := []) ⟨hx, hb, hml, hown, hts⟩ (c_L_rule l hfl dC dI q cA pt σ (xs (nI (5 * k) + 1).toNatClampNeg) (xs (nI (5 * k) + 2).toNatClampNeg) ou cL f kq σ2 f2 hH) rfl rfl ⟨Nat.le_of_ble_eq_true rfl, Nat.le_of_ble_eq_true rfl⟩ (aw_inW kw_544) List.mem_cons_self (hts _ kw_0) ⟨by decide, by decide, by decide +kernel⟩ (hts _ kw_542) (hts _ kw_543) ⟨po_B, po_L hPX hPO hKX hKO (hDX σ) hN hZ hE hne hNC hS⟩ rfl rfl hl.1 rfl (lv_room (Nat.le_of_ble_eq_true rfl)) d_law_206 ⟨by show 50 + k + 1 ≤ 1086; omega, by show 8998 + 6 * k + 6 ≤ 17262; omega⟩) hS hnO (fun H locs hB hF hS => ?_)
  have I := li_O C I hB hF hS
  obtain ⟨hPX, hPR, hPO, hS⟩ := id I
  refine lv_istore hx hb d_law_209 hl (by decide) rfl (fun ls hl => ?_)
  have hl : lv_has ls 7 [(5, .int kq), (0, .ref b), (1, .ref (q 0)), (2, .ref (qr 0)), (3, .ref ou), (4, .int (nI (5 * k)))] := hl
  refine lv_aload_n hx hb d_law_211 rfl (lv_at hl 3 rfl) ?_
  refine lv_aload_n hx hb d_law_212 rfl (lv_at hl 1 rfl) ?_
  refine lv_iload hx hb d_law_213 (lv_at hl 5 rfl) ?_
  refine lv_iconst (v := 1) hx hb d_law_215 (by decide) ?_
  refine lv_iadd hx hb d_law_216 ?_
  refine va_sld hx hb hXs hbl hbA hS vi1 d_law_217 ?_
  refine lv_aload_n hx hb d_law_218 rfl (lv_at hl 1 rfl) ?_
  refine lv_iload hx hb d_law_219 (lv_at hl 5 rfl) ?_
  refine lv_iconst (v := 2) hx hb d_law_221 (by decide) ?_
  refine lv_iadd hx hb d_law_222 ?_
  refine va_sld hx hb hXs hbl hbA hS vi2 d_law_223 ?_
  refine cx_wr (va_runV (As := [.int (xs (nI (5 * k) + 1).toNatClampNeg), .int (xs (nI (5 * k) + 2).toNatClampNeg)]) (rest := []) ⟨hx, hb, hml, hown, hts⟩ (c_R_rule l dC dI qr cR μ (xs (nI (5 * k) + 1).toNatClampNeg) (xs (nI (5 * k) + 2).toNatClampNeg) (y, μ2) hR2) (cw_L_61 hts ⟨Nat.le_of_ble_eq_true rfl, Nat.le_of_ble_eq_true rfl⟩) ⟨pxR_B, va_recv hKR hPR (ci := 7) (q0 := 0) rfl rfl, pr_L hPR hKR (hDR μ)⟩ rfl rfl hl.1 rfl (lv_room (Nat.le_of_ble_eq_true rfl)) d_law_224 ⟨by show 50 + k + 1 + 0 ≤ 1086; omega, by show 8998 + 6 * k + 6 + 0 ≤ 17262; omega⟩) hS hnR (fun H locs hB hF hS => ?_)
  have I := li_R C I hB hF hS
  obtain ⟨hPX, hPR, hPO, hS⟩ := id I
  refine lv_istore hx hb d_law_227 hl (by decide) rfl (fun ls hl => ?_)
  have hl : lv_has ls 7 [(6, .int y), (5, .int kq), (0, .ref b), (1, .ref (q 0)), (2, .ref (qr 0)), (3, .ref ou), (4, .int (nI (5 * k)))] := hl
  refine lv_aload_n hx hb d_law_229 rfl (lv_at hl 4 rfl) ?_
  refine cx_read (va_runV (As := []) (rest := []) ⟨hx, hb, hml, hown, hts⟩ (c_R_thrown l dC dI qr cR μ2 (μ2 30 0) rfl) (cw_L_54 hts ⟨Nat.le_of_ble_eq_true rfl, Nat.le_of_ble_eq_true rfl⟩) ⟨pxR_B, va_recv hKR hPR (ci := 7) (q0 := 0) rfl rfl, pr_L hPR hKR (hDR μ2)⟩ rfl rfl hl.1 rfl (lv_room (Nat.le_of_ble_eq_true rfl)) d_law_230 ⟨by show 50 + k + 1 + 0 ≤ 1086; omega, by show 8998 + 6 * k + 6 + 0 ≤ 17262; omega⟩) ?_
  refine lv_iload hx hb d_law_233 (lv_at hl 1 rfl) ?_
  refine lv_icmp_eq (tgt := 240) hx hb d_law_235 rfl (fun hc => ?_) (fun hc => absurd h30 hc)
  refine lv_iload hx hb d_law_240 (lv_at hl 1 rfl) ?_
  refine lv_if_ne (tgt := 257) hx hb d_law_242 rfl (fun hc => ?_) (fun hc => ?_)
  · refine lv_goto (tgt := 669) hx hb d_law_257 rfl ?_
    exact kk _ _ _ _ _ _ I hv2 (lv_sub hl [2, 3, 4, 5, 6] rfl)
  · refine lv_aload_n hx hb d_law_245 rfl (lv_at hl 5 rfl) ?_
    refine lv_iconst (v := 0) hx hb d_law_246 (by decide) ?_
    refine va_lald (ws := ow_ ou cL f2) (tys := [(cL, .long)]) hx hb hKO hPO 0 0 rfl rfl vi_0 d_law_247 ?_
    rw [show f2 (0 : Int32).toNatClampNeg = y.toInt64 by rw [sb_cl0]; exact hf2 hc]
    refine lv_iload hx hb d_law_248 (lv_at hl 0 rfl) ?_
    refine lv_i2l (v := y.toInt64) hx hb d_law_250 rfl ?_
    refine W.lcmp hx hb d_law_251 ?_
    rw [lg_same]
    refine lv_if_eq (tgt := 257) hx hb d_law_252 rfl (fun _ => ?_) (fun hc => absurd rfl hc)
    refine lv_goto (tgt := 669) hx hb d_law_257 rfl ?_
    exact kk _ _ _ _ _ _ I hv2 (lv_sub hl [2, 3, 4, 5, 6] rfl)
set_option maxHeartbeats 4000000 in
set_option maxRecDepth 100000 in
theorem lc_stage {p : Program} {l : Launch} {e : Env} {s : State} {m : MethodId} {below : List Frame} {meth : Method} {c : Code} {H : Heap} {locs : List Loc} {Q : State → Prop} {ls : Array Slot} {dC : Nat → ClassId} {dI : Nat → Nat → Nat} {q : Nat → Nat} {cA : Nat → ClassId} {pt : Nat} {qr : Nat → Nat} {cR : Nat → ClassId} {ou : Nat} {cL : ClassId} {σ μ : MZ_} {f : Nat → Int64} {b L : Nat} {xs : Nat → Int32} {k : Nat} (hfl : l.flags = pinnedFlags ++ [noTraceFlag]) (C : LC_ p s m c b L xs dC dI q cA pt qr cR ou cL) (I : LI_ s dC dI q cA qr cR ou cL σ μ f H locs) (hv : Vn_ σ μ) (hk : 5 * k + 5 ≤ L) (hL : L ≤ 2560) (hl : lv_has ls 7 [(0, .ref b), (1, .ref (q 0)), (2, .ref (qr 0)), (3, .ref ou), (4, .int (nI (5 * k)))]) (kk : ∀ (H : Heap) (locs : List Loc) (ls : Array Slot) (σ μ : MZ_) (f : Nat → Int64), LI_ s dC dI q cA qr cR ou cL σ μ f H locs → Vn_ σ μ → lv_has ls 7 [(0, .ref b), (1, .ref (q 0)), (2, .ref (qr 0)), (3, .ref ou), (4, .int (nI (5 * k)))] → W p l e room_1 s m #[Value.ref b] below meth c H locs (50 + k + 1) (8998 + 6 * k + 6) Q (F0 m 669 ls [])) : W p l e room_1 s m #[Value.ref b] below meth c H locs (50 + k) (8998 + 6 * k) Q (F0 m 260 ls []) := by
  have C' := C
  obtain ⟨hx, hb, hml, hown, hts, hKX, hKR, hKO, hN, hZ, hE, hNC, hXs, hbl, hDX, hDR, hd, hno, hnw⟩ := C'
  have hbA : ¬ AN_ s b := Nat.not_le.mpr hbl
  have hne : ¬ AX q ou := fun h => (hd ou h).2 rfl
  have hnO : ∀ a, AO_ q ou a → AN_ s a := fun a h => hnw a (h.elim Or.inl (fun h => Or.inr (Or.inr h)))
  have hnX : ∀ a, AX q a → AN_ s a := fun a h => hnw a (Or.inl h)
  have hnR : ∀ a, AR qr a → AN_ s a := fun a h => hnw a (Or.inr (Or.inl h))
  obtain ⟨hPX, hPR, hPO, hS⟩ := id I
  have vi1 : vp_in (nI (5 * k) + 1) L := vi_k (j := 1) hk hL (by omega)
  have vi2 : vp_in (nI (5 * k) + 2) L := vi_k (j := 2) hk hL (by omega)
  have vi3 : vp_in (nI (5 * k) + 3) L := vi_k (j := 3) hk hL (by omega)
  have vi4 : vp_in (nI (5 * k) + 4) L := vi_k (j := 4) hk hL (by omega)
  obtain ⟨x, σ2, μ2, e1, e2, hv2, -⟩ := vn_stage hv
  refine lv_aload_n hx hb d_law_260 rfl (lv_at hl 1 rfl) ?_
  refine cx_wr (va_runV (As := []) (rest := []) ⟨hx, hb, hml, hown, hts⟩ (c_S_stage l dC dI q cA pt σ _ e1) (cw_L_62 hts ⟨Nat.le_of_ble_eq_true rfl, Nat.le_of_ble_eq_true rfl⟩) ⟨pxX_B, va_recv hKX hPX (ci := 0) (q0 := 0) rfl rfl, px_L hPX hKX (hDX σ) hN hZ hS⟩ rfl rfl hl.1 rfl (lv_room (Nat.le_of_ble_eq_true rfl)) d_law_261 ⟨by show 50 + k + 0 ≤ 1086; omega, by show 8998 + 6 * k + 0 ≤ 17262; omega⟩) hS hnX (fun H locs hB hF hS => ?_)
  have I := li_X C I hB hF hS
  obtain ⟨hPX, hPR, hPO, hS⟩ := id I
  refine lv_aload_n hx hb d_law_264 rfl (lv_at hl 2 rfl) ?_
  refine cx_wr (va_runV (As := []) (rest := [.int x]) ⟨hx, hb, hml, hown, hts⟩ (c_R_stage l dC dI qr cR μ _ e2) (cw_L_65 hts ⟨Nat.le_of_ble_eq_true rfl, Nat.le_of_ble_eq_true rfl⟩) ⟨pxR_B, va_recv hKR hPR (ci := 7) (q0 := 0) rfl rfl, pr_L hPR hKR (hDR μ)⟩ rfl rfl hl.1 rfl (lv_room (Nat.le_of_ble_eq_true rfl)) d_law_265 ⟨by show 50 + k + 0 ≤ 1086; omega, by show 8998 + 6 * k + 0 ≤ 17262; omega⟩) hS hnR (fun H locs hB hF hS => ?_)
  have I := li_R C I hB hF hS
  refine lv_icmp_eq (tgt := 669) hx hb d_law_268 rfl (fun hc => ?_) (fun hc => absurd rfl hc)
  refine W.widen (k := 50 + k + 1) (n := 8998 + 6 * k + 6) (by omega) (by omega) ?_
  exact kk _ _ _ _ _ _ I hv2 hl
set_option maxHeartbeats 4000000 in
set_option maxRecDepth 100000 in
theorem lc_empty {p : Program} {l : Launch} {e : Env} {s : State} {m : MethodId} {below : List Frame} {meth : Method} {c : Code} {H : Heap} {locs : List Loc} {Q : State → Prop} {ls : Array Slot} {dC : Nat → ClassId} {dI : Nat → Nat → Nat} {q : Nat → Nat} {cA : Nat → ClassId} {pt : Nat} {qr : Nat → Nat} {cR : Nat → ClassId} {ou : Nat} {cL : ClassId} {σ μ : MZ_} {f : Nat → Int64} {b L : Nat} {xs : Nat → Int32} {k : Nat} (hfl : l.flags = pinnedFlags ++ [noTraceFlag]) (C : LC_ p s m c b L xs dC dI q cA pt qr cR ou cL) (I : LI_ s dC dI q cA qr cR ou cL σ μ f H locs) (hv : Vn_ σ μ) (hk : 5 * k + 5 ≤ L) (hL : L ≤ 2560) (hl : lv_has ls 7 [(0, .ref b), (1, .ref (q 0)), (2, .ref (qr 0)), (3, .ref ou), (4, .int (nI (5 * k)))]) (kk : ∀ (H : Heap) (locs : List Loc) (ls : Array Slot) (σ μ : MZ_) (f : Nat → Int64), LI_ s dC dI q cA qr cR ou cL σ μ f H locs → Vn_ σ μ → lv_has ls 7 [(0, .ref b), (1, .ref (q 0)), (2, .ref (qr 0)), (3, .ref ou), (4, .int (nI (5 * k)))] → W p l e room_1 s m #[Value.ref b] below meth c H locs (50 + k + 1) (8998 + 6 * k + 6) Q (F0 m 669 ls [])) : W p l e room_1 s m #[Value.ref b] below meth c H locs (50 + k) (8998 + 6 * k) Q (F0 m 273 ls []) := by
  have C' := C
  obtain ⟨hx, hb, hml, hown, hts, hKX, hKR, hKO, hN, hZ, hE, hNC, hXs, hbl, hDX, hDR, hd, hno, hnw⟩ := C'
  have hbA : ¬ AN_ s b := Nat.not_le.mpr hbl
  have hne : ¬ AX q ou := fun h => (hd ou h).2 rfl
  have hnO : ∀ a, AO_ q ou a → AN_ s a := fun a h => hnw a (h.elim Or.inl (fun h => Or.inr (Or.inr h)))
  have hnX : ∀ a, AX q a → AN_ s a := fun a h => hnw a (Or.inl h)
  have hnR : ∀ a, AR qr a → AN_ s a := fun a h => hnw a (Or.inr (Or.inl h))
  obtain ⟨hPX, hPR, hPO, hS⟩ := id I
  have vi1 : vp_in (nI (5 * k) + 1) L := vi_k (j := 1) hk hL (by omega)
  have vi2 : vp_in (nI (5 * k) + 2) L := vi_k (j := 2) hk hL (by omega)
  have vi3 : vp_in (nI (5 * k) + 3) L := vi_k (j := 3) hk hL (by omega)
  have vi4 : vp_in (nI (5 * k) + 4) L := vi_k (j := 4) hk hL (by omega)
  obtain ⟨kq, σ2, f2, y, μ2, hH, hR2, hv2, h30, hf2⟩ := un_empty (a1 := (xs (nI (5 * k) + 1).toNatClampNeg)) f hv
  refine lv_aload_n hx hb d_law_273 rfl (lv_at hl 1 rfl) ?_
  refine lv_aload_n hx hb d_law_274 rfl (lv_at hl 0 rfl) ?_
  refine lv_iload hx hb d_law_275 (lv_at hl 4 rfl) ?_
  refine lv_iconst (v := 1) hx hb d_law_277 (by decide) ?_
  refine lv_iadd hx hb d_law_278 ?_
  refine va_sld hx hb hXs hbl hbA hS vi1 d_law_279 ?_
  refine lv_aload_n hx hb d_law_280 rfl (lv_at hl 3 rfl) ?_
  refine cx_wrM (cx_runSW (n := 3) (As := [.ref (q 0), .int (xs (nI (5 * k) + 1).toNatClampNeg), .ref ou]) (rest := []) ⟨hx, hb, hml, hown, hts⟩ (c_L_empty l hfl dC dI q cA pt σ (xs (nI (5 * k) + 1).toNatClampNeg) ou cL f kq σ2 f2 hH) rfl rfl ⟨Nat.le_of_ble_eq_true rfl, Nat.le_of_ble_eq_true rfl⟩ (aw_inW kw_558) List.mem_cons_self (hts _ kw_0) ⟨by decide, by decide, by decide +kernel⟩ (hts _ kw_556) (hts _ kw_557) ⟨po_B, po_L hPX hPO hKX hKO (hDX σ) hN hZ hE hne hNC hS⟩ rfl rfl hl.1 rfl (lv_room (Nat.le_of_ble_eq_true rfl)) d_law_281 ⟨by show 50 + k + 1 ≤ 1086; omega, by show 8998 + 6 * k + 6 ≤ 17262; omega⟩) hS hnO (fun H locs hB hF hS => ?_)
  have I := li_O C I hB hF hS
  obtain ⟨hPX, hPR, hPO, hS⟩ := id I
  refine lv_istore hx hb d_law_284 hl (by decide) rfl (fun ls hl => ?_)
  have hl : lv_has ls 7 [(5, .int kq), (0, .ref b), (1, .ref (q 0)), (2, .ref (qr 0)), (3, .ref ou), (4, .int (nI (5 * k)))] := hl
  refine lv_aload_n hx hb d_law_286 rfl (lv_at hl 3 rfl) ?_
  refine lv_aload_n hx hb d_law_287 rfl (lv_at hl 1 rfl) ?_
  refine lv_iload hx hb d_law_288 (lv_at hl 5 rfl) ?_
  refine lv_iconst (v := 1) hx hb d_law_290 (by decide) ?_
  refine lv_iadd hx hb d_law_291 ?_
  refine va_sld hx hb hXs hbl hbA hS vi1 d_law_292 ?_
  refine cx_wr (va_runV (As := [.int (xs (nI (5 * k) + 1).toNatClampNeg)]) (rest := []) ⟨hx, hb, hml, hown, hts⟩ (c_R_empty l dC dI qr cR μ (xs (nI (5 * k) + 1).toNatClampNeg) (y, μ2) hR2) (cw_L_69 hts ⟨Nat.le_of_ble_eq_true rfl, Nat.le_of_ble_eq_true rfl⟩) ⟨pxR_B, va_recv hKR hPR (ci := 7) (q0 := 0) rfl rfl, pr_L hPR hKR (hDR μ)⟩ rfl rfl hl.1 rfl (lv_room (Nat.le_of_ble_eq_true rfl)) d_law_293 ⟨by show 50 + k + 1 + 0 ≤ 1086; omega, by show 8998 + 6 * k + 6 + 0 ≤ 17262; omega⟩) hS hnR (fun H locs hB hF hS => ?_)
  have I := li_R C I hB hF hS
  obtain ⟨hPX, hPR, hPO, hS⟩ := id I
  refine lv_istore hx hb d_law_296 hl (by decide) rfl (fun ls hl => ?_)
  have hl : lv_has ls 7 [(6, .int y), (5, .int kq), (0, .ref b), (1, .ref (q 0)), (2, .ref (qr 0)), (3, .ref ou), (4, .int (nI (5 * k)))] := hl
  refine lv_aload_n hx hb d_law_298 rfl (lv_at hl 4 rfl) ?_
  refine cx_read (va_runV (As := []) (rest := []) ⟨hx, hb, hml, hown, hts⟩ (c_R_thrown l dC dI qr cR μ2 (μ2 30 0) rfl) (cw_L_54 hts ⟨Nat.le_of_ble_eq_true rfl, Nat.le_of_ble_eq_true rfl⟩) ⟨pxR_B, va_recv hKR hPR (ci := 7) (q0 := 0) rfl rfl, pr_L hPR hKR (hDR μ2)⟩ rfl rfl hl.1 rfl (lv_room (Nat.le_of_ble_eq_true rfl)) d_law_299 ⟨by show 50 + k + 1 + 0 ≤ 1086; omega, by show 8998 + 6 * k + 6 + 0 ≤ 17262; omega⟩) ?_
  refine lv_iload hx hb d_law_302 (lv_at hl 1 rfl) ?_
  refine lv_icmp_eq (tgt := 309) hx hb d_law_304 rfl (fun hc => ?_) (fun hc => absurd h30 hc)
  refine lv_iload hx hb d_law_309 (lv_at hl 1 rfl) ?_
  refine lv_if_ne (tgt := 333) hx hb d_law_311 rfl (fun hc => ?_) (fun hc => ?_)
  · refine lv_goto (tgt := 669) hx hb d_law_333 rfl ?_
    exact kk _ _ _ _ _ _ I hv2 (lv_sub hl [2, 3, 4, 5, 6] rfl)
  · refine lv_aload_n hx hb d_law_314 rfl (lv_at hl 5 rfl) ?_
    refine lv_iconst (v := 0) hx hb d_law_315 (by decide) ?_
    refine va_lald (ws := ow_ ou cL f2) (tys := [(cL, .long)]) hx hb hKO hPO 0 0 rfl rfl vi_0 d_law_316 ?_
    rw [show f2 (0 : Int32).toNatClampNeg = (if y = 0 then (0 : Int64) else 1) by rw [sb_cl0]; exact hf2 hc]
    refine lv_iload hx hb d_law_317 (lv_at hl 0 rfl) ?_
    refine lv_if_eq (tgt := 326) hx hb d_law_319 rfl (fun hy => ?_) (fun hy => ?_)
    · rw [if_pos hy]
      refine lv_lconst (v := 0) hx hb d_law_326 (by decide) ?_
      refine W.lcmp hx hb d_law_327 ?_
      rw [lg_same]
      refine lv_if_eq (tgt := 333) hx hb d_law_328 rfl (fun _ => ?_) (fun hc => absurd rfl hc)
      refine lv_goto (tgt := 669) hx hb d_law_333 rfl ?_
      exact kk _ _ _ _ _ _ I hv2 (lv_sub hl [2, 3, 4, 5, 6] rfl)
    · rw [if_neg hy]
      refine lv_lconst (v := 1) hx hb d_law_322 (by decide) ?_
      refine lv_goto (tgt := 327) hx hb d_law_323 rfl ?_
      refine W.lcmp hx hb d_law_327 ?_
      rw [lg_same]
      refine lv_if_eq (tgt := 333) hx hb d_law_328 rfl (fun _ => ?_) (fun hc => absurd rfl hc)
      refine lv_goto (tgt := 669) hx hb d_law_333 rfl ?_
      exact kk _ _ _ _ _ _ I hv2 (lv_sub hl [2, 3, 4, 5, 6] rfl)
set_option maxHeartbeats 4000000 in
set_option maxRecDepth 100000 in
theorem lc_begins {p : Program} {l : Launch} {e : Env} {s : State} {m : MethodId} {below : List Frame} {meth : Method} {c : Code} {H : Heap} {locs : List Loc} {Q : State → Prop} {ls : Array Slot} {dC : Nat → ClassId} {dI : Nat → Nat → Nat} {q : Nat → Nat} {cA : Nat → ClassId} {pt : Nat} {qr : Nat → Nat} {cR : Nat → ClassId} {ou : Nat} {cL : ClassId} {σ μ : MZ_} {f : Nat → Int64} {b L : Nat} {xs : Nat → Int32} {k : Nat} (hfl : l.flags = pinnedFlags ++ [noTraceFlag]) (C : LC_ p s m c b L xs dC dI q cA pt qr cR ou cL) (I : LI_ s dC dI q cA qr cR ou cL σ μ f H locs) (hv : Vn_ σ μ) (hk : 5 * k + 5 ≤ L) (hL : L ≤ 2560) (hl : lv_has ls 7 [(0, .ref b), (1, .ref (q 0)), (2, .ref (qr 0)), (3, .ref ou), (4, .int (nI (5 * k)))]) (kk : ∀ (H : Heap) (locs : List Loc) (ls : Array Slot) (σ μ : MZ_) (f : Nat → Int64), LI_ s dC dI q cA qr cR ou cL σ μ f H locs → Vn_ σ μ → lv_has ls 7 [(0, .ref b), (1, .ref (q 0)), (2, .ref (qr 0)), (3, .ref ou), (4, .int (nI (5 * k)))] → W p l e room_1 s m #[Value.ref b] below meth c H locs (50 + k + 1) (8998 + 6 * k + 6) Q (F0 m 669 ls [])) : W p l e room_1 s m #[Value.ref b] below meth c H locs (50 + k) (8998 + 6 * k) Q (F0 m 336 ls []) := by
  have C' := C
  obtain ⟨hx, hb, hml, hown, hts, hKX, hKR, hKO, hN, hZ, hE, hNC, hXs, hbl, hDX, hDR, hd, hno, hnw⟩ := C'
  have hbA : ¬ AN_ s b := Nat.not_le.mpr hbl
  have hne : ¬ AX q ou := fun h => (hd ou h).2 rfl
  have hnO : ∀ a, AO_ q ou a → AN_ s a := fun a h => hnw a (h.elim Or.inl (fun h => Or.inr (Or.inr h)))
  have hnX : ∀ a, AX q a → AN_ s a := fun a h => hnw a (Or.inl h)
  have hnR : ∀ a, AR qr a → AN_ s a := fun a h => hnw a (Or.inr (Or.inl h))
  obtain ⟨hPX, hPR, hPO, hS⟩ := id I
  have vi1 : vp_in (nI (5 * k) + 1) L := vi_k (j := 1) hk hL (by omega)
  have vi2 : vp_in (nI (5 * k) + 2) L := vi_k (j := 2) hk hL (by omega)
  have vi3 : vp_in (nI (5 * k) + 3) L := vi_k (j := 3) hk hL (by omega)
  have vi4 : vp_in (nI (5 * k) + 4) L := vi_k (j := 4) hk hL (by omega)
  obtain ⟨kq, σ2, f2, y, μ2, hH, hR2, hv2, h30, hf2⟩ := un_begins (a1 := (xs (nI (5 * k) + 1).toNatClampNeg)) (a2 := (xs (nI (5 * k) + 2).toNatClampNeg)) f hv
  refine lv_aload_n hx hb d_law_336 rfl (lv_at hl 1 rfl) ?_
  refine lv_aload_n hx hb d_law_337 rfl (lv_at hl 0 rfl) ?_
  refine lv_iload hx hb d_law_338 (lv_at hl 4 rfl) ?_
  refine lv_iconst (v := 1) hx hb d_law_340 (by decide) ?_
  refine lv_iadd hx hb d_law_341 ?_
  refine va_sld hx hb hXs hbl hbA hS vi1 d_law_342 ?_
  refine lv_aload_n hx hb d_law_343 rfl (lv_at hl 0 rfl) ?_
  refine lv_iload hx hb d_law_344 (lv_at hl 4 rfl) ?_
  refine lv_iconst (v := 2) hx hb d_law_346 (by decide) ?_
  refine lv_iadd hx hb d_law_347 ?_
  refine va_sld hx hb hXs hbl hbA hS vi2 d_law_348 ?_
  refine lv_aload_n hx hb d_law_349 rfl (lv_at hl 3 rfl) ?_
  refine cx_wrM (cx_runSW (n := 4) (As := [.ref (q 0), .int (xs (nI (5 * k) + 1).toNatClampNeg), .int (xs (nI (5 * k) + 2).toNatClampNeg), .ref ou]) (rest := []) ⟨hx, hb, hml, hown, hts⟩ (c_L_begins l hfl dC dI q cA pt σ (xs (nI (5 * k) + 1).toNatClampNeg) (xs (nI (5 * k) + 2).toNatClampNeg) ou cL f kq σ2 f2 hH) rfl rfl ⟨Nat.le_of_ble_eq_true rfl, Nat.le_of_ble_eq_true rfl⟩ (aw_inW kw_570) List.mem_cons_self (hts _ kw_0) ⟨by decide, by decide, by decide +kernel⟩ (hts _ kw_568) (hts _ kw_569) ⟨po_B, po_L hPX hPO hKX hKO (hDX σ) hN hZ hE hne hNC hS⟩ rfl rfl hl.1 rfl (lv_room (Nat.le_of_ble_eq_true rfl)) d_law_350 ⟨by show 50 + k + 1 ≤ 1086; omega, by show 8998 + 6 * k + 6 ≤ 17262; omega⟩) hS hnO (fun H locs hB hF hS => ?_)
  have I := li_O C I hB hF hS
  obtain ⟨hPX, hPR, hPO, hS⟩ := id I
  refine lv_istore hx hb d_law_353 hl (by decide) rfl (fun ls hl => ?_)
  have hl : lv_has ls 7 [(5, .int kq), (0, .ref b), (1, .ref (q 0)), (2, .ref (qr 0)), (3, .ref ou), (4, .int (nI (5 * k)))] := hl
  refine lv_aload_n hx hb d_law_355 rfl (lv_at hl 3 rfl) ?_
  refine lv_aload_n hx hb d_law_356 rfl (lv_at hl 1 rfl) ?_
  refine lv_iload hx hb d_law_357 (lv_at hl 5 rfl) ?_
  refine lv_iconst (v := 1) hx hb d_law_359 (by decide) ?_
  refine lv_iadd hx hb d_law_360 ?_
  refine va_sld hx hb hXs hbl hbA hS vi1 d_law_361 ?_
  refine lv_aload_n hx hb d_law_362 rfl (lv_at hl 1 rfl) ?_
  refine lv_iload hx hb d_law_363 (lv_at hl 5 rfl) ?_
  refine lv_iconst (v := 2) hx hb d_law_365 (by decide) ?_
  refine lv_iadd hx hb d_law_366 ?_
  refine va_sld hx hb hXs hbl hbA hS vi2 d_law_367 ?_
  refine cx_wr (va_runV (As := [.int (xs (nI (5 * k) + 1).toNatClampNeg), .int (xs (nI (5 * k) + 2).toNatClampNeg)]) (rest := []) ⟨hx, hb, hml, hown, hts⟩ (c_R_begins l dC dI qr cR μ (xs (nI (5 * k) + 1).toNatClampNeg) (xs (nI (5 * k) + 2).toNatClampNeg) (y, μ2) hR2) (cw_L_72 hts ⟨Nat.le_of_ble_eq_true rfl, Nat.le_of_ble_eq_true rfl⟩) ⟨pxR_B, va_recv hKR hPR (ci := 7) (q0 := 0) rfl rfl, pr_L hPR hKR (hDR μ)⟩ rfl rfl hl.1 rfl (lv_room (Nat.le_of_ble_eq_true rfl)) d_law_368 ⟨by show 50 + k + 1 + 0 ≤ 1086; omega, by show 8998 + 6 * k + 6 + 0 ≤ 17262; omega⟩) hS hnR (fun H locs hB hF hS => ?_)
  have I := li_R C I hB hF hS
  obtain ⟨hPX, hPR, hPO, hS⟩ := id I
  refine lv_istore hx hb d_law_371 hl (by decide) rfl (fun ls hl => ?_)
  have hl : lv_has ls 7 [(6, .int y), (5, .int kq), (0, .ref b), (1, .ref (q 0)), (2, .ref (qr 0)), (3, .ref ou), (4, .int (nI (5 * k)))] := hl
  refine lv_aload_n hx hb d_law_373 rfl (lv_at hl 4 rfl) ?_
  refine cx_read (va_runV (As := []) (rest := []) ⟨hx, hb, hml, hown, hts⟩ (c_R_thrown l dC dI qr cR μ2 (μ2 30 0) rfl) (cw_L_54 hts ⟨Nat.le_of_ble_eq_true rfl, Nat.le_of_ble_eq_true rfl⟩) ⟨pxR_B, va_recv hKR hPR (ci := 7) (q0 := 0) rfl rfl, pr_L hPR hKR (hDR μ2)⟩ rfl rfl hl.1 rfl (lv_room (Nat.le_of_ble_eq_true rfl)) d_law_374 ⟨by show 50 + k + 1 + 0 ≤ 1086; omega, by show 8998 + 6 * k + 6 + 0 ≤ 17262; omega⟩) ?_
  refine lv_iload hx hb d_law_377 (lv_at hl 1 rfl) ?_
  refine lv_icmp_eq (tgt := 384) hx hb d_law_379 rfl (fun hc => ?_) (fun hc => absurd h30 hc)
  refine lv_iload hx hb d_law_384 (lv_at hl 1 rfl) ?_
  refine lv_if_ne (tgt := 408) hx hb d_law_386 rfl (fun hc => ?_) (fun hc => ?_)
  · refine lv_goto (tgt := 669) hx hb d_law_408 rfl ?_
    exact kk _ _ _ _ _ _ I hv2 (lv_sub hl [2, 3, 4, 5, 6] rfl)
  · refine lv_aload_n hx hb d_law_389 rfl (lv_at hl 5 rfl) ?_
    refine lv_iconst (v := 0) hx hb d_law_390 (by decide) ?_
    refine va_lald (ws := ow_ ou cL f2) (tys := [(cL, .long)]) hx hb hKO hPO 0 0 rfl rfl vi_0 d_law_391 ?_
    rw [show f2 (0 : Int32).toNatClampNeg = (if y = 0 then (0 : Int64) else 1) by rw [sb_cl0]; exact hf2 hc]
    refine lv_iload hx hb d_law_392 (lv_at hl 0 rfl) ?_
    refine lv_if_eq (tgt := 401) hx hb d_law_394 rfl (fun hy => ?_) (fun hy => ?_)
    · rw [if_pos hy]
      refine lv_lconst (v := 0) hx hb d_law_401 (by decide) ?_
      refine W.lcmp hx hb d_law_402 ?_
      rw [lg_same]
      refine lv_if_eq (tgt := 408) hx hb d_law_403 rfl (fun _ => ?_) (fun hc => absurd rfl hc)
      refine lv_goto (tgt := 669) hx hb d_law_408 rfl ?_
      exact kk _ _ _ _ _ _ I hv2 (lv_sub hl [2, 3, 4, 5, 6] rfl)
    · rw [if_neg hy]
      refine lv_lconst (v := 1) hx hb d_law_397 (by decide) ?_
      refine lv_goto (tgt := 402) hx hb d_law_398 rfl ?_
      refine W.lcmp hx hb d_law_402 ?_
      rw [lg_same]
      refine lv_if_eq (tgt := 408) hx hb d_law_403 rfl (fun _ => ?_) (fun hc => absurd rfl hc)
      refine lv_goto (tgt := 669) hx hb d_law_408 rfl ?_
      exact kk _ _ _ _ _ _ I hv2 (lv_sub hl [2, 3, 4, 5, 6] rfl)
set_option maxHeartbeats 4000000 in
set_option maxRecDepth 100000 in
theorem lc_leads {p : Program} {l : Launch} {e : Env} {s : State} {m : MethodId} {below : List Frame} {meth : Method} {c : Code} {H : Heap} {locs : List Loc} {Q : State → Prop} {ls : Array Slot} {dC : Nat → ClassId} {dI : Nat → Nat → Nat} {q : Nat → Nat} {cA : Nat → ClassId} {pt : Nat} {qr : Nat → Nat} {cR : Nat → ClassId} {ou : Nat} {cL : ClassId} {σ μ : MZ_} {f : Nat → Int64} {b L : Nat} {xs : Nat → Int32} {k : Nat} (hfl : l.flags = pinnedFlags ++ [noTraceFlag]) (C : LC_ p s m c b L xs dC dI q cA pt qr cR ou cL) (I : LI_ s dC dI q cA qr cR ou cL σ μ f H locs) (hv : Vn_ σ μ) (hk : 5 * k + 5 ≤ L) (hL : L ≤ 2560) (hl : lv_has ls 7 [(0, .ref b), (1, .ref (q 0)), (2, .ref (qr 0)), (3, .ref ou), (4, .int (nI (5 * k)))]) (kk : ∀ (H : Heap) (locs : List Loc) (ls : Array Slot) (σ μ : MZ_) (f : Nat → Int64), LI_ s dC dI q cA qr cR ou cL σ μ f H locs → Vn_ σ μ → lv_has ls 7 [(0, .ref b), (1, .ref (q 0)), (2, .ref (qr 0)), (3, .ref ou), (4, .int (nI (5 * k)))] → W p l e room_1 s m #[Value.ref b] below meth c H locs (50 + k + 1) (8998 + 6 * k + 6) Q (F0 m 669 ls [])) : W p l e room_1 s m #[Value.ref b] below meth c H locs (50 + k) (8998 + 6 * k) Q (F0 m 411 ls []) := by
  have C' := C
  obtain ⟨hx, hb, hml, hown, hts, hKX, hKR, hKO, hN, hZ, hE, hNC, hXs, hbl, hDX, hDR, hd, hno, hnw⟩ := C'
  have hbA : ¬ AN_ s b := Nat.not_le.mpr hbl
  have hne : ¬ AX q ou := fun h => (hd ou h).2 rfl
  have hnO : ∀ a, AO_ q ou a → AN_ s a := fun a h => hnw a (h.elim Or.inl (fun h => Or.inr (Or.inr h)))
  have hnX : ∀ a, AX q a → AN_ s a := fun a h => hnw a (Or.inl h)
  have hnR : ∀ a, AR qr a → AN_ s a := fun a h => hnw a (Or.inr (Or.inl h))
  obtain ⟨hPX, hPR, hPO, hS⟩ := id I
  have vi1 : vp_in (nI (5 * k) + 1) L := vi_k (j := 1) hk hL (by omega)
  have vi2 : vp_in (nI (5 * k) + 2) L := vi_k (j := 2) hk hL (by omega)
  have vi3 : vp_in (nI (5 * k) + 3) L := vi_k (j := 3) hk hL (by omega)
  have vi4 : vp_in (nI (5 * k) + 4) L := vi_k (j := 4) hk hL (by omega)
  obtain ⟨kq, σ2, f2, y, μ2, hH, hR2, hv2, h30, hf2⟩ := un_leads (a1 := (xs (nI (5 * k) + 1).toNatClampNeg)) f hv
  refine lv_aload_n hx hb d_law_411 rfl (lv_at hl 1 rfl) ?_
  refine lv_aload_n hx hb d_law_412 rfl (lv_at hl 0 rfl) ?_
  refine lv_iload hx hb d_law_413 (lv_at hl 4 rfl) ?_
  refine lv_iconst (v := 1) hx hb d_law_415 (by decide) ?_
  refine lv_iadd hx hb d_law_416 ?_
  refine va_sld hx hb hXs hbl hbA hS vi1 d_law_417 ?_
  refine lv_aload_n hx hb d_law_418 rfl (lv_at hl 3 rfl) ?_
  refine cx_wrM (cx_runSW (n := 3) (As := [.ref (q 0), .int (xs (nI (5 * k) + 1).toNatClampNeg), .ref ou]) (rest := []) ⟨hx, hb, hml, hown, hts⟩ (c_L_leads l hfl dC dI q cA pt σ (xs (nI (5 * k) + 1).toNatClampNeg) ou cL f kq σ2 f2 hH) rfl rfl ⟨Nat.le_of_ble_eq_true rfl, Nat.le_of_ble_eq_true rfl⟩ (aw_inW kw_591) List.mem_cons_self (hts _ kw_0) ⟨by decide, by decide, by decide +kernel⟩ (hts _ kw_589) (hts _ kw_590) ⟨po_B, po_L hPX hPO hKX hKO (hDX σ) hN hZ hE hne hNC hS⟩ rfl rfl hl.1 rfl (lv_room (Nat.le_of_ble_eq_true rfl)) d_law_419 ⟨by show 50 + k + 1 ≤ 1086; omega, by show 8998 + 6 * k + 6 ≤ 17262; omega⟩) hS hnO (fun H locs hB hF hS => ?_)
  have I := li_O C I hB hF hS
  obtain ⟨hPX, hPR, hPO, hS⟩ := id I
  refine lv_istore hx hb d_law_422 hl (by decide) rfl (fun ls hl => ?_)
  have hl : lv_has ls 7 [(5, .int kq), (0, .ref b), (1, .ref (q 0)), (2, .ref (qr 0)), (3, .ref ou), (4, .int (nI (5 * k)))] := hl
  refine lv_aload_n hx hb d_law_424 rfl (lv_at hl 3 rfl) ?_
  refine lv_aload_n hx hb d_law_425 rfl (lv_at hl 1 rfl) ?_
  refine lv_iload hx hb d_law_426 (lv_at hl 5 rfl) ?_
  refine lv_iconst (v := 1) hx hb d_law_428 (by decide) ?_
  refine lv_iadd hx hb d_law_429 ?_
  refine va_sld hx hb hXs hbl hbA hS vi1 d_law_430 ?_
  refine cx_wr (va_runV (As := [.int (xs (nI (5 * k) + 1).toNatClampNeg)]) (rest := []) ⟨hx, hb, hml, hown, hts⟩ (c_R_leads l dC dI qr cR μ (xs (nI (5 * k) + 1).toNatClampNeg) (y, μ2) hR2) (cw_L_75 hts ⟨Nat.le_of_ble_eq_true rfl, Nat.le_of_ble_eq_true rfl⟩) ⟨pxR_B, va_recv hKR hPR (ci := 7) (q0 := 0) rfl rfl, pr_L hPR hKR (hDR μ)⟩ rfl rfl hl.1 rfl (lv_room (Nat.le_of_ble_eq_true rfl)) d_law_431 ⟨by show 50 + k + 1 + 0 ≤ 1086; omega, by show 8998 + 6 * k + 6 + 0 ≤ 17262; omega⟩) hS hnR (fun H locs hB hF hS => ?_)
  have I := li_R C I hB hF hS
  obtain ⟨hPX, hPR, hPO, hS⟩ := id I
  refine lv_istore hx hb d_law_434 hl (by decide) rfl (fun ls hl => ?_)
  have hl : lv_has ls 7 [(6, .int y), (5, .int kq), (0, .ref b), (1, .ref (q 0)), (2, .ref (qr 0)), (3, .ref ou), (4, .int (nI (5 * k)))] := hl
  refine lv_aload_n hx hb d_law_436 rfl (lv_at hl 4 rfl) ?_
  refine cx_read (va_runV (As := []) (rest := []) ⟨hx, hb, hml, hown, hts⟩ (c_R_thrown l dC dI qr cR μ2 (μ2 30 0) rfl) (cw_L_54 hts ⟨Nat.le_of_ble_eq_true rfl, Nat.le_of_ble_eq_true rfl⟩) ⟨pxR_B, va_recv hKR hPR (ci := 7) (q0 := 0) rfl rfl, pr_L hPR hKR (hDR μ2)⟩ rfl rfl hl.1 rfl (lv_room (Nat.le_of_ble_eq_true rfl)) d_law_437 ⟨by show 50 + k + 1 + 0 ≤ 1086; omega, by show 8998 + 6 * k + 6 + 0 ≤ 17262; omega⟩) ?_
  refine lv_iload hx hb d_law_440 (lv_at hl 1 rfl) ?_
  refine lv_icmp_eq (tgt := 447) hx hb d_law_442 rfl (fun hc => ?_) (fun hc => absurd h30 hc)
  refine lv_iload hx hb d_law_447 (lv_at hl 1 rfl) ?_
  refine lv_if_ne (tgt := 464) hx hb d_law_449 rfl (fun hc => ?_) (fun hc => ?_)
  · refine lv_goto (tgt := 669) hx hb d_law_464 rfl ?_
    exact kk _ _ _ _ _ _ I hv2 (lv_sub hl [2, 3, 4, 5, 6] rfl)
  · refine lv_aload_n hx hb d_law_452 rfl (lv_at hl 5 rfl) ?_
    refine lv_iconst (v := 0) hx hb d_law_453 (by decide) ?_
    refine va_lald (ws := ow_ ou cL f2) (tys := [(cL, .long)]) hx hb hKO hPO 0 0 rfl rfl vi_0 d_law_454 ?_
    rw [show f2 (0 : Int32).toNatClampNeg = y.toInt64 by rw [sb_cl0]; exact hf2 hc]
    refine lv_iload hx hb d_law_455 (lv_at hl 0 rfl) ?_
    refine lv_i2l (v := y.toInt64) hx hb d_law_457 rfl ?_
    refine W.lcmp hx hb d_law_458 ?_
    rw [lg_same]
    refine lv_if_eq (tgt := 464) hx hb d_law_459 rfl (fun _ => ?_) (fun hc => absurd rfl hc)
    refine lv_goto (tgt := 669) hx hb d_law_464 rfl ?_
    exact kk _ _ _ _ _ _ I hv2 (lv_sub hl [2, 3, 4, 5, 6] rfl)
set_option maxHeartbeats 4000000 in
set_option maxRecDepth 100000 in
theorem lc_type {p : Program} {l : Launch} {e : Env} {s : State} {m : MethodId} {below : List Frame} {meth : Method} {c : Code} {H : Heap} {locs : List Loc} {Q : State → Prop} {ls : Array Slot} {dC : Nat → ClassId} {dI : Nat → Nat → Nat} {q : Nat → Nat} {cA : Nat → ClassId} {pt : Nat} {qr : Nat → Nat} {cR : Nat → ClassId} {ou : Nat} {cL : ClassId} {σ μ : MZ_} {f : Nat → Int64} {b L : Nat} {xs : Nat → Int32} {k : Nat} (hfl : l.flags = pinnedFlags ++ [noTraceFlag]) (C : LC_ p s m c b L xs dC dI q cA pt qr cR ou cL) (I : LI_ s dC dI q cA qr cR ou cL σ μ f H locs) (hv : Vn_ σ μ) (hk : 5 * k + 5 ≤ L) (hL : L ≤ 2560) (hl : lv_has ls 7 [(0, .ref b), (1, .ref (q 0)), (2, .ref (qr 0)), (3, .ref ou), (4, .int (nI (5 * k)))]) (kk : ∀ (H : Heap) (locs : List Loc) (ls : Array Slot) (σ μ : MZ_) (f : Nat → Int64), LI_ s dC dI q cA qr cR ou cL σ μ f H locs → Vn_ σ μ → lv_has ls 7 [(0, .ref b), (1, .ref (q 0)), (2, .ref (qr 0)), (3, .ref ou), (4, .int (nI (5 * k)))] → W p l e room_1 s m #[Value.ref b] below meth c H locs (50 + k + 1) (8998 + 6 * k + 6) Q (F0 m 669 ls [])) : W p l e room_1 s m #[Value.ref b] below meth c H locs (50 + k) (8998 + 6 * k) Q (F0 m 467 ls []) := by
  have C' := C
  obtain ⟨hx, hb, hml, hown, hts, hKX, hKR, hKO, hN, hZ, hE, hNC, hXs, hbl, hDX, hDR, hd, hno, hnw⟩ := C'
  have hbA : ¬ AN_ s b := Nat.not_le.mpr hbl
  have hne : ¬ AX q ou := fun h => (hd ou h).2 rfl
  have hnO : ∀ a, AO_ q ou a → AN_ s a := fun a h => hnw a (h.elim Or.inl (fun h => Or.inr (Or.inr h)))
  have hnX : ∀ a, AX q a → AN_ s a := fun a h => hnw a (Or.inl h)
  have hnR : ∀ a, AR qr a → AN_ s a := fun a h => hnw a (Or.inr (Or.inl h))
  obtain ⟨hPX, hPR, hPO, hS⟩ := id I
  have vi1 : vp_in (nI (5 * k) + 1) L := vi_k (j := 1) hk hL (by omega)
  have vi2 : vp_in (nI (5 * k) + 2) L := vi_k (j := 2) hk hL (by omega)
  have vi3 : vp_in (nI (5 * k) + 3) L := vi_k (j := 3) hk hL (by omega)
  have vi4 : vp_in (nI (5 * k) + 4) L := vi_k (j := 4) hk hL (by omega)
  obtain ⟨t, ht, et⟩ : ∃ t, t < 65536 ∧ ((xs (nI (5 * k) + 1).toNatClampNeg).toUInt32 % 65536).toInt32 = nI t := ⟨_, Nat.mod_lt _ (by decide), pk_char _⟩
  obtain ⟨kq, σ2, f2, y, μ2, hH, hR2, hv2, h30, hf2⟩ := un_type (t := t) f hv ht
  refine lv_aload_n hx hb d_law_467 rfl (lv_at hl 1 rfl) ?_
  refine lv_aload_n hx hb d_law_468 rfl (lv_at hl 0 rfl) ?_
  refine lv_iload hx hb d_law_469 (lv_at hl 4 rfl) ?_
  refine lv_iconst (v := 1) hx hb d_law_471 (by decide) ?_
  refine lv_iadd hx hb d_law_472 ?_
  refine va_sld hx hb hXs hbl hbA hS vi1 d_law_473 ?_
  refine lv_i2c (v := nI t) hx hb d_law_474 et ?_
  refine lv_aload_n hx hb d_law_475 rfl (lv_at hl 3 rfl) ?_
  refine cx_wrM (cx_runSW (n := 3) (As := [.ref (q 0), .int (nI t), .ref ou]) (rest := []) ⟨hx, hb, hml, hown, hts⟩ (c_L_type l hfl dC dI q cA pt σ (nI t) ou cL f kq σ2 f2 hH) rfl rfl ⟨Nat.le_of_ble_eq_true rfl, Nat.le_of_ble_eq_true rfl⟩ (aw_inW kw_603) List.mem_cons_self (hts _ kw_0) ⟨by decide, by decide, by decide +kernel⟩ (hts _ kw_601) (hts _ kw_602) ⟨po_B, po_L hPX hPO hKX hKO (hDX σ) hN hZ hE hne hNC hS⟩ rfl rfl hl.1 rfl (lv_room (Nat.le_of_ble_eq_true rfl)) d_law_476 ⟨by show 50 + k + 1 ≤ 1086; omega, by show 8998 + 6 * k + 6 ≤ 17262; omega⟩) hS hnO (fun H locs hB hF hS => ?_)
  have I := li_O C I hB hF hS
  obtain ⟨hPX, hPR, hPO, hS⟩ := id I
  refine lv_istore hx hb d_law_479 hl (by decide) rfl (fun ls hl => ?_)
  have hl : lv_has ls 7 [(5, .int kq), (0, .ref b), (1, .ref (q 0)), (2, .ref (qr 0)), (3, .ref ou), (4, .int (nI (5 * k)))] := hl
  refine lv_aload_n hx hb d_law_481 rfl (lv_at hl 3 rfl) ?_
  refine lv_aload_n hx hb d_law_482 rfl (lv_at hl 1 rfl) ?_
  refine lv_iload hx hb d_law_483 (lv_at hl 5 rfl) ?_
  refine lv_iconst (v := 1) hx hb d_law_485 (by decide) ?_
  refine lv_iadd hx hb d_law_486 ?_
  refine va_sld hx hb hXs hbl hbA hS vi1 d_law_487 ?_
  refine lv_i2c (v := nI t) hx hb d_law_488 et ?_
  refine cx_wr (va_runV (As := [.int (nI t)]) (rest := []) ⟨hx, hb, hml, hown, hts⟩ (c_R_type l dC dI qr cR μ (nI t) (y, μ2) hR2) (cw_L_79 hts ⟨Nat.le_of_ble_eq_true rfl, Nat.le_of_ble_eq_true rfl⟩) ⟨pxR_B, va_recv hKR hPR (ci := 7) (q0 := 0) rfl rfl, pr_L hPR hKR (hDR μ)⟩ rfl rfl hl.1 rfl (lv_room (Nat.le_of_ble_eq_true rfl)) d_law_489 ⟨by show 50 + k + 1 + 0 ≤ 1086; omega, by show 8998 + 6 * k + 6 + 0 ≤ 17262; omega⟩) hS hnR (fun H locs hB hF hS => ?_)
  have I := li_R C I hB hF hS
  obtain ⟨hPX, hPR, hPO, hS⟩ := id I
  refine lv_istore hx hb d_law_492 hl (by decide) rfl (fun ls hl => ?_)
  have hl : lv_has ls 7 [(6, .int y), (5, .int kq), (0, .ref b), (1, .ref (q 0)), (2, .ref (qr 0)), (3, .ref ou), (4, .int (nI (5 * k)))] := hl
  refine lv_aload_n hx hb d_law_494 rfl (lv_at hl 4 rfl) ?_
  refine cx_read (va_runV (As := []) (rest := []) ⟨hx, hb, hml, hown, hts⟩ (c_R_thrown l dC dI qr cR μ2 (μ2 30 0) rfl) (cw_L_54 hts ⟨Nat.le_of_ble_eq_true rfl, Nat.le_of_ble_eq_true rfl⟩) ⟨pxR_B, va_recv hKR hPR (ci := 7) (q0 := 0) rfl rfl, pr_L hPR hKR (hDR μ2)⟩ rfl rfl hl.1 rfl (lv_room (Nat.le_of_ble_eq_true rfl)) d_law_495 ⟨by show 50 + k + 1 + 0 ≤ 1086; omega, by show 8998 + 6 * k + 6 + 0 ≤ 17262; omega⟩) ?_
  refine lv_iload hx hb d_law_498 (lv_at hl 1 rfl) ?_
  refine lv_icmp_eq (tgt := 505) hx hb d_law_500 rfl (fun hc => ?_) (fun hc => absurd h30 hc)
  refine lv_iload hx hb d_law_505 (lv_at hl 1 rfl) ?_
  refine lv_if_ne (tgt := 522) hx hb d_law_507 rfl (fun hc => ?_) (fun hc => ?_)
  · refine lv_goto (tgt := 669) hx hb d_law_522 rfl ?_
    exact kk _ _ _ _ _ _ I hv2 (lv_sub hl [2, 3, 4, 5, 6] rfl)
  · refine lv_aload_n hx hb d_law_510 rfl (lv_at hl 5 rfl) ?_
    refine lv_iconst (v := 0) hx hb d_law_511 (by decide) ?_
    refine va_lald (ws := ow_ ou cL f2) (tys := [(cL, .long)]) hx hb hKO hPO 0 0 rfl rfl vi_0 d_law_512 ?_
    rw [show f2 (0 : Int32).toNatClampNeg = y.toInt64 by rw [sb_cl0]; exact hf2 hc]
    refine lv_iload hx hb d_law_513 (lv_at hl 0 rfl) ?_
    refine lv_i2l (v := y.toInt64) hx hb d_law_515 rfl ?_
    refine W.lcmp hx hb d_law_516 ?_
    rw [lg_same]
    refine lv_if_eq (tgt := 522) hx hb d_law_517 rfl (fun _ => ?_) (fun hc => absurd rfl hc)
    refine lv_goto (tgt := 669) hx hb d_law_522 rfl ?_
    exact kk _ _ _ _ _ _ I hv2 (lv_sub hl [2, 3, 4, 5, 6] rfl)
set_option maxHeartbeats 4000000 in
set_option maxRecDepth 100000 in
theorem lc_clear {p : Program} {l : Launch} {e : Env} {s : State} {m : MethodId} {below : List Frame} {meth : Method} {c : Code} {H : Heap} {locs : List Loc} {Q : State → Prop} {ls : Array Slot} {dC : Nat → ClassId} {dI : Nat → Nat → Nat} {q : Nat → Nat} {cA : Nat → ClassId} {pt : Nat} {qr : Nat → Nat} {cR : Nat → ClassId} {ou : Nat} {cL : ClassId} {σ μ : MZ_} {f : Nat → Int64} {b L : Nat} {xs : Nat → Int32} {k : Nat} (hfl : l.flags = pinnedFlags ++ [noTraceFlag]) (C : LC_ p s m c b L xs dC dI q cA pt qr cR ou cL) (I : LI_ s dC dI q cA qr cR ou cL σ μ f H locs) (hv : Vn_ σ μ) (hk : 5 * k + 5 ≤ L) (hL : L ≤ 2560) (hl : lv_has ls 7 [(0, .ref b), (1, .ref (q 0)), (2, .ref (qr 0)), (3, .ref ou), (4, .int (nI (5 * k)))]) (kk : ∀ (H : Heap) (locs : List Loc) (ls : Array Slot) (σ μ : MZ_) (f : Nat → Int64), LI_ s dC dI q cA qr cR ou cL σ μ f H locs → Vn_ σ μ → lv_has ls 7 [(0, .ref b), (1, .ref (q 0)), (2, .ref (qr 0)), (3, .ref ou), (4, .int (nI (5 * k)))] → W p l e room_1 s m #[Value.ref b] below meth c H locs (50 + k + 1) (8998 + 6 * k + 6) Q (F0 m 669 ls [])) : W p l e room_1 s m #[Value.ref b] below meth c H locs (50 + k) (8998 + 6 * k) Q (F0 m 525 ls []) := by
  have C' := C
  obtain ⟨hx, hb, hml, hown, hts, hKX, hKR, hKO, hN, hZ, hE, hNC, hXs, hbl, hDX, hDR, hd, hno, hnw⟩ := C'
  have hbA : ¬ AN_ s b := Nat.not_le.mpr hbl
  have hne : ¬ AX q ou := fun h => (hd ou h).2 rfl
  have hnO : ∀ a, AO_ q ou a → AN_ s a := fun a h => hnw a (h.elim Or.inl (fun h => Or.inr (Or.inr h)))
  have hnX : ∀ a, AX q a → AN_ s a := fun a h => hnw a (Or.inl h)
  have hnR : ∀ a, AR qr a → AN_ s a := fun a h => hnw a (Or.inr (Or.inl h))
  obtain ⟨hPX, hPR, hPO, hS⟩ := id I
  have vi1 : vp_in (nI (5 * k) + 1) L := vi_k (j := 1) hk hL (by omega)
  have vi2 : vp_in (nI (5 * k) + 2) L := vi_k (j := 2) hk hL (by omega)
  have vi3 : vp_in (nI (5 * k) + 3) L := vi_k (j := 3) hk hL (by omega)
  have vi4 : vp_in (nI (5 * k) + 4) L := vi_k (j := 4) hk hL (by omega)
  obtain ⟨x, σ2, μ2, e1, e2, hv2, -⟩ := vn_clear hv
  refine lv_aload_n hx hb d_law_525 rfl (lv_at hl 1 rfl) ?_
  refine cx_wr (va_runV (As := []) (rest := []) ⟨hx, hb, hml, hown, hts⟩ (c_S_clear l dC dI q cA pt σ _ e1) (cw_L_80 hts ⟨Nat.le_of_ble_eq_true rfl, Nat.le_of_ble_eq_true rfl⟩) ⟨pxX_B, va_recv hKX hPX (ci := 0) (q0 := 0) rfl rfl, px_L hPX hKX (hDX σ) hN hZ hS⟩ rfl rfl hl.1 rfl (lv_room (Nat.le_of_ble_eq_true rfl)) d_law_526 ⟨by show 50 + k + 0 ≤ 1086; omega, by show 8998 + 6 * k + 0 ≤ 17262; omega⟩) hS hnX (fun H locs hB hF hS => ?_)
  have I := li_X C I hB hF hS
  obtain ⟨hPX, hPR, hPO, hS⟩ := id I
  refine lv_aload_n hx hb d_law_529 rfl (lv_at hl 2 rfl) ?_
  refine cx_wr (va_runV (As := []) (rest := [.int x]) ⟨hx, hb, hml, hown, hts⟩ (c_R_clear l dC dI qr cR μ _ e2) (cw_L_83 hts ⟨Nat.le_of_ble_eq_true rfl, Nat.le_of_ble_eq_true rfl⟩) ⟨pxR_B, va_recv hKR hPR (ci := 7) (q0 := 0) rfl rfl, pr_L hPR hKR (hDR μ)⟩ rfl rfl hl.1 rfl (lv_room (Nat.le_of_ble_eq_true rfl)) d_law_530 ⟨by show 50 + k + 0 ≤ 1086; omega, by show 8998 + 6 * k + 0 ≤ 17262; omega⟩) hS hnR (fun H locs hB hF hS => ?_)
  have I := li_R C I hB hF hS
  refine lv_icmp_eq (tgt := 669) hx hb d_law_533 rfl (fun hc => ?_) (fun hc => absurd rfl hc)
  refine W.widen (k := 50 + k + 1) (n := 8998 + 6 * k + 6) (by omega) (by omega) ?_
  exact kk _ _ _ _ _ _ I hv2 hl
set_option maxHeartbeats 4000000 in
set_option maxRecDepth 100000 in
theorem lc_parse {p : Program} {l : Launch} {e : Env} {s : State} {m : MethodId} {below : List Frame} {meth : Method} {c : Code} {H : Heap} {locs : List Loc} {Q : State → Prop} {ls : Array Slot} {dC : Nat → ClassId} {dI : Nat → Nat → Nat} {q : Nat → Nat} {cA : Nat → ClassId} {pt : Nat} {qr : Nat → Nat} {cR : Nat → ClassId} {ou : Nat} {cL : ClassId} {σ μ : MZ_} {f : Nat → Int64} {b L : Nat} {xs : Nat → Int32} {k : Nat} (hfl : l.flags = pinnedFlags ++ [noTraceFlag]) (C : LC_ p s m c b L xs dC dI q cA pt qr cR ou cL) (I : LI_ s dC dI q cA qr cR ou cL σ μ f H locs) (hv : Vn_ σ μ) (hk : 5 * k + 5 ≤ L) (hL : L ≤ 2560) (hl : lv_has ls 7 [(0, .ref b), (1, .ref (q 0)), (2, .ref (qr 0)), (3, .ref ou), (4, .int (nI (5 * k)))]) (kk : ∀ (H : Heap) (locs : List Loc) (ls : Array Slot) (σ μ : MZ_) (f : Nat → Int64), LI_ s dC dI q cA qr cR ou cL σ μ f H locs → Vn_ σ μ → lv_has ls 7 [(0, .ref b), (1, .ref (q 0)), (2, .ref (qr 0)), (3, .ref ou), (4, .int (nI (5 * k)))] → W p l e room_1 s m #[Value.ref b] below meth c H locs (50 + k + 1) (8998 + 6 * k + 6) Q (F0 m 669 ls [])) : W p l e room_1 s m #[Value.ref b] below meth c H locs (50 + k) (8998 + 6 * k) Q (F0 m 538 ls []) := by
  have C' := C
  obtain ⟨hx, hb, hml, hown, hts, hKX, hKR, hKO, hN, hZ, hE, hNC, hXs, hbl, hDX, hDR, hd, hno, hnw⟩ := C'
  have hbA : ¬ AN_ s b := Nat.not_le.mpr hbl
  have hne : ¬ AX q ou := fun h => (hd ou h).2 rfl
  have hnO : ∀ a, AO_ q ou a → AN_ s a := fun a h => hnw a (h.elim Or.inl (fun h => Or.inr (Or.inr h)))
  have hnX : ∀ a, AX q a → AN_ s a := fun a h => hnw a (Or.inl h)
  have hnR : ∀ a, AR qr a → AN_ s a := fun a h => hnw a (Or.inr (Or.inl h))
  obtain ⟨hPX, hPR, hPO, hS⟩ := id I
  have vi1 : vp_in (nI (5 * k) + 1) L := vi_k (j := 1) hk hL (by omega)
  have vi2 : vp_in (nI (5 * k) + 2) L := vi_k (j := 2) hk hL (by omega)
  have vi3 : vp_in (nI (5 * k) + 3) L := vi_k (j := 3) hk hL (by omega)
  have vi4 : vp_in (nI (5 * k) + 4) L := vi_k (j := 4) hk hL (by omega)
  obtain ⟨K, kq, σ2, f2, y, μ2, hH, hR2, hv2, h30, hf2⟩ := un_parse (a1 := (xs (nI (5 * k) + 1).toNatClampNeg)) f hv
  refine lv_aload_n hx hb d_law_538 rfl (lv_at hl 1 rfl) ?_
  refine lv_aload_n hx hb d_law_539 rfl (lv_at hl 0 rfl) ?_
  refine lv_iload hx hb d_law_540 (lv_at hl 4 rfl) ?_
  refine lv_iconst (v := 1) hx hb d_law_542 (by decide) ?_
  refine lv_iadd hx hb d_law_543 ?_
  refine va_sld hx hb hXs hbl hbA hS vi1 d_law_544 ?_
  refine lv_aload_n hx hb d_law_545 rfl (lv_at hl 3 rfl) ?_
  refine cx_wrM (cx_runSW (n := 3) (As := [.ref (q 0), .int (xs (nI (5 * k) + 1).toNatClampNeg), .ref ou]) (rest := []) ⟨hx, hb, hml, hown, hts⟩ (c_L_parse l hfl dC dI q cA pt σ (xs (nI (5 * k) + 1).toNatClampNeg) ou cL f kq σ2 f2 hH) rfl rfl ⟨Nat.le_of_ble_eq_true rfl, Nat.le_of_ble_eq_true rfl⟩ (aw_inW kw_620) List.mem_cons_self (hts _ kw_0) ⟨by decide, by decide, by decide +kernel⟩ (hts _ kw_618) (hts _ kw_619) ⟨po_B, po_L hPX hPO hKX hKO (hDX σ) hN hZ hE hne hNC hS⟩ rfl rfl hl.1 rfl (lv_room (Nat.le_of_ble_eq_true rfl)) d_law_546 ⟨by show 50 + k + 1 ≤ 1086; omega, by show 8998 + 6 * k + 6 ≤ 17262; omega⟩) hS hnO (fun H locs hB hF hS => ?_)
  have I := li_O C I hB hF hS
  obtain ⟨hPX, hPR, hPO, hS⟩ := id I
  refine lv_istore hx hb d_law_549 hl (by decide) rfl (fun ls hl => ?_)
  have hl : lv_has ls 7 [(5, .int kq), (0, .ref b), (1, .ref (q 0)), (2, .ref (qr 0)), (3, .ref ou), (4, .int (nI (5 * k)))] := hl
  refine lv_aload_n hx hb d_law_551 rfl (lv_at hl 3 rfl) ?_
  refine lv_aload_n hx hb d_law_552 rfl (lv_at hl 1 rfl) ?_
  refine lv_iload hx hb d_law_553 (lv_at hl 5 rfl) ?_
  refine lv_iconst (v := 1) hx hb d_law_555 (by decide) ?_
  refine lv_iadd hx hb d_law_556 ?_
  refine va_sld hx hb hXs hbl hbA hS vi1 d_law_557 ?_
  refine cx_wr (va_runV (As := [.int (xs (nI (5 * k) + 1).toNatClampNeg)]) (rest := []) ⟨hx, hb, hml, hown, hts⟩ (c_R_parse l K dC dI qr cR μ (xs (nI (5 * k) + 1).toNatClampNeg) (y, μ2) hR2) (cw_L_86 hts ⟨Nat.le_of_ble_eq_true rfl, Nat.le_of_ble_eq_true rfl⟩) ⟨pxR_B, va_recv hKR hPR (ci := 7) (q0 := 0) rfl rfl, pr_L hPR hKR (hDR μ)⟩ rfl rfl hl.1 rfl (lv_room (Nat.le_of_ble_eq_true rfl)) d_law_558 ⟨by show 50 + k + 1 + 0 ≤ 1086; omega, by show 8998 + 6 * k + 6 + 0 ≤ 17262; omega⟩) hS hnR (fun H locs hB hF hS => ?_)
  have I := li_R C I hB hF hS
  obtain ⟨hPX, hPR, hPO, hS⟩ := id I
  refine lv_istore hx hb d_law_561 hl (by decide) rfl (fun ls hl => ?_)
  have hl : lv_has ls 7 [(6, .int y), (5, .int kq), (0, .ref b), (1, .ref (q 0)), (2, .ref (qr 0)), (3, .ref ou), (4, .int (nI (5 * k)))] := hl
  refine lv_aload_n hx hb d_law_563 rfl (lv_at hl 4 rfl) ?_
  refine cx_read (va_runV (As := []) (rest := []) ⟨hx, hb, hml, hown, hts⟩ (c_R_thrown l dC dI qr cR μ2 (μ2 30 0) rfl) (cw_L_54 hts ⟨Nat.le_of_ble_eq_true rfl, Nat.le_of_ble_eq_true rfl⟩) ⟨pxR_B, va_recv hKR hPR (ci := 7) (q0 := 0) rfl rfl, pr_L hPR hKR (hDR μ2)⟩ rfl rfl hl.1 rfl (lv_room (Nat.le_of_ble_eq_true rfl)) d_law_564 ⟨by show 50 + k + 1 + 0 ≤ 1086; omega, by show 8998 + 6 * k + 6 + 0 ≤ 17262; omega⟩) ?_
  refine lv_iload hx hb d_law_567 (lv_at hl 1 rfl) ?_
  refine lv_icmp_eq (tgt := 574) hx hb d_law_569 rfl (fun hc => ?_) (fun hc => absurd h30 hc)
  refine lv_iload hx hb d_law_574 (lv_at hl 1 rfl) ?_
  refine lv_if_ne (tgt := 591) hx hb d_law_576 rfl (fun hc => ?_) (fun hc => ?_)
  · refine lv_goto (tgt := 669) hx hb d_law_591 rfl ?_
    exact kk _ _ _ _ _ _ I hv2 (lv_sub hl [2, 3, 4, 5, 6] rfl)
  · refine lv_aload_n hx hb d_law_579 rfl (lv_at hl 5 rfl) ?_
    refine lv_iconst (v := 0) hx hb d_law_580 (by decide) ?_
    refine va_lald (ws := ow_ ou cL f2) (tys := [(cL, .long)]) hx hb hKO hPO 0 0 rfl rfl vi_0 d_law_581 ?_
    rw [show f2 (0 : Int32).toNatClampNeg = y.toInt64 by rw [sb_cl0]; exact hf2 hc]
    refine lv_iload hx hb d_law_582 (lv_at hl 0 rfl) ?_
    refine lv_i2l (v := y.toInt64) hx hb d_law_584 rfl ?_
    refine W.lcmp hx hb d_law_585 ?_
    rw [lg_same]
    refine lv_if_eq (tgt := 591) hx hb d_law_586 rfl (fun _ => ?_) (fun hc => absurd rfl hc)
    refine lv_goto (tgt := 669) hx hb d_law_591 rfl ?_
    exact kk _ _ _ _ _ _ I hv2 (lv_sub hl [2, 3, 4, 5, 6] rfl)
set_option maxHeartbeats 4000000 in
set_option maxRecDepth 100000 in
theorem lc_latest {p : Program} {l : Launch} {e : Env} {s : State} {m : MethodId} {below : List Frame} {meth : Method} {c : Code} {H : Heap} {locs : List Loc} {Q : State → Prop} {ls : Array Slot} {dC : Nat → ClassId} {dI : Nat → Nat → Nat} {q : Nat → Nat} {cA : Nat → ClassId} {pt : Nat} {qr : Nat → Nat} {cR : Nat → ClassId} {ou : Nat} {cL : ClassId} {σ μ : MZ_} {f : Nat → Int64} {b L : Nat} {xs : Nat → Int32} {k : Nat} (hfl : l.flags = pinnedFlags ++ [noTraceFlag]) (C : LC_ p s m c b L xs dC dI q cA pt qr cR ou cL) (I : LI_ s dC dI q cA qr cR ou cL σ μ f H locs) (hv : Vn_ σ μ) (hk : 5 * k + 5 ≤ L) (hL : L ≤ 2560) (hl : lv_has ls 7 [(0, .ref b), (1, .ref (q 0)), (2, .ref (qr 0)), (3, .ref ou), (4, .int (nI (5 * k)))]) (kk : ∀ (H : Heap) (locs : List Loc) (ls : Array Slot) (σ μ : MZ_) (f : Nat → Int64), LI_ s dC dI q cA qr cR ou cL σ μ f H locs → Vn_ σ μ → lv_has ls 7 [(0, .ref b), (1, .ref (q 0)), (2, .ref (qr 0)), (3, .ref ou), (4, .int (nI (5 * k)))] → W p l e room_1 s m #[Value.ref b] below meth c H locs (50 + k + 1) (8998 + 6 * k + 6) Q (F0 m 669 ls [])) : W p l e room_1 s m #[Value.ref b] below meth c H locs (50 + k) (8998 + 6 * k) Q (F0 m 594 ls []) := by
  have C' := C
  obtain ⟨hx, hb, hml, hown, hts, hKX, hKR, hKO, hN, hZ, hE, hNC, hXs, hbl, hDX, hDR, hd, hno, hnw⟩ := C'
  have hbA : ¬ AN_ s b := Nat.not_le.mpr hbl
  have hne : ¬ AX q ou := fun h => (hd ou h).2 rfl
  have hnO : ∀ a, AO_ q ou a → AN_ s a := fun a h => hnw a (h.elim Or.inl (fun h => Or.inr (Or.inr h)))
  have hnX : ∀ a, AX q a → AN_ s a := fun a h => hnw a (Or.inl h)
  have hnR : ∀ a, AR qr a → AN_ s a := fun a h => hnw a (Or.inr (Or.inl h))
  obtain ⟨hPX, hPR, hPO, hS⟩ := id I
  have vi1 : vp_in (nI (5 * k) + 1) L := vi_k (j := 1) hk hL (by omega)
  have vi2 : vp_in (nI (5 * k) + 2) L := vi_k (j := 2) hk hL (by omega)
  have vi3 : vp_in (nI (5 * k) + 3) L := vi_k (j := 3) hk hL (by omega)
  have vi4 : vp_in (nI (5 * k) + 4) L := vi_k (j := 4) hk hL (by omega)
  obtain ⟨x, e1, e2⟩ := vn_latest hv (xs (nI (5 * k) + 1).toNatClampNeg)
  refine lv_aload_n hx hb d_law_594 rfl (lv_at hl 1 rfl) ?_
  refine lv_aload_n hx hb d_law_595 rfl (lv_at hl 0 rfl) ?_
  refine lv_iload hx hb d_law_596 (lv_at hl 4 rfl) ?_
  refine lv_iconst (v := 1) hx hb d_law_598 (by decide) ?_
  refine lv_iadd hx hb d_law_599 ?_
  refine va_sld hx hb hXs hbl hbA hS vi1 d_law_600 ?_
  refine cx_read (va_runV (As := [.int (xs (nI (5 * k) + 1).toNatClampNeg)]) (rest := []) ⟨hx, hb, hml, hown, hts⟩ (c_S_latest l dC dI q cA pt σ (xs (nI (5 * k) + 1).toNatClampNeg) _ e1) (cw_L_87 hts ⟨Nat.le_of_ble_eq_true rfl, Nat.le_of_ble_eq_true rfl⟩) ⟨pxX_B, va_recv hKX hPX (ci := 0) (q0 := 0) rfl rfl, px_L hPX hKX (hDX σ) hN hZ hS⟩ rfl rfl hl.1 rfl (lv_room (Nat.le_of_ble_eq_true rfl)) d_law_601 ⟨by show 50 + k + 0 ≤ 1086; omega, by show 8998 + 6 * k + 0 ≤ 17262; omega⟩) ?_
  refine lv_aload_n hx hb d_law_604 rfl (lv_at hl 2 rfl) ?_
  refine lv_aload_n hx hb d_law_605 rfl (lv_at hl 0 rfl) ?_
  refine lv_iload hx hb d_law_606 (lv_at hl 4 rfl) ?_
  refine lv_iconst (v := 1) hx hb d_law_608 (by decide) ?_
  refine lv_iadd hx hb d_law_609 ?_
  refine va_sld hx hb hXs hbl hbA hS vi1 d_law_610 ?_
  refine cx_wr (va_runV (As := [.int (xs (nI (5 * k) + 1).toNatClampNeg)]) (rest := [.int x]) ⟨hx, hb, hml, hown, hts⟩ (c_R_latest l dC dI qr cR μ (xs (nI (5 * k) + 1).toNatClampNeg) _ e2) (cw_L_90 hts ⟨Nat.le_of_ble_eq_true rfl, Nat.le_of_ble_eq_true rfl⟩) ⟨pxR_B, va_recv hKR hPR (ci := 7) (q0 := 0) rfl rfl, pr_L hPR hKR (hDR μ)⟩ rfl rfl hl.1 rfl (lv_room (Nat.le_of_ble_eq_true rfl)) d_law_611 ⟨by show 50 + k + 0 ≤ 1086; omega, by show 8998 + 6 * k + 0 ≤ 17262; omega⟩) hS hnR (fun H locs hB hF hS => ?_)
  have I := li_R C I hB hF hS
  refine lv_icmp_eq (tgt := 669) hx hb d_law_614 rfl (fun hc => ?_) (fun hc => absurd rfl hc)
  refine W.widen (k := 50 + k + 1) (n := 8998 + 6 * k + 6) (by omega) (by omega) ?_
  exact kk _ _ _ _ _ _ I (vn_30 hv _) hl
set_option maxHeartbeats 4000000 in
set_option maxRecDepth 100000 in
theorem lc_register {p : Program} {l : Launch} {e : Env} {s : State} {m : MethodId} {below : List Frame} {meth : Method} {c : Code} {H : Heap} {locs : List Loc} {Q : State → Prop} {ls : Array Slot} {dC : Nat → ClassId} {dI : Nat → Nat → Nat} {q : Nat → Nat} {cA : Nat → ClassId} {pt : Nat} {qr : Nat → Nat} {cR : Nat → ClassId} {ou : Nat} {cL : ClassId} {σ μ : MZ_} {f : Nat → Int64} {b L : Nat} {xs : Nat → Int32} {k : Nat} (hfl : l.flags = pinnedFlags ++ [noTraceFlag]) (C : LC_ p s m c b L xs dC dI q cA pt qr cR ou cL) (I : LI_ s dC dI q cA qr cR ou cL σ μ f H locs) (hv : Vn_ σ μ) (hk : 5 * k + 5 ≤ L) (hL : L ≤ 2560) (hl : lv_has ls 7 [(0, .ref b), (1, .ref (q 0)), (2, .ref (qr 0)), (3, .ref ou), (4, .int (nI (5 * k)))]) (kk : ∀ (H : Heap) (locs : List Loc) (ls : Array Slot) (σ μ : MZ_) (f : Nat → Int64), LI_ s dC dI q cA qr cR ou cL σ μ f H locs → Vn_ σ μ → lv_has ls 7 [(0, .ref b), (1, .ref (q 0)), (2, .ref (qr 0)), (3, .ref ou), (4, .int (nI (5 * k)))] → W p l e room_1 s m #[Value.ref b] below meth c H locs (50 + k + 1) (8998 + 6 * k + 6) Q (F0 m 669 ls [])) : W p l e room_1 s m #[Value.ref b] below meth c H locs (50 + k) (8998 + 6 * k) Q (F0 m 619 ls []) := by
  have C' := C
  obtain ⟨hx, hb, hml, hown, hts, hKX, hKR, hKO, hN, hZ, hE, hNC, hXs, hbl, hDX, hDR, hd, hno, hnw⟩ := C'
  have hbA : ¬ AN_ s b := Nat.not_le.mpr hbl
  have hne : ¬ AX q ou := fun h => (hd ou h).2 rfl
  have hnO : ∀ a, AO_ q ou a → AN_ s a := fun a h => hnw a (h.elim Or.inl (fun h => Or.inr (Or.inr h)))
  have hnX : ∀ a, AX q a → AN_ s a := fun a h => hnw a (Or.inl h)
  have hnR : ∀ a, AR qr a → AN_ s a := fun a h => hnw a (Or.inr (Or.inl h))
  obtain ⟨hPX, hPR, hPO, hS⟩ := id I
  have vi1 : vp_in (nI (5 * k) + 1) L := vi_k (j := 1) hk hL (by omega)
  have vi2 : vp_in (nI (5 * k) + 2) L := vi_k (j := 2) hk hL (by omega)
  have vi3 : vp_in (nI (5 * k) + 3) L := vi_k (j := 3) hk hL (by omega)
  have vi4 : vp_in (nI (5 * k) + 4) L := vi_k (j := 4) hk hL (by omega)
  obtain ⟨x, e1, e2⟩ := vn_register hv (xs (nI (5 * k) + 1).toNatClampNeg)
  refine lv_aload_n hx hb d_law_619 rfl (lv_at hl 1 rfl) ?_
  refine lv_aload_n hx hb d_law_620 rfl (lv_at hl 0 rfl) ?_
  refine lv_iload hx hb d_law_621 (lv_at hl 4 rfl) ?_
  refine lv_iconst (v := 1) hx hb d_law_623 (by decide) ?_
  refine lv_iadd hx hb d_law_624 ?_
  refine va_sld hx hb hXs hbl hbA hS vi1 d_law_625 ?_
  refine cx_read (va_runV (As := [.int (xs (nI (5 * k) + 1).toNatClampNeg)]) (rest := []) ⟨hx, hb, hml, hown, hts⟩ (c_S_register l dC dI q cA pt σ (xs (nI (5 * k) + 1).toNatClampNeg) _ e1) (cw_L_91 hts ⟨Nat.le_of_ble_eq_true rfl, Nat.le_of_ble_eq_true rfl⟩) ⟨pxX_B, va_recv hKX hPX (ci := 0) (q0 := 0) rfl rfl, px_L hPX hKX (hDX σ) hN hZ hS⟩ rfl rfl hl.1 rfl (lv_room (Nat.le_of_ble_eq_true rfl)) d_law_626 ⟨by show 50 + k + 0 ≤ 1086; omega, by show 8998 + 6 * k + 0 ≤ 17262; omega⟩) ?_
  refine lv_aload_n hx hb d_law_629 rfl (lv_at hl 2 rfl) ?_
  refine lv_aload_n hx hb d_law_630 rfl (lv_at hl 0 rfl) ?_
  refine lv_iload hx hb d_law_631 (lv_at hl 4 rfl) ?_
  refine lv_iconst (v := 1) hx hb d_law_633 (by decide) ?_
  refine lv_iadd hx hb d_law_634 ?_
  refine va_sld hx hb hXs hbl hbA hS vi1 d_law_635 ?_
  refine cx_wr (va_runV (As := [.int (xs (nI (5 * k) + 1).toNatClampNeg)]) (rest := [.int x]) ⟨hx, hb, hml, hown, hts⟩ (c_R_register l dC dI qr cR μ (xs (nI (5 * k) + 1).toNatClampNeg) _ e2) (cw_L_94 hts ⟨Nat.le_of_ble_eq_true rfl, Nat.le_of_ble_eq_true rfl⟩) ⟨pxR_B, va_recv hKR hPR (ci := 7) (q0 := 0) rfl rfl, pr_L hPR hKR (hDR μ)⟩ rfl rfl hl.1 rfl (lv_room (Nat.le_of_ble_eq_true rfl)) d_law_636 ⟨by show 50 + k + 0 ≤ 1086; omega, by show 8998 + 6 * k + 0 ≤ 17262; omega⟩) hS hnR (fun H locs hB hF hS => ?_)
  have I := li_R C I hB hF hS
  refine lv_icmp_eq (tgt := 669) hx hb d_law_639 rfl (fun hc => ?_) (fun hc => absurd rfl hc)
  refine W.widen (k := 50 + k + 1) (n := 8998 + 6 * k + 6) (by omega) (by omega) ?_
  exact kk _ _ _ _ _ _ I (vn_30 hv _) hl
set_option maxHeartbeats 4000000 in
set_option maxRecDepth 100000 in
theorem lc_count {p : Program} {l : Launch} {e : Env} {s : State} {m : MethodId} {below : List Frame} {meth : Method} {c : Code} {H : Heap} {locs : List Loc} {Q : State → Prop} {ls : Array Slot} {dC : Nat → ClassId} {dI : Nat → Nat → Nat} {q : Nat → Nat} {cA : Nat → ClassId} {pt : Nat} {qr : Nat → Nat} {cR : Nat → ClassId} {ou : Nat} {cL : ClassId} {σ μ : MZ_} {f : Nat → Int64} {b L : Nat} {xs : Nat → Int32} {k : Nat} (hfl : l.flags = pinnedFlags ++ [noTraceFlag]) (C : LC_ p s m c b L xs dC dI q cA pt qr cR ou cL) (I : LI_ s dC dI q cA qr cR ou cL σ μ f H locs) (hv : Vn_ σ μ) (hk : 5 * k + 5 ≤ L) (hL : L ≤ 2560) (hl : lv_has ls 7 [(0, .ref b), (1, .ref (q 0)), (2, .ref (qr 0)), (3, .ref ou), (4, .int (nI (5 * k)))]) (kk : ∀ (H : Heap) (locs : List Loc) (ls : Array Slot) (σ μ : MZ_) (f : Nat → Int64), LI_ s dC dI q cA qr cR ou cL σ μ f H locs → Vn_ σ μ → lv_has ls 7 [(0, .ref b), (1, .ref (q 0)), (2, .ref (qr 0)), (3, .ref ou), (4, .int (nI (5 * k)))] → W p l e room_1 s m #[Value.ref b] below meth c H locs (50 + k + 1) (8998 + 6 * k + 6) Q (F0 m 669 ls [])) : W p l e room_1 s m #[Value.ref b] below meth c H locs (50 + k) (8998 + 6 * k) Q (F0 m 644 ls []) := by
  have C' := C
  obtain ⟨hx, hb, hml, hown, hts, hKX, hKR, hKO, hN, hZ, hE, hNC, hXs, hbl, hDX, hDR, hd, hno, hnw⟩ := C'
  have hbA : ¬ AN_ s b := Nat.not_le.mpr hbl
  have hne : ¬ AX q ou := fun h => (hd ou h).2 rfl
  have hnO : ∀ a, AO_ q ou a → AN_ s a := fun a h => hnw a (h.elim Or.inl (fun h => Or.inr (Or.inr h)))
  have hnX : ∀ a, AX q a → AN_ s a := fun a h => hnw a (Or.inl h)
  have hnR : ∀ a, AR qr a → AN_ s a := fun a h => hnw a (Or.inr (Or.inl h))
  obtain ⟨hPX, hPR, hPO, hS⟩ := id I
  have vi1 : vp_in (nI (5 * k) + 1) L := vi_k (j := 1) hk hL (by omega)
  have vi2 : vp_in (nI (5 * k) + 2) L := vi_k (j := 2) hk hL (by omega)
  have vi3 : vp_in (nI (5 * k) + 3) L := vi_k (j := 3) hk hL (by omega)
  have vi4 : vp_in (nI (5 * k) + 4) L := vi_k (j := 4) hk hL (by omega)
  obtain ⟨x, e1, e2⟩ := vn_count hv (xs (nI (5 * k) + 1).toNatClampNeg)
  refine lv_aload_n hx hb d_law_644 rfl (lv_at hl 1 rfl) ?_
  refine lv_aload_n hx hb d_law_645 rfl (lv_at hl 0 rfl) ?_
  refine lv_iload hx hb d_law_646 (lv_at hl 4 rfl) ?_
  refine lv_iconst (v := 1) hx hb d_law_648 (by decide) ?_
  refine lv_iadd hx hb d_law_649 ?_
  refine va_sld hx hb hXs hbl hbA hS vi1 d_law_650 ?_
  refine cx_read (va_runV (As := [.int (xs (nI (5 * k) + 1).toNatClampNeg)]) (rest := []) ⟨hx, hb, hml, hown, hts⟩ (c_S_count l dC dI q cA pt σ (xs (nI (5 * k) + 1).toNatClampNeg) _ e1) (cw_L_95 hts ⟨Nat.le_of_ble_eq_true rfl, Nat.le_of_ble_eq_true rfl⟩) ⟨pxX_B, va_recv hKX hPX (ci := 0) (q0 := 0) rfl rfl, px_L hPX hKX (hDX σ) hN hZ hS⟩ rfl rfl hl.1 rfl (lv_room (Nat.le_of_ble_eq_true rfl)) d_law_651 ⟨by show 50 + k + 0 ≤ 1086; omega, by show 8998 + 6 * k + 0 ≤ 17262; omega⟩) ?_
  refine lv_aload_n hx hb d_law_654 rfl (lv_at hl 2 rfl) ?_
  refine lv_aload_n hx hb d_law_655 rfl (lv_at hl 0 rfl) ?_
  refine lv_iload hx hb d_law_656 (lv_at hl 4 rfl) ?_
  refine lv_iconst (v := 1) hx hb d_law_658 (by decide) ?_
  refine lv_iadd hx hb d_law_659 ?_
  refine va_sld hx hb hXs hbl hbA hS vi1 d_law_660 ?_
  refine cx_wr (va_runV (As := [.int (xs (nI (5 * k) + 1).toNatClampNeg)]) (rest := [.int x]) ⟨hx, hb, hml, hown, hts⟩ (c_R_count l dC dI qr cR μ (xs (nI (5 * k) + 1).toNatClampNeg) _ e2) (cw_L_98 hts ⟨Nat.le_of_ble_eq_true rfl, Nat.le_of_ble_eq_true rfl⟩) ⟨pxR_B, va_recv hKR hPR (ci := 7) (q0 := 0) rfl rfl, pr_L hPR hKR (hDR μ)⟩ rfl rfl hl.1 rfl (lv_room (Nat.le_of_ble_eq_true rfl)) d_law_661 ⟨by show 50 + k + 0 ≤ 1086; omega, by show 8998 + 6 * k + 0 ≤ 17262; omega⟩) hS hnR (fun H locs hB hF hS => ?_)
  have I := li_R C I hB hF hS
  refine lv_icmp_eq (tgt := 669) hx hb d_law_664 rfl (fun hc => ?_) (fun hc => absurd rfl hc)
  refine W.widen (k := 50 + k + 1) (n := 8998 + 6 * k + 6) (by omega) (by omega) ?_
  exact kk _ _ _ _ _ _ I (vn_30 hv _) hl
