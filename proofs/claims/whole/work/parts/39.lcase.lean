set_option maxHeartbeats 4000000 in
set_option maxRecDepth 100000 in
theorem lc_currency {p : Program} {l : Launch} {e : Env} {s : State} {m : MethodId} {below : List Frame} {meth : Method} {c : Code} {D : va_G} {cI cL cQ : ClassId} {b L : Nat} {xs : Nat → Int32} (RR : Nat → MS → XS → Prop) (hRB : ∀ n ms x, RR n ms x → RB n ms x) (hs : ∀ (n : Nat) (ms : MS) (x : XS), RR n ms x → n < 512 → (g_X_currency x).1 = (g_M_currency ms).1 ∧ RR (n + 1) (g_M_currency ms).2 (g_X_currency x).2) (hL : L ≤ 3074) (C0 : lw_At p s m meth c b L xs) (hK : va_K D vCl (kT cI cL cQ) s) (j : Nat) (hj : 8 + 6 * j ≤ L) (d : Nat → Nat) (κ : Nat → Option va_E) (ms : MS) (x : XS) (H : Heap) (locs : List Loc) (ls : Array Slot) (cells slots : Nat) (hc8 : cells + 3 ≤ 600000) (hs8 : slots + 516 ≤ 7302250) (hM : kW D vCl d κ (fun q : Nat => s.heap.size ≤ q) s.heap H locs) (hm : IsM cI cL d κ ms) (hX : IsX cI cL cQ d κ x) (hR : RR j ms x) (hl : lv_has ls 4 [(3, .int (nI (2 + 6 * j))), (2, .ref (d 0)), (1, .ref (d 18)), (0, .ref b)]) (next : ∀ (d : Nat → Nat) (κ : Nat → Option va_E) (ms : MS) (x : XS) (H : Heap) (locs : List Loc) (ls : Array Slot), kW D vCl d κ (fun q : Nat => s.heap.size ≤ q) s.heap H locs → IsM cI cL d κ ms → IsX cI cL cQ d κ x → RR (j + 1) ms x → lv_has ls 4 [(3, .int (nI (2 + 6 * j))), (2, .ref (d 0)), (1, .ref (d 18)), (0, .ref b)] → W p l e room_1 s m #[Value.ref b] below meth c H locs (cells + 3) (slots + 516) (lw_Z below #[Value.ref b] s) (F0 m 943 ls [])) : W p l e room_1 s m #[Value.ref b] below meth c H locs cells slots (lw_Z below #[Value.ref b] s) (F0 m 144 ls []) := by
  obtain ⟨hx, hb, hr, hml, hown, hts0, hX0, hbl, hlocks, hgv⟩ := C0
  have hts : ∀ w ∈ lw_g, w.before #[Value.ref b] s = true := fun w h => hts0 w (List.mem_filter.mp h).1
  have hbA : ¬ (fun q : Nat => s.heap.size ≤ q) b := Nat.not_le.mpr hbl
  have hB := hRB j ms x hR
  have hR : RR j ms x ∧ j < 512 := ⟨hR, by omega⟩
  obtain ⟨hB5, hB6, hB7⟩ := hB.2.2
  have hm0 := hm
  have hc9 : cells + 3 ≤ room_1.cells := hc8
  have hs9 : slots + 516 ≤ room_1.slots := hs8
  refine lv_aload_n hx hb dL_law_144 rfl (lv_at hl 2 rfl) ?_
  refine ka_calli (W.runV (C := RX) (As := []) (rest := []) ⟨hx, hb, hml, hown, hts⟩ (c_X_currency l D cI cL cQ d κ x hX hB.2.1 _ ) (cwV 0 hts (k_gV tw_130 tw_131 tw_132 tw_38 tw_133) rfl rfl rfl (by decide +kernel) ⟨Nat.le_of_ble_eq_true rfl, Nat.le_of_ble_eq_true rfl⟩) (kPreV hM.1 hK (q := 18) hX.1 rfl) rfl rfl hl.1 rfl (lv_room (Nat.le_of_ble_eq_true rfl)) dL_law_145 ⟨hc9, hs9⟩) hM (fun _ h9 => h9) (fun r_145 dX κX H locs h1_145 hM => ?_)
  obtain ⟨er_145, hG⟩ := h1_145
  subst er_145
  have hm := hm.keep hG.2.1 (fun k hk => (hm.live k hk).elim (fun e h => hG.2.2 k e h))
  have e0 : dX 0 = d 0 := hG.2.2 0 _ hm0.1
  have e18 : dX 18 = d 18 := hG.2.2 18 _ hX.1
  have hl : lv_has ls 4 [(3, .int (nI (2 + 6 * j))), (2, .ref (dX 0)), (1, .ref (dX 18)), (0, .ref b)] := by rw [e0, e18]; exact hl
  have hc9 := hc8
  have hs9 := hs8
  have hX := hG.1
  refine lv_aload_n hx hb dL_law_148 rfl (lv_at hl 1 rfl) ?_
  refine ka_ncalli (W.runV (C := RM) (As := []) (rest := [.int ((g_X_currency x).1)]) ⟨hx, hb, hml, hown, hts⟩ (c_M_currency l D cI cL cQ dX κX ms hm hB.1 _  ) (cwV 0 hts (k_gV tw_479 tw_480 tw_481 tw_41 tw_482) rfl rfl rfl (by decide +kernel) ⟨Nat.le_of_ble_eq_true rfl, Nat.le_of_ble_eq_true rfl⟩) (kPreV hM.1 hK (q := 0) hm.1 rfl) rfl rfl hl.1 rfl (lv_room (Nat.le_of_ble_eq_true rfl)) dL_law_149 ⟨hc9, hs9⟩) hM (fun _ h9 => h9) (fun r_149 κM H locs h1_149 hM => ?_)
  obtain ⟨er_149, hWM⟩ := h1_149
  subst er_149
  have hX := hX.keep (fun k hk => hWM.2 k hk)
  have hm := hWM.1
  have hEQ := hs j ms x  hR.1 hR.2
  refine lv_icmp_eq (tgt := 943) hx hb dL_law_152 (by decide) (fun _ => ?_) (fun c => absurd hEQ.1 c)
  exact next _ _ _ _ _ _ ls hM hm hX hEQ.2 hl
set_option maxHeartbeats 4000000 in
set_option maxRecDepth 100000 in
theorem lc_security {p : Program} {l : Launch} {e : Env} {s : State} {m : MethodId} {below : List Frame} {meth : Method} {c : Code} {D : va_G} {cI cL cQ : ClassId} {b L : Nat} {xs : Nat → Int32} (RR : Nat → MS → XS → Prop) (hRB : ∀ n ms x, RR n ms x → RB n ms x) (hs : ∀ (n : Nat) (ms : MS) (x : XS) (v0 : Int64) (v1 : Int32), RR n ms x → n < 512 → (g_X_security x v0 v1).1 = (g_M_security ms v0 v1).1 ∧ RR (n + 1) (g_M_security ms v0 v1).2 (g_X_security x v0 v1).2) (hL : L ≤ 3074) (C0 : lw_At p s m meth c b L xs) (hK : va_K D vCl (kT cI cL cQ) s) (j : Nat) (hj : 8 + 6 * j ≤ L) (d : Nat → Nat) (κ : Nat → Option va_E) (ms : MS) (x : XS) (H : Heap) (locs : List Loc) (ls : Array Slot) (cells slots : Nat) (hc8 : cells + 3 ≤ 600000) (hs8 : slots + 516 ≤ 7302250) (hM : kW D vCl d κ (fun q : Nat => s.heap.size ≤ q) s.heap H locs) (hm : IsM cI cL d κ ms) (hX : IsX cI cL cQ d κ x) (hR : RR j ms x) (hl : lv_has ls 4 [(3, .int (nI (2 + 6 * j))), (2, .ref (d 0)), (1, .ref (d 18)), (0, .ref b)]) (next : ∀ (d : Nat → Nat) (κ : Nat → Option va_E) (ms : MS) (x : XS) (H : Heap) (locs : List Loc) (ls : Array Slot), kW D vCl d κ (fun q : Nat => s.heap.size ≤ q) s.heap H locs → IsM cI cL d κ ms → IsX cI cL cQ d κ x → RR (j + 1) ms x → lv_has ls 4 [(3, .int (nI (2 + 6 * j))), (2, .ref (d 0)), (1, .ref (d 18)), (0, .ref b)] → W p l e room_1 s m #[Value.ref b] below meth c H locs (cells + 3) (slots + 516) (lw_Z below #[Value.ref b] s) (F0 m 943 ls [])) : W p l e room_1 s m #[Value.ref b] below meth c H locs cells slots (lw_Z below #[Value.ref b] s) (F0 m 157 ls []) := by
  obtain ⟨hx, hb, hr, hml, hown, hts0, hX0, hbl, hlocks, hgv⟩ := C0
  have hts : ∀ w ∈ lw_g, w.before #[Value.ref b] s = true := fun w h => hts0 w (List.mem_filter.mp h).1
  have hbA : ¬ (fun q : Nat => s.heap.size ≤ q) b := Nat.not_le.mpr hbl
  have hB := hRB j ms x hR
  have hR : RR j ms x ∧ j < 512 := ⟨hR, by omega⟩
  obtain ⟨hB5, hB6, hB7⟩ := hB.2.2
  have hm0 := hm
  have hc9 : cells + 3 ≤ room_1.cells := hc8
  have hs9 : slots + 516 ≤ room_1.slots := hs8
  refine lv_aload_n hx hb dL_law_157 rfl (lv_at hl 2 rfl) ?_
  refine lv_aload_n hx hb dL_law_158 rfl (lv_at hl 3 rfl) ?_
  refine lv_iload_n hx hb dL_law_159 rfl (lv_at hl 0 rfl) ?_
  refine lv_iconst (v := 1) hx hb dL_law_160 (by decide) ?_
  refine lv_iadd hx hb dL_law_161 ?_
  refine k_topi (show nI (2 + 6 * j) + 1 = nI ((2 + 6 * j) + 1) from nI_add _ _) ?_
  refine va_sld hx hb hX0 hbl hbA hM.2.2 (vp_in_nI (by omega) (by omega)) dL_law_162 ?_
  refine lv_i2l hx hb dL_law_163 rfl ?_
  refine lv_bipush (v := 32) hx hb dL_law_164 (by decide) ?_
  refine lv_lshl hx hb dL_law_166 rfl ?_
  refine lv_aload_n hx hb dL_law_167 rfl (lv_at hl 3 rfl) ?_
  refine lv_iload_n hx hb dL_law_168 rfl (lv_at hl 0 rfl) ?_
  refine lv_iconst (v := 2) hx hb dL_law_169 (by decide) ?_
  refine lv_iadd hx hb dL_law_170 ?_
  refine k_topi (show nI (2 + 6 * j) + 2 = nI ((2 + 6 * j) + 2) from nI_add _ _) ?_
  refine va_sld hx hb hX0 hbl hbA hM.2.2 (vp_in_nI (by omega) (by omega)) dL_law_171 ?_
  refine lv_i2l hx hb dL_law_172 rfl ?_
  refine lv_ldc2 (v := 4294967295) hx hb hown (hts _ tw_619) dL_law_173 ?_
  refine lv_land hx hb dL_law_176 ?_
  refine lv_lor hx hb dL_law_177 ?_
  refine lv_aload_n hx hb dL_law_178 rfl (lv_at hl 3 rfl) ?_
  refine lv_iload_n hx hb dL_law_179 rfl (lv_at hl 0 rfl) ?_
  refine lv_iconst (v := 3) hx hb dL_law_180 (by decide) ?_
  refine lv_iadd hx hb dL_law_181 ?_
  refine k_topi (show nI (2 + 6 * j) + 3 = nI ((2 + 6 * j) + 3) from nI_add _ _) ?_
  refine va_sld hx hb hX0 hbl hbA hM.2.2 (vp_in_nI (by omega) (by omega)) dL_law_182 ?_
  refine ka_calli (W.runV (C := RX) (As := [.long ((((xs (nI ((2 + 6 * j) + 1)).toNatClampNeg).toInt64) <<< ((32 : Int32).toInt64 &&& 63)) ||| (((xs (nI ((2 + 6 * j) + 2)).toNatClampNeg).toInt64) &&& 4294967295)), .int (xs (nI ((2 + 6 * j) + 3)).toNatClampNeg)]) (rest := []) ⟨hx, hb, hml, hown, hts⟩ (c_X_security l D cI cL cQ d κ x hX hB.2.1 _ ((((xs (nI ((2 + 6 * j) + 1)).toNatClampNeg).toInt64) <<< ((32 : Int32).toInt64 &&& 63)) ||| (((xs (nI ((2 + 6 * j) + 2)).toNatClampNeg).toInt64) &&& 4294967295)) (xs (nI ((2 + 6 * j) + 3)).toNatClampNeg)) (cwV 2 hts (k_gV tw_160 tw_161 tw_162 tw_38 tw_163) rfl rfl rfl (by decide +kernel) ⟨Nat.le_of_ble_eq_true rfl, Nat.le_of_ble_eq_true rfl⟩) (kPreV hM.1 hK (q := 18) hX.1 rfl) rfl rfl hl.1 rfl (lv_room (Nat.le_of_ble_eq_true rfl)) dL_law_183 ⟨hc9, hs9⟩) hM (fun _ h9 => h9) (fun r_183 dX κX H locs h1_183 hM => ?_)
  obtain ⟨er_183, hG⟩ := h1_183
  subst er_183
  have hm := hm.keep hG.2.1 (fun k hk => (hm.live k hk).elim (fun e h => hG.2.2 k e h))
  have e0 : dX 0 = d 0 := hG.2.2 0 _ hm0.1
  have e18 : dX 18 = d 18 := hG.2.2 18 _ hX.1
  have hl : lv_has ls 4 [(3, .int (nI (2 + 6 * j))), (2, .ref (dX 0)), (1, .ref (dX 18)), (0, .ref b)] := by rw [e0, e18]; exact hl
  have hc9 := hc8
  have hs9 := hs8
  have hX := hG.1
  refine lv_aload_n hx hb dL_law_186 rfl (lv_at hl 1 rfl) ?_
  refine lv_aload_n hx hb dL_law_187 rfl (lv_at hl 3 rfl) ?_
  refine lv_iload_n hx hb dL_law_188 rfl (lv_at hl 0 rfl) ?_
  refine lv_iconst (v := 1) hx hb dL_law_189 (by decide) ?_
  refine lv_iadd hx hb dL_law_190 ?_
  refine k_topi (show nI (2 + 6 * j) + 1 = nI ((2 + 6 * j) + 1) from nI_add _ _) ?_
  refine va_sld hx hb hX0 hbl hbA hM.2.2 (vp_in_nI (by omega) (by omega)) dL_law_191 ?_
  refine lv_i2l hx hb dL_law_192 rfl ?_
  refine lv_bipush (v := 32) hx hb dL_law_193 (by decide) ?_
  refine lv_lshl hx hb dL_law_195 rfl ?_
  refine lv_aload_n hx hb dL_law_196 rfl (lv_at hl 3 rfl) ?_
  refine lv_iload_n hx hb dL_law_197 rfl (lv_at hl 0 rfl) ?_
  refine lv_iconst (v := 2) hx hb dL_law_198 (by decide) ?_
  refine lv_iadd hx hb dL_law_199 ?_
  refine k_topi (show nI (2 + 6 * j) + 2 = nI ((2 + 6 * j) + 2) from nI_add _ _) ?_
  refine va_sld hx hb hX0 hbl hbA hM.2.2 (vp_in_nI (by omega) (by omega)) dL_law_200 ?_
  refine lv_i2l hx hb dL_law_201 rfl ?_
  refine lv_ldc2 (v := 4294967295) hx hb hown (hts _ tw_619) dL_law_202 ?_
  refine lv_land hx hb dL_law_205 ?_
  refine lv_lor hx hb dL_law_206 ?_
  refine lv_aload_n hx hb dL_law_207 rfl (lv_at hl 3 rfl) ?_
  refine lv_iload_n hx hb dL_law_208 rfl (lv_at hl 0 rfl) ?_
  refine lv_iconst (v := 3) hx hb dL_law_209 (by decide) ?_
  refine lv_iadd hx hb dL_law_210 ?_
  refine k_topi (show nI (2 + 6 * j) + 3 = nI ((2 + 6 * j) + 3) from nI_add _ _) ?_
  refine va_sld hx hb hX0 hbl hbA hM.2.2 (vp_in_nI (by omega) (by omega)) dL_law_211 ?_
  refine ka_ncalli (W.runV (C := RM) (As := [.long ((((xs (nI ((2 + 6 * j) + 1)).toNatClampNeg).toInt64) <<< ((32 : Int32).toInt64 &&& 63)) ||| (((xs (nI ((2 + 6 * j) + 2)).toNatClampNeg).toInt64) &&& 4294967295)), .int (xs (nI ((2 + 6 * j) + 3)).toNatClampNeg)]) (rest := [.int ((g_X_security x ((((xs (nI ((2 + 6 * j) + 1)).toNatClampNeg).toInt64) <<< ((32 : Int32).toInt64 &&& 63)) ||| (((xs (nI ((2 + 6 * j) + 2)).toNatClampNeg).toInt64) &&& 4294967295)) (xs (nI ((2 + 6 * j) + 3)).toNatClampNeg)).1)]) ⟨hx, hb, hml, hown, hts⟩ (c_M_security l D cI cL cQ dX κX ms hm hB.1 _ ((((xs (nI ((2 + 6 * j) + 1)).toNatClampNeg).toInt64) <<< ((32 : Int32).toInt64 &&& 63)) ||| (((xs (nI ((2 + 6 * j) + 2)).toNatClampNeg).toInt64) &&& 4294967295)) (xs (nI ((2 + 6 * j) + 3)).toNatClampNeg) ) (cwV 2 hts (k_gV tw_483 tw_484 tw_485 tw_41 tw_486) rfl rfl rfl (by decide +kernel) ⟨Nat.le_of_ble_eq_true rfl, Nat.le_of_ble_eq_true rfl⟩) (kPreV hM.1 hK (q := 0) hm.1 rfl) rfl rfl hl.1 rfl (lv_room (Nat.le_of_ble_eq_true rfl)) dL_law_212 ⟨hc9, hs9⟩) hM (fun _ h9 => h9) (fun r_212 κM H locs h1_212 hM => ?_)
  obtain ⟨er_212, hWM⟩ := h1_212
  subst er_212
  have hX := hX.keep (fun k hk => hWM.2 k hk)
  have hm := hWM.1
  have hEQ := hs j ms x (((xs (nI ((2 + 6 * j) + 1)).toNatClampNeg).toInt64 <<< ((32 : Int32).toInt64 &&& 63)) ||| ((xs (nI ((2 + 6 * j) + 2)).toNatClampNeg).toInt64 &&& 4294967295)) (xs (nI ((2 + 6 * j) + 3)).toNatClampNeg) hR.1 hR.2
  refine lv_icmp_eq (tgt := 943) hx hb dL_law_215 (by decide) (fun _ => ?_) (fun c => absurd hEQ.1 c)
  exact next _ _ _ _ _ _ ls hM hm hX hEQ.2 hl
set_option maxHeartbeats 4000000 in
set_option maxRecDepth 100000 in
theorem lc_price {p : Program} {l : Launch} {e : Env} {s : State} {m : MethodId} {below : List Frame} {meth : Method} {c : Code} {D : va_G} {cI cL cQ : ClassId} {b L : Nat} {xs : Nat → Int32} (RR : Nat → MS → XS → Prop) (hRB : ∀ n ms x, RR n ms x → RB n ms x) (hs : ∀ (n : Nat) (ms : MS) (x : XS) (v0 : Int32) (v1 : Int64) (v2 : Int32), RR n ms x → n < 512 → (g_X_price x v0 v1 v2).1 = (g_M_price ms v0 v1 v2).1 ∧ RR (n + 1) (g_M_price ms v0 v1 v2).2 (g_X_price x v0 v1 v2).2) (hL : L ≤ 3074) (C0 : lw_At p s m meth c b L xs) (hK : va_K D vCl (kT cI cL cQ) s) (j : Nat) (hj : 8 + 6 * j ≤ L) (d : Nat → Nat) (κ : Nat → Option va_E) (ms : MS) (x : XS) (H : Heap) (locs : List Loc) (ls : Array Slot) (cells slots : Nat) (hc8 : cells + 3 ≤ 600000) (hs8 : slots + 516 ≤ 7302250) (hM : kW D vCl d κ (fun q : Nat => s.heap.size ≤ q) s.heap H locs) (hm : IsM cI cL d κ ms) (hX : IsX cI cL cQ d κ x) (hR : RR j ms x) (hl : lv_has ls 4 [(3, .int (nI (2 + 6 * j))), (2, .ref (d 0)), (1, .ref (d 18)), (0, .ref b)]) (next : ∀ (d : Nat → Nat) (κ : Nat → Option va_E) (ms : MS) (x : XS) (H : Heap) (locs : List Loc) (ls : Array Slot), kW D vCl d κ (fun q : Nat => s.heap.size ≤ q) s.heap H locs → IsM cI cL d κ ms → IsX cI cL cQ d κ x → RR (j + 1) ms x → lv_has ls 4 [(3, .int (nI (2 + 6 * j))), (2, .ref (d 0)), (1, .ref (d 18)), (0, .ref b)] → W p l e room_1 s m #[Value.ref b] below meth c H locs (cells + 3) (slots + 516) (lw_Z below #[Value.ref b] s) (F0 m 943 ls [])) : W p l e room_1 s m #[Value.ref b] below meth c H locs cells slots (lw_Z below #[Value.ref b] s) (F0 m 220 ls []) := by
  obtain ⟨hx, hb, hr, hml, hown, hts0, hX0, hbl, hlocks, hgv⟩ := C0
  have hts : ∀ w ∈ lw_g, w.before #[Value.ref b] s = true := fun w h => hts0 w (List.mem_filter.mp h).1
  have hbA : ¬ (fun q : Nat => s.heap.size ≤ q) b := Nat.not_le.mpr hbl
  have hB := hRB j ms x hR
  have hR : RR j ms x ∧ j < 512 := ⟨hR, by omega⟩
  obtain ⟨hB5, hB6, hB7⟩ := hB.2.2
  have hm0 := hm
  have hc9 : cells + 0 ≤ room_1.cells := by show cells + 0 ≤ 600000; omega
  have hs9 : slots + 0 ≤ room_1.slots := by show slots + 0 ≤ 7302250; omega
  refine lv_aload_n hx hb dL_law_220 rfl (lv_at hl 2 rfl) ?_
  refine lv_aload_n hx hb dL_law_221 rfl (lv_at hl 3 rfl) ?_
  refine lv_iload_n hx hb dL_law_222 rfl (lv_at hl 0 rfl) ?_
  refine lv_iconst (v := 1) hx hb dL_law_223 (by decide) ?_
  refine lv_iadd hx hb dL_law_224 ?_
  refine k_topi (show nI (2 + 6 * j) + 1 = nI ((2 + 6 * j) + 1) from nI_add _ _) ?_
  refine va_sld hx hb hX0 hbl hbA hM.2.2 (vp_in_nI (by omega) (by omega)) dL_law_225 ?_
  refine lv_aload_n hx hb dL_law_226 rfl (lv_at hl 3 rfl) ?_
  refine lv_iload_n hx hb dL_law_227 rfl (lv_at hl 0 rfl) ?_
  refine lv_iconst (v := 2) hx hb dL_law_228 (by decide) ?_
  refine lv_iadd hx hb dL_law_229 ?_
  refine k_topi (show nI (2 + 6 * j) + 2 = nI ((2 + 6 * j) + 2) from nI_add _ _) ?_
  refine va_sld hx hb hX0 hbl hbA hM.2.2 (vp_in_nI (by omega) (by omega)) dL_law_230 ?_
  refine lv_i2l hx hb dL_law_231 rfl ?_
  refine lv_bipush (v := 32) hx hb dL_law_232 (by decide) ?_
  refine lv_lshl hx hb dL_law_234 rfl ?_
  refine lv_aload_n hx hb dL_law_235 rfl (lv_at hl 3 rfl) ?_
  refine lv_iload_n hx hb dL_law_236 rfl (lv_at hl 0 rfl) ?_
  refine lv_iconst (v := 3) hx hb dL_law_237 (by decide) ?_
  refine lv_iadd hx hb dL_law_238 ?_
  refine k_topi (show nI (2 + 6 * j) + 3 = nI ((2 + 6 * j) + 3) from nI_add _ _) ?_
  refine va_sld hx hb hX0 hbl hbA hM.2.2 (vp_in_nI (by omega) (by omega)) dL_law_239 ?_
  refine lv_i2l hx hb dL_law_240 rfl ?_
  refine lv_ldc2 (v := 4294967295) hx hb hown (hts _ tw_619) dL_law_241 ?_
  refine lv_land hx hb dL_law_244 ?_
  refine lv_lor hx hb dL_law_245 ?_
  refine lv_aload_n hx hb dL_law_246 rfl (lv_at hl 3 rfl) ?_
  refine lv_iload_n hx hb dL_law_247 rfl (lv_at hl 0 rfl) ?_
  refine lv_iconst (v := 4) hx hb dL_law_248 (by decide) ?_
  refine lv_iadd hx hb dL_law_249 ?_
  refine k_topi (show nI (2 + 6 * j) + 4 = nI ((2 + 6 * j) + 4) from nI_add _ _) ?_
  refine va_sld hx hb hX0 hbl hbA hM.2.2 (vp_in_nI (by omega) (by omega)) dL_law_250 ?_
  refine ka_ncalli (W.runV (C := RX) (As := [.int (xs (nI ((2 + 6 * j) + 1)).toNatClampNeg), .long ((((xs (nI ((2 + 6 * j) + 2)).toNatClampNeg).toInt64) <<< ((32 : Int32).toInt64 &&& 63)) ||| (((xs (nI ((2 + 6 * j) + 3)).toNatClampNeg).toInt64) &&& 4294967295)), .int (xs (nI ((2 + 6 * j) + 4)).toNatClampNeg)]) (rest := []) ⟨hx, hb, hml, hown, hts⟩ (c_X_price l D cI cL cQ d κ x hX hB.2.1 _ (xs (nI ((2 + 6 * j) + 1)).toNatClampNeg) ((((xs (nI ((2 + 6 * j) + 2)).toNatClampNeg).toInt64) <<< ((32 : Int32).toInt64 &&& 63)) ||| (((xs (nI ((2 + 6 * j) + 3)).toNatClampNeg).toInt64) &&& 4294967295)) (xs (nI ((2 + 6 * j) + 4)).toNatClampNeg)) (cwV 3 hts (k_gV tw_171 tw_172 tw_173 tw_38 tw_174) rfl rfl rfl (by decide +kernel) ⟨Nat.le_of_ble_eq_true rfl, Nat.le_of_ble_eq_true rfl⟩) (kPreV hM.1 hK (q := 18) hX.1 rfl) rfl rfl hl.1 rfl (lv_room (Nat.le_of_ble_eq_true rfl)) dL_law_251 ⟨hc9, hs9⟩) hM (fun _ h9 => h9) (fun r_251 κX H locs h1_251 hM => ?_)
  obtain ⟨er_251, hWX⟩ := h1_251
  subst er_251
  have hm := hm.keep (fun k hk => hWX.2 k hk) (fun _ _ => rfl)
  have hX := hWX.1
  refine lv_aload_n hx hb dL_law_254 rfl (lv_at hl 1 rfl) ?_
  refine lv_aload_n hx hb dL_law_255 rfl (lv_at hl 3 rfl) ?_
  refine lv_iload_n hx hb dL_law_256 rfl (lv_at hl 0 rfl) ?_
  refine lv_iconst (v := 1) hx hb dL_law_257 (by decide) ?_
  refine lv_iadd hx hb dL_law_258 ?_
  refine k_topi (show nI (2 + 6 * j) + 1 = nI ((2 + 6 * j) + 1) from nI_add _ _) ?_
  refine va_sld hx hb hX0 hbl hbA hM.2.2 (vp_in_nI (by omega) (by omega)) dL_law_259 ?_
  refine lv_aload_n hx hb dL_law_260 rfl (lv_at hl 3 rfl) ?_
  refine lv_iload_n hx hb dL_law_261 rfl (lv_at hl 0 rfl) ?_
  refine lv_iconst (v := 2) hx hb dL_law_262 (by decide) ?_
  refine lv_iadd hx hb dL_law_263 ?_
  refine k_topi (show nI (2 + 6 * j) + 2 = nI ((2 + 6 * j) + 2) from nI_add _ _) ?_
  refine va_sld hx hb hX0 hbl hbA hM.2.2 (vp_in_nI (by omega) (by omega)) dL_law_264 ?_
  refine lv_i2l hx hb dL_law_265 rfl ?_
  refine lv_bipush (v := 32) hx hb dL_law_266 (by decide) ?_
  refine lv_lshl hx hb dL_law_268 rfl ?_
  refine lv_aload_n hx hb dL_law_269 rfl (lv_at hl 3 rfl) ?_
  refine lv_iload_n hx hb dL_law_270 rfl (lv_at hl 0 rfl) ?_
  refine lv_iconst (v := 3) hx hb dL_law_271 (by decide) ?_
  refine lv_iadd hx hb dL_law_272 ?_
  refine k_topi (show nI (2 + 6 * j) + 3 = nI ((2 + 6 * j) + 3) from nI_add _ _) ?_
  refine va_sld hx hb hX0 hbl hbA hM.2.2 (vp_in_nI (by omega) (by omega)) dL_law_273 ?_
  refine lv_i2l hx hb dL_law_274 rfl ?_
  refine lv_ldc2 (v := 4294967295) hx hb hown (hts _ tw_619) dL_law_275 ?_
  refine lv_land hx hb dL_law_278 ?_
  refine lv_lor hx hb dL_law_279 ?_
  refine lv_aload_n hx hb dL_law_280 rfl (lv_at hl 3 rfl) ?_
  refine lv_iload_n hx hb dL_law_281 rfl (lv_at hl 0 rfl) ?_
  refine lv_iconst (v := 4) hx hb dL_law_282 (by decide) ?_
  refine lv_iadd hx hb dL_law_283 ?_
  refine k_topi (show nI (2 + 6 * j) + 4 = nI ((2 + 6 * j) + 4) from nI_add _ _) ?_
  refine va_sld hx hb hX0 hbl hbA hM.2.2 (vp_in_nI (by omega) (by omega)) dL_law_284 ?_
  refine ka_ncalli (W.runV (C := RM) (As := [.int (xs (nI ((2 + 6 * j) + 1)).toNatClampNeg), .long ((((xs (nI ((2 + 6 * j) + 2)).toNatClampNeg).toInt64) <<< ((32 : Int32).toInt64 &&& 63)) ||| (((xs (nI ((2 + 6 * j) + 3)).toNatClampNeg).toInt64) &&& 4294967295)), .int (xs (nI ((2 + 6 * j) + 4)).toNatClampNeg)]) (rest := [.int ((g_X_price x (xs (nI ((2 + 6 * j) + 1)).toNatClampNeg) ((((xs (nI ((2 + 6 * j) + 2)).toNatClampNeg).toInt64) <<< ((32 : Int32).toInt64 &&& 63)) ||| (((xs (nI ((2 + 6 * j) + 3)).toNatClampNeg).toInt64) &&& 4294967295)) (xs (nI ((2 + 6 * j) + 4)).toNatClampNeg)).1)]) ⟨hx, hb, hml, hown, hts⟩ (c_M_price l D cI cL cQ d κX ms hm hB.1 _ (xs (nI ((2 + 6 * j) + 1)).toNatClampNeg) ((((xs (nI ((2 + 6 * j) + 2)).toNatClampNeg).toInt64) <<< ((32 : Int32).toInt64 &&& 63)) ||| (((xs (nI ((2 + 6 * j) + 3)).toNatClampNeg).toInt64) &&& 4294967295)) (xs (nI ((2 + 6 * j) + 4)).toNatClampNeg) ) (cwV 3 hts (k_gV tw_491 tw_492 tw_493 tw_41 tw_494) rfl rfl rfl (by decide +kernel) ⟨Nat.le_of_ble_eq_true rfl, Nat.le_of_ble_eq_true rfl⟩) (kPreV hM.1 hK (q := 0) hm.1 rfl) rfl rfl hl.1 rfl (lv_room (Nat.le_of_ble_eq_true rfl)) dL_law_285 ⟨hc9, hs9⟩) hM (fun _ h9 => h9) (fun r_285 κM H locs h1_285 hM => ?_)
  obtain ⟨er_285, hWM⟩ := h1_285
  subst er_285
  have hX := hX.keep (fun k hk => hWM.2 k hk)
  have hm := hWM.1
  have hEQ := hs j ms x (xs (nI ((2 + 6 * j) + 1)).toNatClampNeg) (((xs (nI ((2 + 6 * j) + 2)).toNatClampNeg).toInt64 <<< ((32 : Int32).toInt64 &&& 63)) ||| ((xs (nI ((2 + 6 * j) + 3)).toNatClampNeg).toInt64 &&& 4294967295)) (xs (nI ((2 + 6 * j) + 4)).toNatClampNeg) hR.1 hR.2
  refine lv_icmp_eq (tgt := 943) hx hb dL_law_288 (by decide) (fun _ => ?_) (fun c => absurd hEQ.1 c)
  refine W.widen (k := cells + 3) (n := slots + 516) (by omega) (by omega) ?_
  exact next _ _ _ _ _ _ ls hM hm hX hEQ.2 hl
set_option maxHeartbeats 4000000 in
set_option maxRecDepth 100000 in
theorem lc_give {p : Program} {l : Launch} {e : Env} {s : State} {m : MethodId} {below : List Frame} {meth : Method} {c : Code} {D : va_G} {cI cL cQ : ClassId} {b L : Nat} {xs : Nat → Int32} (RR : Nat → MS → XS → Prop) (hRB : ∀ n ms x, RR n ms x → RB n ms x) (hs : ∀ (n : Nat) (ms : MS) (x : XS) (v0 : Int32) (v1 : Int32) (v2 : Int64), RR n ms x → n < 512 → (g_X_give x v0 v1 v2).1 = (g_M_give ms v0 v1 v2).1 ∧ RR (n + 1) (g_M_give ms v0 v1 v2).2 (g_X_give x v0 v1 v2).2) (hL : L ≤ 3074) (C0 : lw_At p s m meth c b L xs) (hK : va_K D vCl (kT cI cL cQ) s) (j : Nat) (hj : 8 + 6 * j ≤ L) (d : Nat → Nat) (κ : Nat → Option va_E) (ms : MS) (x : XS) (H : Heap) (locs : List Loc) (ls : Array Slot) (cells slots : Nat) (hc8 : cells + 3 ≤ 600000) (hs8 : slots + 516 ≤ 7302250) (hM : kW D vCl d κ (fun q : Nat => s.heap.size ≤ q) s.heap H locs) (hm : IsM cI cL d κ ms) (hX : IsX cI cL cQ d κ x) (hR : RR j ms x) (hl : lv_has ls 4 [(3, .int (nI (2 + 6 * j))), (2, .ref (d 0)), (1, .ref (d 18)), (0, .ref b)]) (next : ∀ (d : Nat → Nat) (κ : Nat → Option va_E) (ms : MS) (x : XS) (H : Heap) (locs : List Loc) (ls : Array Slot), kW D vCl d κ (fun q : Nat => s.heap.size ≤ q) s.heap H locs → IsM cI cL d κ ms → IsX cI cL cQ d κ x → RR (j + 1) ms x → lv_has ls 4 [(3, .int (nI (2 + 6 * j))), (2, .ref (d 0)), (1, .ref (d 18)), (0, .ref b)] → W p l e room_1 s m #[Value.ref b] below meth c H locs (cells + 3) (slots + 516) (lw_Z below #[Value.ref b] s) (F0 m 943 ls [])) : W p l e room_1 s m #[Value.ref b] below meth c H locs cells slots (lw_Z below #[Value.ref b] s) (F0 m 293 ls []) := by
  obtain ⟨hx, hb, hr, hml, hown, hts0, hX0, hbl, hlocks, hgv⟩ := C0
  have hts : ∀ w ∈ lw_g, w.before #[Value.ref b] s = true := fun w h => hts0 w (List.mem_filter.mp h).1
  have hbA : ¬ (fun q : Nat => s.heap.size ≤ q) b := Nat.not_le.mpr hbl
  have hB := hRB j ms x hR
  have hR : RR j ms x ∧ j < 512 := ⟨hR, by omega⟩
  obtain ⟨hB5, hB6, hB7⟩ := hB.2.2
  have hm0 := hm
  have hc9 : cells + 0 ≤ room_1.cells := by show cells + 0 ≤ 600000; omega
  have hs9 : slots + 0 ≤ room_1.slots := by show slots + 0 ≤ 7302250; omega
  refine lv_aload_n hx hb dL_law_293 rfl (lv_at hl 2 rfl) ?_
  refine lv_aload_n hx hb dL_law_294 rfl (lv_at hl 3 rfl) ?_
  refine lv_iload_n hx hb dL_law_295 rfl (lv_at hl 0 rfl) ?_
  refine lv_iconst (v := 1) hx hb dL_law_296 (by decide) ?_
  refine lv_iadd hx hb dL_law_297 ?_
  refine k_topi (show nI (2 + 6 * j) + 1 = nI ((2 + 6 * j) + 1) from nI_add _ _) ?_
  refine va_sld hx hb hX0 hbl hbA hM.2.2 (vp_in_nI (by omega) (by omega)) dL_law_298 ?_
  refine lv_aload_n hx hb dL_law_299 rfl (lv_at hl 3 rfl) ?_
  refine lv_iload_n hx hb dL_law_300 rfl (lv_at hl 0 rfl) ?_
  refine lv_iconst (v := 2) hx hb dL_law_301 (by decide) ?_
  refine lv_iadd hx hb dL_law_302 ?_
  refine k_topi (show nI (2 + 6 * j) + 2 = nI ((2 + 6 * j) + 2) from nI_add _ _) ?_
  refine va_sld hx hb hX0 hbl hbA hM.2.2 (vp_in_nI (by omega) (by omega)) dL_law_303 ?_
  refine lv_aload_n hx hb dL_law_304 rfl (lv_at hl 3 rfl) ?_
  refine lv_iload_n hx hb dL_law_305 rfl (lv_at hl 0 rfl) ?_
  refine lv_iconst (v := 3) hx hb dL_law_306 (by decide) ?_
  refine lv_iadd hx hb dL_law_307 ?_
  refine k_topi (show nI (2 + 6 * j) + 3 = nI ((2 + 6 * j) + 3) from nI_add _ _) ?_
  refine va_sld hx hb hX0 hbl hbA hM.2.2 (vp_in_nI (by omega) (by omega)) dL_law_308 ?_
  refine lv_i2l hx hb dL_law_309 rfl ?_
  refine lv_bipush (v := 32) hx hb dL_law_310 (by decide) ?_
  refine lv_lshl hx hb dL_law_312 rfl ?_
  refine lv_aload_n hx hb dL_law_313 rfl (lv_at hl 3 rfl) ?_
  refine lv_iload_n hx hb dL_law_314 rfl (lv_at hl 0 rfl) ?_
  refine lv_iconst (v := 4) hx hb dL_law_315 (by decide) ?_
  refine lv_iadd hx hb dL_law_316 ?_
  refine k_topi (show nI (2 + 6 * j) + 4 = nI ((2 + 6 * j) + 4) from nI_add _ _) ?_
  refine va_sld hx hb hX0 hbl hbA hM.2.2 (vp_in_nI (by omega) (by omega)) dL_law_317 ?_
  refine lv_i2l hx hb dL_law_318 rfl ?_
  refine lv_ldc2 (v := 4294967295) hx hb hown (hts _ tw_619) dL_law_319 ?_
  refine lv_land hx hb dL_law_322 ?_
  refine lv_lor hx hb dL_law_323 ?_
  refine ka_ncalli (W.runV (C := RX) (As := [.int (xs (nI ((2 + 6 * j) + 1)).toNatClampNeg), .int (xs (nI ((2 + 6 * j) + 2)).toNatClampNeg), .long ((((xs (nI ((2 + 6 * j) + 3)).toNatClampNeg).toInt64) <<< ((32 : Int32).toInt64 &&& 63)) ||| (((xs (nI ((2 + 6 * j) + 4)).toNatClampNeg).toInt64) &&& 4294967295))]) (rest := []) ⟨hx, hb, hml, hown, hts⟩ (c_X_give l D cI cL cQ d κ x hX hB.2.1 _ (xs (nI ((2 + 6 * j) + 1)).toNatClampNeg) (xs (nI ((2 + 6 * j) + 2)).toNatClampNeg) ((((xs (nI ((2 + 6 * j) + 3)).toNatClampNeg).toInt64) <<< ((32 : Int32).toInt64 &&& 63)) ||| (((xs (nI ((2 + 6 * j) + 4)).toNatClampNeg).toInt64) &&& 4294967295))) (cwV 3 hts (k_gV tw_208 tw_209 tw_210 tw_38 tw_211) rfl rfl rfl (by decide +kernel) ⟨Nat.le_of_ble_eq_true rfl, Nat.le_of_ble_eq_true rfl⟩) (kPreV hM.1 hK (q := 18) hX.1 rfl) rfl rfl hl.1 rfl (lv_room (Nat.le_of_ble_eq_true rfl)) dL_law_324 ⟨hc9, hs9⟩) hM (fun _ h9 => h9) (fun r_324 κX H locs h1_324 hM => ?_)
  obtain ⟨er_324, hWX⟩ := h1_324
  subst er_324
  have hm := hm.keep (fun k hk => hWX.2 k hk) (fun _ _ => rfl)
  have hX := hWX.1
  refine lv_aload_n hx hb dL_law_327 rfl (lv_at hl 1 rfl) ?_
  refine lv_aload_n hx hb dL_law_328 rfl (lv_at hl 3 rfl) ?_
  refine lv_iload_n hx hb dL_law_329 rfl (lv_at hl 0 rfl) ?_
  refine lv_iconst (v := 1) hx hb dL_law_330 (by decide) ?_
  refine lv_iadd hx hb dL_law_331 ?_
  refine k_topi (show nI (2 + 6 * j) + 1 = nI ((2 + 6 * j) + 1) from nI_add _ _) ?_
  refine va_sld hx hb hX0 hbl hbA hM.2.2 (vp_in_nI (by omega) (by omega)) dL_law_332 ?_
  refine lv_aload_n hx hb dL_law_333 rfl (lv_at hl 3 rfl) ?_
  refine lv_iload_n hx hb dL_law_334 rfl (lv_at hl 0 rfl) ?_
  refine lv_iconst (v := 2) hx hb dL_law_335 (by decide) ?_
  refine lv_iadd hx hb dL_law_336 ?_
  refine k_topi (show nI (2 + 6 * j) + 2 = nI ((2 + 6 * j) + 2) from nI_add _ _) ?_
  refine va_sld hx hb hX0 hbl hbA hM.2.2 (vp_in_nI (by omega) (by omega)) dL_law_337 ?_
  refine lv_aload_n hx hb dL_law_338 rfl (lv_at hl 3 rfl) ?_
  refine lv_iload_n hx hb dL_law_339 rfl (lv_at hl 0 rfl) ?_
  refine lv_iconst (v := 3) hx hb dL_law_340 (by decide) ?_
  refine lv_iadd hx hb dL_law_341 ?_
  refine k_topi (show nI (2 + 6 * j) + 3 = nI ((2 + 6 * j) + 3) from nI_add _ _) ?_
  refine va_sld hx hb hX0 hbl hbA hM.2.2 (vp_in_nI (by omega) (by omega)) dL_law_342 ?_
  refine lv_i2l hx hb dL_law_343 rfl ?_
  refine lv_bipush (v := 32) hx hb dL_law_344 (by decide) ?_
  refine lv_lshl hx hb dL_law_346 rfl ?_
  refine lv_aload_n hx hb dL_law_347 rfl (lv_at hl 3 rfl) ?_
  refine lv_iload_n hx hb dL_law_348 rfl (lv_at hl 0 rfl) ?_
  refine lv_iconst (v := 4) hx hb dL_law_349 (by decide) ?_
  refine lv_iadd hx hb dL_law_350 ?_
  refine k_topi (show nI (2 + 6 * j) + 4 = nI ((2 + 6 * j) + 4) from nI_add _ _) ?_
  refine va_sld hx hb hX0 hbl hbA hM.2.2 (vp_in_nI (by omega) (by omega)) dL_law_351 ?_
  refine lv_i2l hx hb dL_law_352 rfl ?_
  refine lv_ldc2 (v := 4294967295) hx hb hown (hts _ tw_619) dL_law_353 ?_
  refine lv_land hx hb dL_law_356 ?_
  refine lv_lor hx hb dL_law_357 ?_
  refine ka_ncalli (W.runV (C := RM) (As := [.int (xs (nI ((2 + 6 * j) + 1)).toNatClampNeg), .int (xs (nI ((2 + 6 * j) + 2)).toNatClampNeg), .long ((((xs (nI ((2 + 6 * j) + 3)).toNatClampNeg).toInt64) <<< ((32 : Int32).toInt64 &&& 63)) ||| (((xs (nI ((2 + 6 * j) + 4)).toNatClampNeg).toInt64) &&& 4294967295))]) (rest := [.int ((g_X_give x (xs (nI ((2 + 6 * j) + 1)).toNatClampNeg) (xs (nI ((2 + 6 * j) + 2)).toNatClampNeg) ((((xs (nI ((2 + 6 * j) + 3)).toNatClampNeg).toInt64) <<< ((32 : Int32).toInt64 &&& 63)) ||| (((xs (nI ((2 + 6 * j) + 4)).toNatClampNeg).toInt64) &&& 4294967295))).1)]) ⟨hx, hb, hml, hown, hts⟩ (c_M_give l D cI cL cQ d κX ms hm hB.1 _ (xs (nI ((2 + 6 * j) + 1)).toNatClampNeg) (xs (nI ((2 + 6 * j) + 2)).toNatClampNeg) ((((xs (nI ((2 + 6 * j) + 3)).toNatClampNeg).toInt64) <<< ((32 : Int32).toInt64 &&& 63)) ||| (((xs (nI ((2 + 6 * j) + 4)).toNatClampNeg).toInt64) &&& 4294967295)) (by omega)) (cwV 3 hts (k_gV tw_525 tw_526 tw_527 tw_41 tw_528) rfl rfl rfl (by decide +kernel) ⟨Nat.le_of_ble_eq_true rfl, Nat.le_of_ble_eq_true rfl⟩) (kPreV hM.1 hK (q := 0) hm.1 rfl) rfl rfl hl.1 rfl (lv_room (Nat.le_of_ble_eq_true rfl)) dL_law_358 ⟨hc9, hs9⟩) hM (fun _ h9 => h9) (fun r_358 κM H locs h1_358 hM => ?_)
  obtain ⟨er_358, hWM⟩ := h1_358
  subst er_358
  have hX := hX.keep (fun k hk => hWM.2 k hk)
  have hm := hWM.1
  have hEQ := hs j ms x (xs (nI ((2 + 6 * j) + 1)).toNatClampNeg) (xs (nI ((2 + 6 * j) + 2)).toNatClampNeg) (((xs (nI ((2 + 6 * j) + 3)).toNatClampNeg).toInt64 <<< ((32 : Int32).toInt64 &&& 63)) ||| ((xs (nI ((2 + 6 * j) + 4)).toNatClampNeg).toInt64 &&& 4294967295)) hR.1 hR.2
  refine lv_icmp_eq (tgt := 943) hx hb dL_law_361 (by decide) (fun _ => ?_) (fun c => absurd hEQ.1 c)
  refine W.widen (k := cells + 3) (n := slots + 516) (by omega) (by omega) ?_
  exact next _ _ _ _ _ _ ls hM hm hX hEQ.2 hl
set_option maxHeartbeats 4000000 in
set_option maxRecDepth 100000 in
theorem lc_back {p : Program} {l : Launch} {e : Env} {s : State} {m : MethodId} {below : List Frame} {meth : Method} {c : Code} {D : va_G} {cI cL cQ : ClassId} {b L : Nat} {xs : Nat → Int32} (RR : Nat → MS → XS → Prop) (hRB : ∀ n ms x, RR n ms x → RB n ms x) (hs : ∀ (n : Nat) (ms : MS) (x : XS) (v0 : Int32) (v1 : Int32) (v2 : Int64), RR n ms x → n < 512 → (g_X_back x v0 v1 v2).1 = (g_M_back ms v0 v1 v2).1 ∧ RR (n + 1) (g_M_back ms v0 v1 v2).2 (g_X_back x v0 v1 v2).2) (hL : L ≤ 3074) (C0 : lw_At p s m meth c b L xs) (hK : va_K D vCl (kT cI cL cQ) s) (j : Nat) (hj : 8 + 6 * j ≤ L) (d : Nat → Nat) (κ : Nat → Option va_E) (ms : MS) (x : XS) (H : Heap) (locs : List Loc) (ls : Array Slot) (cells slots : Nat) (hc8 : cells + 3 ≤ 600000) (hs8 : slots + 516 ≤ 7302250) (hM : kW D vCl d κ (fun q : Nat => s.heap.size ≤ q) s.heap H locs) (hm : IsM cI cL d κ ms) (hX : IsX cI cL cQ d κ x) (hR : RR j ms x) (hl : lv_has ls 4 [(3, .int (nI (2 + 6 * j))), (2, .ref (d 0)), (1, .ref (d 18)), (0, .ref b)]) (next : ∀ (d : Nat → Nat) (κ : Nat → Option va_E) (ms : MS) (x : XS) (H : Heap) (locs : List Loc) (ls : Array Slot), kW D vCl d κ (fun q : Nat => s.heap.size ≤ q) s.heap H locs → IsM cI cL d κ ms → IsX cI cL cQ d κ x → RR (j + 1) ms x → lv_has ls 4 [(3, .int (nI (2 + 6 * j))), (2, .ref (d 0)), (1, .ref (d 18)), (0, .ref b)] → W p l e room_1 s m #[Value.ref b] below meth c H locs (cells + 3) (slots + 516) (lw_Z below #[Value.ref b] s) (F0 m 943 ls [])) : W p l e room_1 s m #[Value.ref b] below meth c H locs cells slots (lw_Z below #[Value.ref b] s) (F0 m 366 ls []) := by
  obtain ⟨hx, hb, hr, hml, hown, hts0, hX0, hbl, hlocks, hgv⟩ := C0
  have hts : ∀ w ∈ lw_g, w.before #[Value.ref b] s = true := fun w h => hts0 w (List.mem_filter.mp h).1
  have hbA : ¬ (fun q : Nat => s.heap.size ≤ q) b := Nat.not_le.mpr hbl
  have hB := hRB j ms x hR
  have hR : RR j ms x ∧ j < 512 := ⟨hR, by omega⟩
  obtain ⟨hB5, hB6, hB7⟩ := hB.2.2
  have hm0 := hm
  have hc9 : cells + 0 ≤ room_1.cells := by show cells + 0 ≤ 600000; omega
  have hs9 : slots + 0 ≤ room_1.slots := by show slots + 0 ≤ 7302250; omega
  refine lv_aload_n hx hb dL_law_366 rfl (lv_at hl 2 rfl) ?_
  refine lv_aload_n hx hb dL_law_367 rfl (lv_at hl 3 rfl) ?_
  refine lv_iload_n hx hb dL_law_368 rfl (lv_at hl 0 rfl) ?_
  refine lv_iconst (v := 1) hx hb dL_law_369 (by decide) ?_
  refine lv_iadd hx hb dL_law_370 ?_
  refine k_topi (show nI (2 + 6 * j) + 1 = nI ((2 + 6 * j) + 1) from nI_add _ _) ?_
  refine va_sld hx hb hX0 hbl hbA hM.2.2 (vp_in_nI (by omega) (by omega)) dL_law_371 ?_
  refine lv_aload_n hx hb dL_law_372 rfl (lv_at hl 3 rfl) ?_
  refine lv_iload_n hx hb dL_law_373 rfl (lv_at hl 0 rfl) ?_
  refine lv_iconst (v := 2) hx hb dL_law_374 (by decide) ?_
  refine lv_iadd hx hb dL_law_375 ?_
  refine k_topi (show nI (2 + 6 * j) + 2 = nI ((2 + 6 * j) + 2) from nI_add _ _) ?_
  refine va_sld hx hb hX0 hbl hbA hM.2.2 (vp_in_nI (by omega) (by omega)) dL_law_376 ?_
  refine lv_aload_n hx hb dL_law_377 rfl (lv_at hl 3 rfl) ?_
  refine lv_iload_n hx hb dL_law_378 rfl (lv_at hl 0 rfl) ?_
  refine lv_iconst (v := 3) hx hb dL_law_379 (by decide) ?_
  refine lv_iadd hx hb dL_law_380 ?_
  refine k_topi (show nI (2 + 6 * j) + 3 = nI ((2 + 6 * j) + 3) from nI_add _ _) ?_
  refine va_sld hx hb hX0 hbl hbA hM.2.2 (vp_in_nI (by omega) (by omega)) dL_law_381 ?_
  refine lv_i2l hx hb dL_law_382 rfl ?_
  refine lv_bipush (v := 32) hx hb dL_law_383 (by decide) ?_
  refine lv_lshl hx hb dL_law_385 rfl ?_
  refine lv_aload_n hx hb dL_law_386 rfl (lv_at hl 3 rfl) ?_
  refine lv_iload_n hx hb dL_law_387 rfl (lv_at hl 0 rfl) ?_
  refine lv_iconst (v := 4) hx hb dL_law_388 (by decide) ?_
  refine lv_iadd hx hb dL_law_389 ?_
  refine k_topi (show nI (2 + 6 * j) + 4 = nI ((2 + 6 * j) + 4) from nI_add _ _) ?_
  refine va_sld hx hb hX0 hbl hbA hM.2.2 (vp_in_nI (by omega) (by omega)) dL_law_390 ?_
  refine lv_i2l hx hb dL_law_391 rfl ?_
  refine lv_ldc2 (v := 4294967295) hx hb hown (hts _ tw_619) dL_law_392 ?_
  refine lv_land hx hb dL_law_395 ?_
  refine lv_lor hx hb dL_law_396 ?_
  refine ka_ncalli (W.runV (C := RX) (As := [.int (xs (nI ((2 + 6 * j) + 1)).toNatClampNeg), .int (xs (nI ((2 + 6 * j) + 2)).toNatClampNeg), .long ((((xs (nI ((2 + 6 * j) + 3)).toNatClampNeg).toInt64) <<< ((32 : Int32).toInt64 &&& 63)) ||| (((xs (nI ((2 + 6 * j) + 4)).toNatClampNeg).toInt64) &&& 4294967295))]) (rest := []) ⟨hx, hb, hml, hown, hts⟩ (c_X_back l D cI cL cQ d κ x hX hB.2.1 _ (xs (nI ((2 + 6 * j) + 1)).toNatClampNeg) (xs (nI ((2 + 6 * j) + 2)).toNatClampNeg) ((((xs (nI ((2 + 6 * j) + 3)).toNatClampNeg).toInt64) <<< ((32 : Int32).toInt64 &&& 63)) ||| (((xs (nI ((2 + 6 * j) + 4)).toNatClampNeg).toInt64) &&& 4294967295))) (cwV 3 hts (k_gV tw_224 tw_225 tw_226 tw_38 tw_227) rfl rfl rfl (by decide +kernel) ⟨Nat.le_of_ble_eq_true rfl, Nat.le_of_ble_eq_true rfl⟩) (kPreV hM.1 hK (q := 18) hX.1 rfl) rfl rfl hl.1 rfl (lv_room (Nat.le_of_ble_eq_true rfl)) dL_law_397 ⟨hc9, hs9⟩) hM (fun _ h9 => h9) (fun r_397 κX H locs h1_397 hM => ?_)
  obtain ⟨er_397, hWX⟩ := h1_397
  subst er_397
  have hm := hm.keep (fun k hk => hWX.2 k hk) (fun _ _ => rfl)
  have hX := hWX.1
  refine lv_aload_n hx hb dL_law_400 rfl (lv_at hl 1 rfl) ?_
  refine lv_aload_n hx hb dL_law_401 rfl (lv_at hl 3 rfl) ?_
  refine lv_iload_n hx hb dL_law_402 rfl (lv_at hl 0 rfl) ?_
  refine lv_iconst (v := 1) hx hb dL_law_403 (by decide) ?_
  refine lv_iadd hx hb dL_law_404 ?_
  refine k_topi (show nI (2 + 6 * j) + 1 = nI ((2 + 6 * j) + 1) from nI_add _ _) ?_
  refine va_sld hx hb hX0 hbl hbA hM.2.2 (vp_in_nI (by omega) (by omega)) dL_law_405 ?_
  refine lv_aload_n hx hb dL_law_406 rfl (lv_at hl 3 rfl) ?_
  refine lv_iload_n hx hb dL_law_407 rfl (lv_at hl 0 rfl) ?_
  refine lv_iconst (v := 2) hx hb dL_law_408 (by decide) ?_
  refine lv_iadd hx hb dL_law_409 ?_
  refine k_topi (show nI (2 + 6 * j) + 2 = nI ((2 + 6 * j) + 2) from nI_add _ _) ?_
  refine va_sld hx hb hX0 hbl hbA hM.2.2 (vp_in_nI (by omega) (by omega)) dL_law_410 ?_
  refine lv_aload_n hx hb dL_law_411 rfl (lv_at hl 3 rfl) ?_
  refine lv_iload_n hx hb dL_law_412 rfl (lv_at hl 0 rfl) ?_
  refine lv_iconst (v := 3) hx hb dL_law_413 (by decide) ?_
  refine lv_iadd hx hb dL_law_414 ?_
  refine k_topi (show nI (2 + 6 * j) + 3 = nI ((2 + 6 * j) + 3) from nI_add _ _) ?_
  refine va_sld hx hb hX0 hbl hbA hM.2.2 (vp_in_nI (by omega) (by omega)) dL_law_415 ?_
  refine lv_i2l hx hb dL_law_416 rfl ?_
  refine lv_bipush (v := 32) hx hb dL_law_417 (by decide) ?_
  refine lv_lshl hx hb dL_law_419 rfl ?_
  refine lv_aload_n hx hb dL_law_420 rfl (lv_at hl 3 rfl) ?_
  refine lv_iload_n hx hb dL_law_421 rfl (lv_at hl 0 rfl) ?_
  refine lv_iconst (v := 4) hx hb dL_law_422 (by decide) ?_
  refine lv_iadd hx hb dL_law_423 ?_
  refine k_topi (show nI (2 + 6 * j) + 4 = nI ((2 + 6 * j) + 4) from nI_add _ _) ?_
  refine va_sld hx hb hX0 hbl hbA hM.2.2 (vp_in_nI (by omega) (by omega)) dL_law_424 ?_
  refine lv_i2l hx hb dL_law_425 rfl ?_
  refine lv_ldc2 (v := 4294967295) hx hb hown (hts _ tw_619) dL_law_426 ?_
  refine lv_land hx hb dL_law_429 ?_
  refine lv_lor hx hb dL_law_430 ?_
  refine ka_ncalli (W.runV (C := RM) (As := [.int (xs (nI ((2 + 6 * j) + 1)).toNatClampNeg), .int (xs (nI ((2 + 6 * j) + 2)).toNatClampNeg), .long ((((xs (nI ((2 + 6 * j) + 3)).toNatClampNeg).toInt64) <<< ((32 : Int32).toInt64 &&& 63)) ||| (((xs (nI ((2 + 6 * j) + 4)).toNatClampNeg).toInt64) &&& 4294967295))]) (rest := [.int ((g_X_back x (xs (nI ((2 + 6 * j) + 1)).toNatClampNeg) (xs (nI ((2 + 6 * j) + 2)).toNatClampNeg) ((((xs (nI ((2 + 6 * j) + 3)).toNatClampNeg).toInt64) <<< ((32 : Int32).toInt64 &&& 63)) ||| (((xs (nI ((2 + 6 * j) + 4)).toNatClampNeg).toInt64) &&& 4294967295))).1)]) ⟨hx, hb, hml, hown, hts⟩ (c_M_back l D cI cL cQ d κX ms hm hB.1 _ (xs (nI ((2 + 6 * j) + 1)).toNatClampNeg) (xs (nI ((2 + 6 * j) + 2)).toNatClampNeg) ((((xs (nI ((2 + 6 * j) + 3)).toNatClampNeg).toInt64) <<< ((32 : Int32).toInt64 &&& 63)) ||| (((xs (nI ((2 + 6 * j) + 4)).toNatClampNeg).toInt64) &&& 4294967295)) (by omega)) (cwV 3 hts (k_gV tw_541 tw_542 tw_543 tw_41 tw_544) rfl rfl rfl (by decide +kernel) ⟨Nat.le_of_ble_eq_true rfl, Nat.le_of_ble_eq_true rfl⟩) (kPreV hM.1 hK (q := 0) hm.1 rfl) rfl rfl hl.1 rfl (lv_room (Nat.le_of_ble_eq_true rfl)) dL_law_431 ⟨hc9, hs9⟩) hM (fun _ h9 => h9) (fun r_431 κM H locs h1_431 hM => ?_)
  obtain ⟨er_431, hWM⟩ := h1_431
  subst er_431
  have hX := hX.keep (fun k hk => hWM.2 k hk)
  have hm := hWM.1
  have hEQ := hs j ms x (xs (nI ((2 + 6 * j) + 1)).toNatClampNeg) (xs (nI ((2 + 6 * j) + 2)).toNatClampNeg) (((xs (nI ((2 + 6 * j) + 3)).toNatClampNeg).toInt64 <<< ((32 : Int32).toInt64 &&& 63)) ||| ((xs (nI ((2 + 6 * j) + 4)).toNatClampNeg).toInt64 &&& 4294967295)) hR.1 hR.2
  refine lv_icmp_eq (tgt := 943) hx hb dL_law_434 (by decide) (fun _ => ?_) (fun c => absurd hEQ.1 c)
  refine W.widen (k := cells + 3) (n := slots + 516) (by omega) (by omega) ?_
  exact next _ _ _ _ _ _ ls hM hm hX hEQ.2 hl
set_option maxHeartbeats 4000000 in
set_option maxRecDepth 100000 in
theorem lc_pledge {p : Program} {l : Launch} {e : Env} {s : State} {m : MethodId} {below : List Frame} {meth : Method} {c : Code} {D : va_G} {cI cL cQ : ClassId} {b L : Nat} {xs : Nat → Int32} (RR : Nat → MS → XS → Prop) (hRB : ∀ n ms x, RR n ms x → RB n ms x) (hs : ∀ (n : Nat) (ms : MS) (x : XS) (v0 : Int32) (v1 : Int32) (v2 : Int64), RR n ms x → n < 512 → (g_X_pledge x v0 v1 v2).1 = (g_M_pledge ms v0 v1 v2).1 ∧ RR (n + 1) (g_M_pledge ms v0 v1 v2).2 (g_X_pledge x v0 v1 v2).2) (hL : L ≤ 3074) (C0 : lw_At p s m meth c b L xs) (hK : va_K D vCl (kT cI cL cQ) s) (j : Nat) (hj : 8 + 6 * j ≤ L) (d : Nat → Nat) (κ : Nat → Option va_E) (ms : MS) (x : XS) (H : Heap) (locs : List Loc) (ls : Array Slot) (cells slots : Nat) (hc8 : cells + 3 ≤ 600000) (hs8 : slots + 516 ≤ 7302250) (hM : kW D vCl d κ (fun q : Nat => s.heap.size ≤ q) s.heap H locs) (hm : IsM cI cL d κ ms) (hX : IsX cI cL cQ d κ x) (hR : RR j ms x) (hl : lv_has ls 4 [(3, .int (nI (2 + 6 * j))), (2, .ref (d 0)), (1, .ref (d 18)), (0, .ref b)]) (next : ∀ (d : Nat → Nat) (κ : Nat → Option va_E) (ms : MS) (x : XS) (H : Heap) (locs : List Loc) (ls : Array Slot), kW D vCl d κ (fun q : Nat => s.heap.size ≤ q) s.heap H locs → IsM cI cL d κ ms → IsX cI cL cQ d κ x → RR (j + 1) ms x → lv_has ls 4 [(3, .int (nI (2 + 6 * j))), (2, .ref (d 0)), (1, .ref (d 18)), (0, .ref b)] → W p l e room_1 s m #[Value.ref b] below meth c H locs (cells + 3) (slots + 516) (lw_Z below #[Value.ref b] s) (F0 m 943 ls [])) : W p l e room_1 s m #[Value.ref b] below meth c H locs cells slots (lw_Z below #[Value.ref b] s) (F0 m 439 ls []) := by
  obtain ⟨hx, hb, hr, hml, hown, hts0, hX0, hbl, hlocks, hgv⟩ := C0
  have hts : ∀ w ∈ lw_g, w.before #[Value.ref b] s = true := fun w h => hts0 w (List.mem_filter.mp h).1
  have hbA : ¬ (fun q : Nat => s.heap.size ≤ q) b := Nat.not_le.mpr hbl
  have hB := hRB j ms x hR
  have hR : RR j ms x ∧ j < 512 := ⟨hR, by omega⟩
  obtain ⟨hB5, hB6, hB7⟩ := hB.2.2
  have hm0 := hm
  have hc9 : cells + 0 ≤ room_1.cells := by show cells + 0 ≤ 600000; omega
  have hs9 : slots + 0 ≤ room_1.slots := by show slots + 0 ≤ 7302250; omega
  refine lv_aload_n hx hb dL_law_439 rfl (lv_at hl 2 rfl) ?_
  refine lv_aload_n hx hb dL_law_440 rfl (lv_at hl 3 rfl) ?_
  refine lv_iload_n hx hb dL_law_441 rfl (lv_at hl 0 rfl) ?_
  refine lv_iconst (v := 1) hx hb dL_law_442 (by decide) ?_
  refine lv_iadd hx hb dL_law_443 ?_
  refine k_topi (show nI (2 + 6 * j) + 1 = nI ((2 + 6 * j) + 1) from nI_add _ _) ?_
  refine va_sld hx hb hX0 hbl hbA hM.2.2 (vp_in_nI (by omega) (by omega)) dL_law_444 ?_
  refine lv_aload_n hx hb dL_law_445 rfl (lv_at hl 3 rfl) ?_
  refine lv_iload_n hx hb dL_law_446 rfl (lv_at hl 0 rfl) ?_
  refine lv_iconst (v := 2) hx hb dL_law_447 (by decide) ?_
  refine lv_iadd hx hb dL_law_448 ?_
  refine k_topi (show nI (2 + 6 * j) + 2 = nI ((2 + 6 * j) + 2) from nI_add _ _) ?_
  refine va_sld hx hb hX0 hbl hbA hM.2.2 (vp_in_nI (by omega) (by omega)) dL_law_449 ?_
  refine lv_aload_n hx hb dL_law_450 rfl (lv_at hl 3 rfl) ?_
  refine lv_iload_n hx hb dL_law_451 rfl (lv_at hl 0 rfl) ?_
  refine lv_iconst (v := 3) hx hb dL_law_452 (by decide) ?_
  refine lv_iadd hx hb dL_law_453 ?_
  refine k_topi (show nI (2 + 6 * j) + 3 = nI ((2 + 6 * j) + 3) from nI_add _ _) ?_
  refine va_sld hx hb hX0 hbl hbA hM.2.2 (vp_in_nI (by omega) (by omega)) dL_law_454 ?_
  refine lv_i2l hx hb dL_law_455 rfl ?_
  refine lv_bipush (v := 32) hx hb dL_law_456 (by decide) ?_
  refine lv_lshl hx hb dL_law_458 rfl ?_
  refine lv_aload_n hx hb dL_law_459 rfl (lv_at hl 3 rfl) ?_
  refine lv_iload_n hx hb dL_law_460 rfl (lv_at hl 0 rfl) ?_
  refine lv_iconst (v := 4) hx hb dL_law_461 (by decide) ?_
  refine lv_iadd hx hb dL_law_462 ?_
  refine k_topi (show nI (2 + 6 * j) + 4 = nI ((2 + 6 * j) + 4) from nI_add _ _) ?_
  refine va_sld hx hb hX0 hbl hbA hM.2.2 (vp_in_nI (by omega) (by omega)) dL_law_463 ?_
  refine lv_i2l hx hb dL_law_464 rfl ?_
  refine lv_ldc2 (v := 4294967295) hx hb hown (hts _ tw_619) dL_law_465 ?_
  refine lv_land hx hb dL_law_468 ?_
  refine lv_lor hx hb dL_law_469 ?_
  refine ka_ncalli (W.runV (C := RX) (As := [.int (xs (nI ((2 + 6 * j) + 1)).toNatClampNeg), .int (xs (nI ((2 + 6 * j) + 2)).toNatClampNeg), .long ((((xs (nI ((2 + 6 * j) + 3)).toNatClampNeg).toInt64) <<< ((32 : Int32).toInt64 &&& 63)) ||| (((xs (nI ((2 + 6 * j) + 4)).toNatClampNeg).toInt64) &&& 4294967295))]) (rest := []) ⟨hx, hb, hml, hown, hts⟩ (c_X_pledge l D cI cL cQ d κ x hX hB.2.1 _ (xs (nI ((2 + 6 * j) + 1)).toNatClampNeg) (xs (nI ((2 + 6 * j) + 2)).toNatClampNeg) ((((xs (nI ((2 + 6 * j) + 3)).toNatClampNeg).toInt64) <<< ((32 : Int32).toInt64 &&& 63)) ||| (((xs (nI ((2 + 6 * j) + 4)).toNatClampNeg).toInt64) &&& 4294967295))) (cwV 3 hts (k_gV tw_233 tw_234 tw_235 tw_38 tw_236) rfl rfl rfl (by decide +kernel) ⟨Nat.le_of_ble_eq_true rfl, Nat.le_of_ble_eq_true rfl⟩) (kPreV hM.1 hK (q := 18) hX.1 rfl) rfl rfl hl.1 rfl (lv_room (Nat.le_of_ble_eq_true rfl)) dL_law_470 ⟨hc9, hs9⟩) hM (fun _ h9 => h9) (fun r_470 κX H locs h1_470 hM => ?_)
  obtain ⟨er_470, hWX⟩ := h1_470
  subst er_470
  have hm := hm.keep (fun k hk => hWX.2 k hk) (fun _ _ => rfl)
  have hX := hWX.1
  refine lv_aload_n hx hb dL_law_473 rfl (lv_at hl 1 rfl) ?_
  refine lv_aload_n hx hb dL_law_474 rfl (lv_at hl 3 rfl) ?_
  refine lv_iload_n hx hb dL_law_475 rfl (lv_at hl 0 rfl) ?_
  refine lv_iconst (v := 1) hx hb dL_law_476 (by decide) ?_
  refine lv_iadd hx hb dL_law_477 ?_
  refine k_topi (show nI (2 + 6 * j) + 1 = nI ((2 + 6 * j) + 1) from nI_add _ _) ?_
  refine va_sld hx hb hX0 hbl hbA hM.2.2 (vp_in_nI (by omega) (by omega)) dL_law_478 ?_
  refine lv_aload_n hx hb dL_law_479 rfl (lv_at hl 3 rfl) ?_
  refine lv_iload_n hx hb dL_law_480 rfl (lv_at hl 0 rfl) ?_
  refine lv_iconst (v := 2) hx hb dL_law_481 (by decide) ?_
  refine lv_iadd hx hb dL_law_482 ?_
  refine k_topi (show nI (2 + 6 * j) + 2 = nI ((2 + 6 * j) + 2) from nI_add _ _) ?_
  refine va_sld hx hb hX0 hbl hbA hM.2.2 (vp_in_nI (by omega) (by omega)) dL_law_483 ?_
  refine lv_aload_n hx hb dL_law_484 rfl (lv_at hl 3 rfl) ?_
  refine lv_iload_n hx hb dL_law_485 rfl (lv_at hl 0 rfl) ?_
  refine lv_iconst (v := 3) hx hb dL_law_486 (by decide) ?_
  refine lv_iadd hx hb dL_law_487 ?_
  refine k_topi (show nI (2 + 6 * j) + 3 = nI ((2 + 6 * j) + 3) from nI_add _ _) ?_
  refine va_sld hx hb hX0 hbl hbA hM.2.2 (vp_in_nI (by omega) (by omega)) dL_law_488 ?_
  refine lv_i2l hx hb dL_law_489 rfl ?_
  refine lv_bipush (v := 32) hx hb dL_law_490 (by decide) ?_
  refine lv_lshl hx hb dL_law_492 rfl ?_
  refine lv_aload_n hx hb dL_law_493 rfl (lv_at hl 3 rfl) ?_
  refine lv_iload_n hx hb dL_law_494 rfl (lv_at hl 0 rfl) ?_
  refine lv_iconst (v := 4) hx hb dL_law_495 (by decide) ?_
  refine lv_iadd hx hb dL_law_496 ?_
  refine k_topi (show nI (2 + 6 * j) + 4 = nI ((2 + 6 * j) + 4) from nI_add _ _) ?_
  refine va_sld hx hb hX0 hbl hbA hM.2.2 (vp_in_nI (by omega) (by omega)) dL_law_497 ?_
  refine lv_i2l hx hb dL_law_498 rfl ?_
  refine lv_ldc2 (v := 4294967295) hx hb hown (hts _ tw_619) dL_law_499 ?_
  refine lv_land hx hb dL_law_502 ?_
  refine lv_lor hx hb dL_law_503 ?_
  refine ka_ncalli (W.runV (C := RM) (As := [.int (xs (nI ((2 + 6 * j) + 1)).toNatClampNeg), .int (xs (nI ((2 + 6 * j) + 2)).toNatClampNeg), .long ((((xs (nI ((2 + 6 * j) + 3)).toNatClampNeg).toInt64) <<< ((32 : Int32).toInt64 &&& 63)) ||| (((xs (nI ((2 + 6 * j) + 4)).toNatClampNeg).toInt64) &&& 4294967295))]) (rest := [.int ((g_X_pledge x (xs (nI ((2 + 6 * j) + 1)).toNatClampNeg) (xs (nI ((2 + 6 * j) + 2)).toNatClampNeg) ((((xs (nI ((2 + 6 * j) + 3)).toNatClampNeg).toInt64) <<< ((32 : Int32).toInt64 &&& 63)) ||| (((xs (nI ((2 + 6 * j) + 4)).toNatClampNeg).toInt64) &&& 4294967295))).1)]) ⟨hx, hb, hml, hown, hts⟩ (c_M_pledge l D cI cL cQ d κX ms hm hB.1 _ (xs (nI ((2 + 6 * j) + 1)).toNatClampNeg) (xs (nI ((2 + 6 * j) + 2)).toNatClampNeg) ((((xs (nI ((2 + 6 * j) + 3)).toNatClampNeg).toInt64) <<< ((32 : Int32).toInt64 &&& 63)) ||| (((xs (nI ((2 + 6 * j) + 4)).toNatClampNeg).toInt64) &&& 4294967295)) (by omega)) (cwV 3 hts (k_gV tw_550 tw_551 tw_552 tw_41 tw_553) rfl rfl rfl (by decide +kernel) ⟨Nat.le_of_ble_eq_true rfl, Nat.le_of_ble_eq_true rfl⟩) (kPreV hM.1 hK (q := 0) hm.1 rfl) rfl rfl hl.1 rfl (lv_room (Nat.le_of_ble_eq_true rfl)) dL_law_504 ⟨hc9, hs9⟩) hM (fun _ h9 => h9) (fun r_504 κM H locs h1_504 hM => ?_)
  obtain ⟨er_504, hWM⟩ := h1_504
  subst er_504
  have hX := hX.keep (fun k hk => hWM.2 k hk)
  have hm := hWM.1
  have hEQ := hs j ms x (xs (nI ((2 + 6 * j) + 1)).toNatClampNeg) (xs (nI ((2 + 6 * j) + 2)).toNatClampNeg) (((xs (nI ((2 + 6 * j) + 3)).toNatClampNeg).toInt64 <<< ((32 : Int32).toInt64 &&& 63)) ||| ((xs (nI ((2 + 6 * j) + 4)).toNatClampNeg).toInt64 &&& 4294967295)) hR.1 hR.2
  refine lv_icmp_eq (tgt := 943) hx hb dL_law_507 (by decide) (fun _ => ?_) (fun c => absurd hEQ.1 c)
  refine W.widen (k := cells + 3) (n := slots + 516) (by omega) (by omega) ?_
  exact next _ _ _ _ _ _ ls hM hm hX hEQ.2 hl
set_option maxHeartbeats 4000000 in
set_option maxRecDepth 100000 in
theorem lc_free {p : Program} {l : Launch} {e : Env} {s : State} {m : MethodId} {below : List Frame} {meth : Method} {c : Code} {D : va_G} {cI cL cQ : ClassId} {b L : Nat} {xs : Nat → Int32} (RR : Nat → MS → XS → Prop) (hRB : ∀ n ms x, RR n ms x → RB n ms x) (hs : ∀ (n : Nat) (ms : MS) (x : XS) (v0 : Int32) (v1 : Int32) (v2 : Int64), RR n ms x → n < 512 → (g_X_free x v0 v1 v2).1 = (g_M_free ms v0 v1 v2).1 ∧ RR (n + 1) (g_M_free ms v0 v1 v2).2 (g_X_free x v0 v1 v2).2) (hL : L ≤ 3074) (C0 : lw_At p s m meth c b L xs) (hK : va_K D vCl (kT cI cL cQ) s) (j : Nat) (hj : 8 + 6 * j ≤ L) (d : Nat → Nat) (κ : Nat → Option va_E) (ms : MS) (x : XS) (H : Heap) (locs : List Loc) (ls : Array Slot) (cells slots : Nat) (hc8 : cells + 3 ≤ 600000) (hs8 : slots + 516 ≤ 7302250) (hM : kW D vCl d κ (fun q : Nat => s.heap.size ≤ q) s.heap H locs) (hm : IsM cI cL d κ ms) (hX : IsX cI cL cQ d κ x) (hR : RR j ms x) (hl : lv_has ls 4 [(3, .int (nI (2 + 6 * j))), (2, .ref (d 0)), (1, .ref (d 18)), (0, .ref b)]) (next : ∀ (d : Nat → Nat) (κ : Nat → Option va_E) (ms : MS) (x : XS) (H : Heap) (locs : List Loc) (ls : Array Slot), kW D vCl d κ (fun q : Nat => s.heap.size ≤ q) s.heap H locs → IsM cI cL d κ ms → IsX cI cL cQ d κ x → RR (j + 1) ms x → lv_has ls 4 [(3, .int (nI (2 + 6 * j))), (2, .ref (d 0)), (1, .ref (d 18)), (0, .ref b)] → W p l e room_1 s m #[Value.ref b] below meth c H locs (cells + 3) (slots + 516) (lw_Z below #[Value.ref b] s) (F0 m 943 ls [])) : W p l e room_1 s m #[Value.ref b] below meth c H locs cells slots (lw_Z below #[Value.ref b] s) (F0 m 512 ls []) := by
  obtain ⟨hx, hb, hr, hml, hown, hts0, hX0, hbl, hlocks, hgv⟩ := C0
  have hts : ∀ w ∈ lw_g, w.before #[Value.ref b] s = true := fun w h => hts0 w (List.mem_filter.mp h).1
  have hbA : ¬ (fun q : Nat => s.heap.size ≤ q) b := Nat.not_le.mpr hbl
  have hB := hRB j ms x hR
  have hR : RR j ms x ∧ j < 512 := ⟨hR, by omega⟩
  obtain ⟨hB5, hB6, hB7⟩ := hB.2.2
  have hm0 := hm
  have hc9 : cells + 0 ≤ room_1.cells := by show cells + 0 ≤ 600000; omega
  have hs9 : slots + 0 ≤ room_1.slots := by show slots + 0 ≤ 7302250; omega
  refine lv_aload_n hx hb dL_law_512 rfl (lv_at hl 2 rfl) ?_
  refine lv_aload_n hx hb dL_law_513 rfl (lv_at hl 3 rfl) ?_
  refine lv_iload_n hx hb dL_law_514 rfl (lv_at hl 0 rfl) ?_
  refine lv_iconst (v := 1) hx hb dL_law_515 (by decide) ?_
  refine lv_iadd hx hb dL_law_516 ?_
  refine k_topi (show nI (2 + 6 * j) + 1 = nI ((2 + 6 * j) + 1) from nI_add _ _) ?_
  refine va_sld hx hb hX0 hbl hbA hM.2.2 (vp_in_nI (by omega) (by omega)) dL_law_517 ?_
  refine lv_aload_n hx hb dL_law_518 rfl (lv_at hl 3 rfl) ?_
  refine lv_iload_n hx hb dL_law_519 rfl (lv_at hl 0 rfl) ?_
  refine lv_iconst (v := 2) hx hb dL_law_520 (by decide) ?_
  refine lv_iadd hx hb dL_law_521 ?_
  refine k_topi (show nI (2 + 6 * j) + 2 = nI ((2 + 6 * j) + 2) from nI_add _ _) ?_
  refine va_sld hx hb hX0 hbl hbA hM.2.2 (vp_in_nI (by omega) (by omega)) dL_law_522 ?_
  refine lv_aload_n hx hb dL_law_523 rfl (lv_at hl 3 rfl) ?_
  refine lv_iload_n hx hb dL_law_524 rfl (lv_at hl 0 rfl) ?_
  refine lv_iconst (v := 3) hx hb dL_law_525 (by decide) ?_
  refine lv_iadd hx hb dL_law_526 ?_
  refine k_topi (show nI (2 + 6 * j) + 3 = nI ((2 + 6 * j) + 3) from nI_add _ _) ?_
  refine va_sld hx hb hX0 hbl hbA hM.2.2 (vp_in_nI (by omega) (by omega)) dL_law_527 ?_
  refine lv_i2l hx hb dL_law_528 rfl ?_
  refine lv_bipush (v := 32) hx hb dL_law_529 (by decide) ?_
  refine lv_lshl hx hb dL_law_531 rfl ?_
  refine lv_aload_n hx hb dL_law_532 rfl (lv_at hl 3 rfl) ?_
  refine lv_iload_n hx hb dL_law_533 rfl (lv_at hl 0 rfl) ?_
  refine lv_iconst (v := 4) hx hb dL_law_534 (by decide) ?_
  refine lv_iadd hx hb dL_law_535 ?_
  refine k_topi (show nI (2 + 6 * j) + 4 = nI ((2 + 6 * j) + 4) from nI_add _ _) ?_
  refine va_sld hx hb hX0 hbl hbA hM.2.2 (vp_in_nI (by omega) (by omega)) dL_law_536 ?_
  refine lv_i2l hx hb dL_law_537 rfl ?_
  refine lv_ldc2 (v := 4294967295) hx hb hown (hts _ tw_619) dL_law_538 ?_
  refine lv_land hx hb dL_law_541 ?_
  refine lv_lor hx hb dL_law_542 ?_
  refine ka_ncalli (W.runV (C := RX) (As := [.int (xs (nI ((2 + 6 * j) + 1)).toNatClampNeg), .int (xs (nI ((2 + 6 * j) + 2)).toNatClampNeg), .long ((((xs (nI ((2 + 6 * j) + 3)).toNatClampNeg).toInt64) <<< ((32 : Int32).toInt64 &&& 63)) ||| (((xs (nI ((2 + 6 * j) + 4)).toNatClampNeg).toInt64) &&& 4294967295))]) (rest := []) ⟨hx, hb, hml, hown, hts⟩ (c_X_free l D cI cL cQ d κ x hX hB.2.1 _ (xs (nI ((2 + 6 * j) + 1)).toNatClampNeg) (xs (nI ((2 + 6 * j) + 2)).toNatClampNeg) ((((xs (nI ((2 + 6 * j) + 3)).toNatClampNeg).toInt64) <<< ((32 : Int32).toInt64 &&& 63)) ||| (((xs (nI ((2 + 6 * j) + 4)).toNatClampNeg).toInt64) &&& 4294967295))) (cwV 3 hts (k_gV tw_241 tw_242 tw_243 tw_38 tw_244) rfl rfl rfl (by decide +kernel) ⟨Nat.le_of_ble_eq_true rfl, Nat.le_of_ble_eq_true rfl⟩) (kPreV hM.1 hK (q := 18) hX.1 rfl) rfl rfl hl.1 rfl (lv_room (Nat.le_of_ble_eq_true rfl)) dL_law_543 ⟨hc9, hs9⟩) hM (fun _ h9 => h9) (fun r_543 κX H locs h1_543 hM => ?_)
  obtain ⟨er_543, hWX⟩ := h1_543
  subst er_543
  have hm := hm.keep (fun k hk => hWX.2 k hk) (fun _ _ => rfl)
  have hX := hWX.1
  refine lv_aload_n hx hb dL_law_546 rfl (lv_at hl 1 rfl) ?_
  refine lv_aload_n hx hb dL_law_547 rfl (lv_at hl 3 rfl) ?_
  refine lv_iload_n hx hb dL_law_548 rfl (lv_at hl 0 rfl) ?_
  refine lv_iconst (v := 1) hx hb dL_law_549 (by decide) ?_
  refine lv_iadd hx hb dL_law_550 ?_
  refine k_topi (show nI (2 + 6 * j) + 1 = nI ((2 + 6 * j) + 1) from nI_add _ _) ?_
  refine va_sld hx hb hX0 hbl hbA hM.2.2 (vp_in_nI (by omega) (by omega)) dL_law_551 ?_
  refine lv_aload_n hx hb dL_law_552 rfl (lv_at hl 3 rfl) ?_
  refine lv_iload_n hx hb dL_law_553 rfl (lv_at hl 0 rfl) ?_
  refine lv_iconst (v := 2) hx hb dL_law_554 (by decide) ?_
  refine lv_iadd hx hb dL_law_555 ?_
  refine k_topi (show nI (2 + 6 * j) + 2 = nI ((2 + 6 * j) + 2) from nI_add _ _) ?_
  refine va_sld hx hb hX0 hbl hbA hM.2.2 (vp_in_nI (by omega) (by omega)) dL_law_556 ?_
  refine lv_aload_n hx hb dL_law_557 rfl (lv_at hl 3 rfl) ?_
  refine lv_iload_n hx hb dL_law_558 rfl (lv_at hl 0 rfl) ?_
  refine lv_iconst (v := 3) hx hb dL_law_559 (by decide) ?_
  refine lv_iadd hx hb dL_law_560 ?_
  refine k_topi (show nI (2 + 6 * j) + 3 = nI ((2 + 6 * j) + 3) from nI_add _ _) ?_
  refine va_sld hx hb hX0 hbl hbA hM.2.2 (vp_in_nI (by omega) (by omega)) dL_law_561 ?_
  refine lv_i2l hx hb dL_law_562 rfl ?_
  refine lv_bipush (v := 32) hx hb dL_law_563 (by decide) ?_
  refine lv_lshl hx hb dL_law_565 rfl ?_
  refine lv_aload_n hx hb dL_law_566 rfl (lv_at hl 3 rfl) ?_
  refine lv_iload_n hx hb dL_law_567 rfl (lv_at hl 0 rfl) ?_
  refine lv_iconst (v := 4) hx hb dL_law_568 (by decide) ?_
  refine lv_iadd hx hb dL_law_569 ?_
  refine k_topi (show nI (2 + 6 * j) + 4 = nI ((2 + 6 * j) + 4) from nI_add _ _) ?_
  refine va_sld hx hb hX0 hbl hbA hM.2.2 (vp_in_nI (by omega) (by omega)) dL_law_570 ?_
  refine lv_i2l hx hb dL_law_571 rfl ?_
  refine lv_ldc2 (v := 4294967295) hx hb hown (hts _ tw_619) dL_law_572 ?_
  refine lv_land hx hb dL_law_575 ?_
  refine lv_lor hx hb dL_law_576 ?_
  refine ka_ncalli (W.runV (C := RM) (As := [.int (xs (nI ((2 + 6 * j) + 1)).toNatClampNeg), .int (xs (nI ((2 + 6 * j) + 2)).toNatClampNeg), .long ((((xs (nI ((2 + 6 * j) + 3)).toNatClampNeg).toInt64) <<< ((32 : Int32).toInt64 &&& 63)) ||| (((xs (nI ((2 + 6 * j) + 4)).toNatClampNeg).toInt64) &&& 4294967295))]) (rest := [.int ((g_X_free x (xs (nI ((2 + 6 * j) + 1)).toNatClampNeg) (xs (nI ((2 + 6 * j) + 2)).toNatClampNeg) ((((xs (nI ((2 + 6 * j) + 3)).toNatClampNeg).toInt64) <<< ((32 : Int32).toInt64 &&& 63)) ||| (((xs (nI ((2 + 6 * j) + 4)).toNatClampNeg).toInt64) &&& 4294967295))).1)]) ⟨hx, hb, hml, hown, hts⟩ (c_M_free l D cI cL cQ d κX ms hm hB.1 _ (xs (nI ((2 + 6 * j) + 1)).toNatClampNeg) (xs (nI ((2 + 6 * j) + 2)).toNatClampNeg) ((((xs (nI ((2 + 6 * j) + 3)).toNatClampNeg).toInt64) <<< ((32 : Int32).toInt64 &&& 63)) ||| (((xs (nI ((2 + 6 * j) + 4)).toNatClampNeg).toInt64) &&& 4294967295)) (by omega)) (cwV 3 hts (k_gV tw_558 tw_559 tw_560 tw_41 tw_561) rfl rfl rfl (by decide +kernel) ⟨Nat.le_of_ble_eq_true rfl, Nat.le_of_ble_eq_true rfl⟩) (kPreV hM.1 hK (q := 0) hm.1 rfl) rfl rfl hl.1 rfl (lv_room (Nat.le_of_ble_eq_true rfl)) dL_law_577 ⟨hc9, hs9⟩) hM (fun _ h9 => h9) (fun r_577 κM H locs h1_577 hM => ?_)
  obtain ⟨er_577, hWM⟩ := h1_577
  subst er_577
  have hX := hX.keep (fun k hk => hWM.2 k hk)
  have hm := hWM.1
  have hEQ := hs j ms x (xs (nI ((2 + 6 * j) + 1)).toNatClampNeg) (xs (nI ((2 + 6 * j) + 2)).toNatClampNeg) (((xs (nI ((2 + 6 * j) + 3)).toNatClampNeg).toInt64 <<< ((32 : Int32).toInt64 &&& 63)) ||| ((xs (nI ((2 + 6 * j) + 4)).toNatClampNeg).toInt64 &&& 4294967295)) hR.1 hR.2
  refine lv_icmp_eq (tgt := 943) hx hb dL_law_580 (by decide) (fun _ => ?_) (fun c => absurd hEQ.1 c)
  refine W.widen (k := cells + 3) (n := slots + 516) (by omega) (by omega) ?_
  exact next _ _ _ _ _ _ ls hM hm hX hEQ.2 hl
set_option maxHeartbeats 4000000 in
set_option maxRecDepth 100000 in
theorem lc_limit {p : Program} {l : Launch} {e : Env} {s : State} {m : MethodId} {below : List Frame} {meth : Method} {c : Code} {D : va_G} {cI cL cQ : ClassId} {b L : Nat} {xs : Nat → Int32} (RR : Nat → MS → XS → Prop) (hRB : ∀ n ms x, RR n ms x → RB n ms x) (hs : ∀ (n : Nat) (ms : MS) (x : XS) (v0 : Int32) (v1 : Int32) (v2 : Int64), RR n ms x → n < 512 → (g_X_limit x v0 v1 v2).1 = (g_M_limit ms v0 v1 v2).1 ∧ RR (n + 1) (g_M_limit ms v0 v1 v2).2 (g_X_limit x v0 v1 v2).2) (hL : L ≤ 3074) (C0 : lw_At p s m meth c b L xs) (hK : va_K D vCl (kT cI cL cQ) s) (j : Nat) (hj : 8 + 6 * j ≤ L) (d : Nat → Nat) (κ : Nat → Option va_E) (ms : MS) (x : XS) (H : Heap) (locs : List Loc) (ls : Array Slot) (cells slots : Nat) (hc8 : cells + 3 ≤ 600000) (hs8 : slots + 516 ≤ 7302250) (hM : kW D vCl d κ (fun q : Nat => s.heap.size ≤ q) s.heap H locs) (hm : IsM cI cL d κ ms) (hX : IsX cI cL cQ d κ x) (hR : RR j ms x) (hl : lv_has ls 4 [(3, .int (nI (2 + 6 * j))), (2, .ref (d 0)), (1, .ref (d 18)), (0, .ref b)]) (next : ∀ (d : Nat → Nat) (κ : Nat → Option va_E) (ms : MS) (x : XS) (H : Heap) (locs : List Loc) (ls : Array Slot), kW D vCl d κ (fun q : Nat => s.heap.size ≤ q) s.heap H locs → IsM cI cL d κ ms → IsX cI cL cQ d κ x → RR (j + 1) ms x → lv_has ls 4 [(3, .int (nI (2 + 6 * j))), (2, .ref (d 0)), (1, .ref (d 18)), (0, .ref b)] → W p l e room_1 s m #[Value.ref b] below meth c H locs (cells + 3) (slots + 516) (lw_Z below #[Value.ref b] s) (F0 m 943 ls [])) : W p l e room_1 s m #[Value.ref b] below meth c H locs cells slots (lw_Z below #[Value.ref b] s) (F0 m 585 ls []) := by
  obtain ⟨hx, hb, hr, hml, hown, hts0, hX0, hbl, hlocks, hgv⟩ := C0
  have hts : ∀ w ∈ lw_g, w.before #[Value.ref b] s = true := fun w h => hts0 w (List.mem_filter.mp h).1
  have hbA : ¬ (fun q : Nat => s.heap.size ≤ q) b := Nat.not_le.mpr hbl
  have hB := hRB j ms x hR
  have hR : RR j ms x ∧ j < 512 := ⟨hR, by omega⟩
  obtain ⟨hB5, hB6, hB7⟩ := hB.2.2
  have hm0 := hm
  have hc9 : cells + 0 ≤ room_1.cells := by show cells + 0 ≤ 600000; omega
  have hs9 : slots + 0 ≤ room_1.slots := by show slots + 0 ≤ 7302250; omega
  refine lv_aload_n hx hb dL_law_585 rfl (lv_at hl 2 rfl) ?_
  refine lv_aload_n hx hb dL_law_586 rfl (lv_at hl 3 rfl) ?_
  refine lv_iload_n hx hb dL_law_587 rfl (lv_at hl 0 rfl) ?_
  refine lv_iconst (v := 1) hx hb dL_law_588 (by decide) ?_
  refine lv_iadd hx hb dL_law_589 ?_
  refine k_topi (show nI (2 + 6 * j) + 1 = nI ((2 + 6 * j) + 1) from nI_add _ _) ?_
  refine va_sld hx hb hX0 hbl hbA hM.2.2 (vp_in_nI (by omega) (by omega)) dL_law_590 ?_
  refine lv_aload_n hx hb dL_law_591 rfl (lv_at hl 3 rfl) ?_
  refine lv_iload_n hx hb dL_law_592 rfl (lv_at hl 0 rfl) ?_
  refine lv_iconst (v := 2) hx hb dL_law_593 (by decide) ?_
  refine lv_iadd hx hb dL_law_594 ?_
  refine k_topi (show nI (2 + 6 * j) + 2 = nI ((2 + 6 * j) + 2) from nI_add _ _) ?_
  refine va_sld hx hb hX0 hbl hbA hM.2.2 (vp_in_nI (by omega) (by omega)) dL_law_595 ?_
  refine lv_aload_n hx hb dL_law_596 rfl (lv_at hl 3 rfl) ?_
  refine lv_iload_n hx hb dL_law_597 rfl (lv_at hl 0 rfl) ?_
  refine lv_iconst (v := 3) hx hb dL_law_598 (by decide) ?_
  refine lv_iadd hx hb dL_law_599 ?_
  refine k_topi (show nI (2 + 6 * j) + 3 = nI ((2 + 6 * j) + 3) from nI_add _ _) ?_
  refine va_sld hx hb hX0 hbl hbA hM.2.2 (vp_in_nI (by omega) (by omega)) dL_law_600 ?_
  refine lv_i2l hx hb dL_law_601 rfl ?_
  refine lv_bipush (v := 32) hx hb dL_law_602 (by decide) ?_
  refine lv_lshl hx hb dL_law_604 rfl ?_
  refine lv_aload_n hx hb dL_law_605 rfl (lv_at hl 3 rfl) ?_
  refine lv_iload_n hx hb dL_law_606 rfl (lv_at hl 0 rfl) ?_
  refine lv_iconst (v := 4) hx hb dL_law_607 (by decide) ?_
  refine lv_iadd hx hb dL_law_608 ?_
  refine k_topi (show nI (2 + 6 * j) + 4 = nI ((2 + 6 * j) + 4) from nI_add _ _) ?_
  refine va_sld hx hb hX0 hbl hbA hM.2.2 (vp_in_nI (by omega) (by omega)) dL_law_609 ?_
  refine lv_i2l hx hb dL_law_610 rfl ?_
  refine lv_ldc2 (v := 4294967295) hx hb hown (hts _ tw_619) dL_law_611 ?_
  refine lv_land hx hb dL_law_614 ?_
  refine lv_lor hx hb dL_law_615 ?_
  refine ka_ncalli (W.runV (C := RX) (As := [.int (xs (nI ((2 + 6 * j) + 1)).toNatClampNeg), .int (xs (nI ((2 + 6 * j) + 2)).toNatClampNeg), .long ((((xs (nI ((2 + 6 * j) + 3)).toNatClampNeg).toInt64) <<< ((32 : Int32).toInt64 &&& 63)) ||| (((xs (nI ((2 + 6 * j) + 4)).toNatClampNeg).toInt64) &&& 4294967295))]) (rest := []) ⟨hx, hb, hml, hown, hts⟩ (c_X_limit l D cI cL cQ d κ x hX hB.2.1 _ (xs (nI ((2 + 6 * j) + 1)).toNatClampNeg) (xs (nI ((2 + 6 * j) + 2)).toNatClampNeg) ((((xs (nI ((2 + 6 * j) + 3)).toNatClampNeg).toInt64) <<< ((32 : Int32).toInt64 &&& 63)) ||| (((xs (nI ((2 + 6 * j) + 4)).toNatClampNeg).toInt64) &&& 4294967295))) (cwV 3 hts (k_gV tw_245 tw_246 tw_247 tw_38 tw_248) rfl rfl rfl (by decide +kernel) ⟨Nat.le_of_ble_eq_true rfl, Nat.le_of_ble_eq_true rfl⟩) (kPreV hM.1 hK (q := 18) hX.1 rfl) rfl rfl hl.1 rfl (lv_room (Nat.le_of_ble_eq_true rfl)) dL_law_616 ⟨hc9, hs9⟩) hM (fun _ h9 => h9) (fun r_616 κX H locs h1_616 hM => ?_)
  obtain ⟨er_616, hWX⟩ := h1_616
  subst er_616
  have hm := hm.keep (fun k hk => hWX.2 k hk) (fun _ _ => rfl)
  have hX := hWX.1
  refine lv_aload_n hx hb dL_law_619 rfl (lv_at hl 1 rfl) ?_
  refine lv_aload_n hx hb dL_law_620 rfl (lv_at hl 3 rfl) ?_
  refine lv_iload_n hx hb dL_law_621 rfl (lv_at hl 0 rfl) ?_
  refine lv_iconst (v := 1) hx hb dL_law_622 (by decide) ?_
  refine lv_iadd hx hb dL_law_623 ?_
  refine k_topi (show nI (2 + 6 * j) + 1 = nI ((2 + 6 * j) + 1) from nI_add _ _) ?_
  refine va_sld hx hb hX0 hbl hbA hM.2.2 (vp_in_nI (by omega) (by omega)) dL_law_624 ?_
  refine lv_aload_n hx hb dL_law_625 rfl (lv_at hl 3 rfl) ?_
  refine lv_iload_n hx hb dL_law_626 rfl (lv_at hl 0 rfl) ?_
  refine lv_iconst (v := 2) hx hb dL_law_627 (by decide) ?_
  refine lv_iadd hx hb dL_law_628 ?_
  refine k_topi (show nI (2 + 6 * j) + 2 = nI ((2 + 6 * j) + 2) from nI_add _ _) ?_
  refine va_sld hx hb hX0 hbl hbA hM.2.2 (vp_in_nI (by omega) (by omega)) dL_law_629 ?_
  refine lv_aload_n hx hb dL_law_630 rfl (lv_at hl 3 rfl) ?_
  refine lv_iload_n hx hb dL_law_631 rfl (lv_at hl 0 rfl) ?_
  refine lv_iconst (v := 3) hx hb dL_law_632 (by decide) ?_
  refine lv_iadd hx hb dL_law_633 ?_
  refine k_topi (show nI (2 + 6 * j) + 3 = nI ((2 + 6 * j) + 3) from nI_add _ _) ?_
  refine va_sld hx hb hX0 hbl hbA hM.2.2 (vp_in_nI (by omega) (by omega)) dL_law_634 ?_
  refine lv_i2l hx hb dL_law_635 rfl ?_
  refine lv_bipush (v := 32) hx hb dL_law_636 (by decide) ?_
  refine lv_lshl hx hb dL_law_638 rfl ?_
  refine lv_aload_n hx hb dL_law_639 rfl (lv_at hl 3 rfl) ?_
  refine lv_iload_n hx hb dL_law_640 rfl (lv_at hl 0 rfl) ?_
  refine lv_iconst (v := 4) hx hb dL_law_641 (by decide) ?_
  refine lv_iadd hx hb dL_law_642 ?_
  refine k_topi (show nI (2 + 6 * j) + 4 = nI ((2 + 6 * j) + 4) from nI_add _ _) ?_
  refine va_sld hx hb hX0 hbl hbA hM.2.2 (vp_in_nI (by omega) (by omega)) dL_law_643 ?_
  refine lv_i2l hx hb dL_law_644 rfl ?_
  refine lv_ldc2 (v := 4294967295) hx hb hown (hts _ tw_619) dL_law_645 ?_
  refine lv_land hx hb dL_law_648 ?_
  refine lv_lor hx hb dL_law_649 ?_
  refine ka_ncalli (W.runV (C := RM) (As := [.int (xs (nI ((2 + 6 * j) + 1)).toNatClampNeg), .int (xs (nI ((2 + 6 * j) + 2)).toNatClampNeg), .long ((((xs (nI ((2 + 6 * j) + 3)).toNatClampNeg).toInt64) <<< ((32 : Int32).toInt64 &&& 63)) ||| (((xs (nI ((2 + 6 * j) + 4)).toNatClampNeg).toInt64) &&& 4294967295))]) (rest := [.int ((g_X_limit x (xs (nI ((2 + 6 * j) + 1)).toNatClampNeg) (xs (nI ((2 + 6 * j) + 2)).toNatClampNeg) ((((xs (nI ((2 + 6 * j) + 3)).toNatClampNeg).toInt64) <<< ((32 : Int32).toInt64 &&& 63)) ||| (((xs (nI ((2 + 6 * j) + 4)).toNatClampNeg).toInt64) &&& 4294967295))).1)]) ⟨hx, hb, hml, hown, hts⟩ (c_M_limit l D cI cL cQ d κX ms hm hB.1 _ (xs (nI ((2 + 6 * j) + 1)).toNatClampNeg) (xs (nI ((2 + 6 * j) + 2)).toNatClampNeg) ((((xs (nI ((2 + 6 * j) + 3)).toNatClampNeg).toInt64) <<< ((32 : Int32).toInt64 &&& 63)) ||| (((xs (nI ((2 + 6 * j) + 4)).toNatClampNeg).toInt64) &&& 4294967295)) ) (cwV 3 hts (k_gV tw_562 tw_563 tw_564 tw_41 tw_565) rfl rfl rfl (by decide +kernel) ⟨Nat.le_of_ble_eq_true rfl, Nat.le_of_ble_eq_true rfl⟩) (kPreV hM.1 hK (q := 0) hm.1 rfl) rfl rfl hl.1 rfl (lv_room (Nat.le_of_ble_eq_true rfl)) dL_law_650 ⟨hc9, hs9⟩) hM (fun _ h9 => h9) (fun r_650 κM H locs h1_650 hM => ?_)
  obtain ⟨er_650, hWM⟩ := h1_650
  subst er_650
  have hX := hX.keep (fun k hk => hWM.2 k hk)
  have hm := hWM.1
  have hEQ := hs j ms x (xs (nI ((2 + 6 * j) + 1)).toNatClampNeg) (xs (nI ((2 + 6 * j) + 2)).toNatClampNeg) (((xs (nI ((2 + 6 * j) + 3)).toNatClampNeg).toInt64 <<< ((32 : Int32).toInt64 &&& 63)) ||| ((xs (nI ((2 + 6 * j) + 4)).toNatClampNeg).toInt64 &&& 4294967295)) hR.1 hR.2
  refine lv_icmp_eq (tgt := 943) hx hb dL_law_653 (by decide) (fun _ => ?_) (fun c => absurd hEQ.1 c)
  refine W.widen (k := cells + 3) (n := slots + 516) (by omega) (by omega) ?_
  exact next _ _ _ _ _ _ ls hM hm hX hEQ.2 hl
set_option maxHeartbeats 4000000 in
set_option maxRecDepth 100000 in
theorem lc_open {p : Program} {l : Launch} {e : Env} {s : State} {m : MethodId} {below : List Frame} {meth : Method} {c : Code} {D : va_G} {cI cL cQ : ClassId} {b L : Nat} {xs : Nat → Int32} (RR : Nat → MS → XS → Prop) (hRB : ∀ n ms x, RR n ms x → RB n ms x) (hs : ∀ (n : Nat) (ms : MS) (x : XS) (v0 : Int32) (v1 : Int32), RR n ms x → n < 512 → (g_X_open x v0 v1).1 = (g_M_open ms v0 v1).1 ∧ RR (n + 1) (g_M_open ms v0 v1).2 (g_X_open x v0 v1).2) (hL : L ≤ 3074) (C0 : lw_At p s m meth c b L xs) (hK : va_K D vCl (kT cI cL cQ) s) (j : Nat) (hj : 8 + 6 * j ≤ L) (d : Nat → Nat) (κ : Nat → Option va_E) (ms : MS) (x : XS) (H : Heap) (locs : List Loc) (ls : Array Slot) (cells slots : Nat) (hc8 : cells + 3 ≤ 600000) (hs8 : slots + 516 ≤ 7302250) (hM : kW D vCl d κ (fun q : Nat => s.heap.size ≤ q) s.heap H locs) (hm : IsM cI cL d κ ms) (hX : IsX cI cL cQ d κ x) (hR : RR j ms x) (hl : lv_has ls 4 [(3, .int (nI (2 + 6 * j))), (2, .ref (d 0)), (1, .ref (d 18)), (0, .ref b)]) (next : ∀ (d : Nat → Nat) (κ : Nat → Option va_E) (ms : MS) (x : XS) (H : Heap) (locs : List Loc) (ls : Array Slot), kW D vCl d κ (fun q : Nat => s.heap.size ≤ q) s.heap H locs → IsM cI cL d κ ms → IsX cI cL cQ d κ x → RR (j + 1) ms x → lv_has ls 4 [(3, .int (nI (2 + 6 * j))), (2, .ref (d 0)), (1, .ref (d 18)), (0, .ref b)] → W p l e room_1 s m #[Value.ref b] below meth c H locs (cells + 3) (slots + 516) (lw_Z below #[Value.ref b] s) (F0 m 943 ls [])) : W p l e room_1 s m #[Value.ref b] below meth c H locs cells slots (lw_Z below #[Value.ref b] s) (F0 m 658 ls []) := by
  obtain ⟨hx, hb, hr, hml, hown, hts0, hX0, hbl, hlocks, hgv⟩ := C0
  have hts : ∀ w ∈ lw_g, w.before #[Value.ref b] s = true := fun w h => hts0 w (List.mem_filter.mp h).1
  have hbA : ¬ (fun q : Nat => s.heap.size ≤ q) b := Nat.not_le.mpr hbl
  have hB := hRB j ms x hR
  have hR : RR j ms x ∧ j < 512 := ⟨hR, by omega⟩
  obtain ⟨hB5, hB6, hB7⟩ := hB.2.2
  have hm0 := hm
  have hc9 : cells + 0 ≤ room_1.cells := by show cells + 0 ≤ 600000; omega
  have hs9 : slots + 0 ≤ room_1.slots := by show slots + 0 ≤ 7302250; omega
  refine lv_aload_n hx hb dL_law_658 rfl (lv_at hl 2 rfl) ?_
  refine lv_aload_n hx hb dL_law_659 rfl (lv_at hl 3 rfl) ?_
  refine lv_iload_n hx hb dL_law_660 rfl (lv_at hl 0 rfl) ?_
  refine lv_iconst (v := 1) hx hb dL_law_661 (by decide) ?_
  refine lv_iadd hx hb dL_law_662 ?_
  refine k_topi (show nI (2 + 6 * j) + 1 = nI ((2 + 6 * j) + 1) from nI_add _ _) ?_
  refine va_sld hx hb hX0 hbl hbA hM.2.2 (vp_in_nI (by omega) (by omega)) dL_law_663 ?_
  refine lv_aload_n hx hb dL_law_664 rfl (lv_at hl 3 rfl) ?_
  refine lv_iload_n hx hb dL_law_665 rfl (lv_at hl 0 rfl) ?_
  refine lv_iconst (v := 2) hx hb dL_law_666 (by decide) ?_
  refine lv_iadd hx hb dL_law_667 ?_
  refine k_topi (show nI (2 + 6 * j) + 2 = nI ((2 + 6 * j) + 2) from nI_add _ _) ?_
  refine va_sld hx hb hX0 hbl hbA hM.2.2 (vp_in_nI (by omega) (by omega)) dL_law_668 ?_
  refine ka_ncalli (W.runV (C := RX) (As := [.int (xs (nI ((2 + 6 * j) + 1)).toNatClampNeg), .int (xs (nI ((2 + 6 * j) + 2)).toNatClampNeg)]) (rest := []) ⟨hx, hb, hml, hown, hts⟩ (c_X_open l D cI cL cQ d κ x hX hB.2.1 _ (xs (nI ((2 + 6 * j) + 1)).toNatClampNeg) (xs (nI ((2 + 6 * j) + 2)).toNatClampNeg)) (cwV 2 hts (k_gV tw_273 tw_274 tw_275 tw_38 tw_276) rfl rfl rfl (by decide +kernel) ⟨Nat.le_of_ble_eq_true rfl, Nat.le_of_ble_eq_true rfl⟩) (kPreV hM.1 hK (q := 18) hX.1 rfl) rfl rfl hl.1 rfl (lv_room (Nat.le_of_ble_eq_true rfl)) dL_law_669 ⟨hc9, hs9⟩) hM (fun _ h9 => h9) (fun r_669 κX H locs h1_669 hM => ?_)
  obtain ⟨er_669, hWX⟩ := h1_669
  subst er_669
  have hm := hm.keep (fun k hk => hWX.2 k hk) (fun _ _ => rfl)
  have hX := hWX.1
  refine lv_aload_n hx hb dL_law_672 rfl (lv_at hl 1 rfl) ?_
  refine lv_aload_n hx hb dL_law_673 rfl (lv_at hl 3 rfl) ?_
  refine lv_iload_n hx hb dL_law_674 rfl (lv_at hl 0 rfl) ?_
  refine lv_iconst (v := 1) hx hb dL_law_675 (by decide) ?_
  refine lv_iadd hx hb dL_law_676 ?_
  refine k_topi (show nI (2 + 6 * j) + 1 = nI ((2 + 6 * j) + 1) from nI_add _ _) ?_
  refine va_sld hx hb hX0 hbl hbA hM.2.2 (vp_in_nI (by omega) (by omega)) dL_law_677 ?_
  refine lv_aload_n hx hb dL_law_678 rfl (lv_at hl 3 rfl) ?_
  refine lv_iload_n hx hb dL_law_679 rfl (lv_at hl 0 rfl) ?_
  refine lv_iconst (v := 2) hx hb dL_law_680 (by decide) ?_
  refine lv_iadd hx hb dL_law_681 ?_
  refine k_topi (show nI (2 + 6 * j) + 2 = nI ((2 + 6 * j) + 2) from nI_add _ _) ?_
  refine va_sld hx hb hX0 hbl hbA hM.2.2 (vp_in_nI (by omega) (by omega)) dL_law_682 ?_
  refine ka_ncalli (W.runV (C := RM) (As := [.int (xs (nI ((2 + 6 * j) + 1)).toNatClampNeg), .int (xs (nI ((2 + 6 * j) + 2)).toNatClampNeg)]) (rest := [.int ((g_X_open x (xs (nI ((2 + 6 * j) + 1)).toNatClampNeg) (xs (nI ((2 + 6 * j) + 2)).toNatClampNeg)).1)]) ⟨hx, hb, hml, hown, hts⟩ (c_M_open l D cI cL cQ d κX ms hm hB.1 _ (xs (nI ((2 + 6 * j) + 1)).toNatClampNeg) (xs (nI ((2 + 6 * j) + 2)).toNatClampNeg) ) (cwV 2 hts (k_gV tw_570 tw_571 tw_572 tw_41 tw_573) rfl rfl rfl (by decide +kernel) ⟨Nat.le_of_ble_eq_true rfl, Nat.le_of_ble_eq_true rfl⟩) (kPreV hM.1 hK (q := 0) hm.1 rfl) rfl rfl hl.1 rfl (lv_room (Nat.le_of_ble_eq_true rfl)) dL_law_683 ⟨hc9, hs9⟩) hM (fun _ h9 => h9) (fun r_683 κM H locs h1_683 hM => ?_)
  obtain ⟨er_683, hWM⟩ := h1_683
  subst er_683
  have hX := hX.keep (fun k hk => hWM.2 k hk)
  have hm := hWM.1
  have hEQ := hs j ms x (xs (nI ((2 + 6 * j) + 1)).toNatClampNeg) (xs (nI ((2 + 6 * j) + 2)).toNatClampNeg) hR.1 hR.2
  refine lv_icmp_eq (tgt := 943) hx hb dL_law_686 (by decide) (fun _ => ?_) (fun c => absurd hEQ.1 c)
  refine W.widen (k := cells + 3) (n := slots + 516) (by omega) (by omega) ?_
  exact next _ _ _ _ _ _ ls hM hm hX hEQ.2 hl
set_option maxHeartbeats 4000000 in
set_option maxRecDepth 100000 in
theorem lc_leg {p : Program} {l : Launch} {e : Env} {s : State} {m : MethodId} {below : List Frame} {meth : Method} {c : Code} {D : va_G} {cI cL cQ : ClassId} {b L : Nat} {xs : Nat → Int32} (RR : Nat → MS → XS → Prop) (hRB : ∀ n ms x, RR n ms x → RB n ms x) (hs : ∀ (n : Nat) (ms : MS) (x : XS) (v0 : Int32) (v1 : Int32) (v2 : Int32) (v3 : Int64), RR n ms x → n < 512 → (g_X_leg x v0 v1 v2 v3).1 = (g_M_leg ms v0 v1 v2 v3).1 ∧ RR (n + 1) (g_M_leg ms v0 v1 v2 v3).2 (g_X_leg x v0 v1 v2 v3).2) (hL : L ≤ 3074) (C0 : lw_At p s m meth c b L xs) (hK : va_K D vCl (kT cI cL cQ) s) (j : Nat) (hj : 8 + 6 * j ≤ L) (d : Nat → Nat) (κ : Nat → Option va_E) (ms : MS) (x : XS) (H : Heap) (locs : List Loc) (ls : Array Slot) (cells slots : Nat) (hc8 : cells + 3 ≤ 600000) (hs8 : slots + 516 ≤ 7302250) (hM : kW D vCl d κ (fun q : Nat => s.heap.size ≤ q) s.heap H locs) (hm : IsM cI cL d κ ms) (hX : IsX cI cL cQ d κ x) (hR : RR j ms x) (hl : lv_has ls 4 [(3, .int (nI (2 + 6 * j))), (2, .ref (d 0)), (1, .ref (d 18)), (0, .ref b)]) (next : ∀ (d : Nat → Nat) (κ : Nat → Option va_E) (ms : MS) (x : XS) (H : Heap) (locs : List Loc) (ls : Array Slot), kW D vCl d κ (fun q : Nat => s.heap.size ≤ q) s.heap H locs → IsM cI cL d κ ms → IsX cI cL cQ d κ x → RR (j + 1) ms x → lv_has ls 4 [(3, .int (nI (2 + 6 * j))), (2, .ref (d 0)), (1, .ref (d 18)), (0, .ref b)] → W p l e room_1 s m #[Value.ref b] below meth c H locs (cells + 3) (slots + 516) (lw_Z below #[Value.ref b] s) (F0 m 943 ls [])) : W p l e room_1 s m #[Value.ref b] below meth c H locs cells slots (lw_Z below #[Value.ref b] s) (F0 m 691 ls []) := by
  obtain ⟨hx, hb, hr, hml, hown, hts0, hX0, hbl, hlocks, hgv⟩ := C0
  have hts : ∀ w ∈ lw_g, w.before #[Value.ref b] s = true := fun w h => hts0 w (List.mem_filter.mp h).1
  have hbA : ¬ (fun q : Nat => s.heap.size ≤ q) b := Nat.not_le.mpr hbl
  have hB := hRB j ms x hR
  have hR : RR j ms x ∧ j < 512 := ⟨hR, by omega⟩
  obtain ⟨hB5, hB6, hB7⟩ := hB.2.2
  have hm0 := hm
  have hc9 : cells + 0 ≤ room_1.cells := by show cells + 0 ≤ 600000; omega
  have hs9 : slots + 0 ≤ room_1.slots := by show slots + 0 ≤ 7302250; omega
  refine lv_aload_n hx hb dL_law_691 rfl (lv_at hl 2 rfl) ?_
  refine lv_aload_n hx hb dL_law_692 rfl (lv_at hl 3 rfl) ?_
  refine lv_iload_n hx hb dL_law_693 rfl (lv_at hl 0 rfl) ?_
  refine lv_iconst (v := 1) hx hb dL_law_694 (by decide) ?_
  refine lv_iadd hx hb dL_law_695 ?_
  refine k_topi (show nI (2 + 6 * j) + 1 = nI ((2 + 6 * j) + 1) from nI_add _ _) ?_
  refine va_sld hx hb hX0 hbl hbA hM.2.2 (vp_in_nI (by omega) (by omega)) dL_law_696 ?_
  refine lv_aload_n hx hb dL_law_697 rfl (lv_at hl 3 rfl) ?_
  refine lv_iload_n hx hb dL_law_698 rfl (lv_at hl 0 rfl) ?_
  refine lv_iconst (v := 2) hx hb dL_law_699 (by decide) ?_
  refine lv_iadd hx hb dL_law_700 ?_
  refine k_topi (show nI (2 + 6 * j) + 2 = nI ((2 + 6 * j) + 2) from nI_add _ _) ?_
  refine va_sld hx hb hX0 hbl hbA hM.2.2 (vp_in_nI (by omega) (by omega)) dL_law_701 ?_
  refine lv_aload_n hx hb dL_law_702 rfl (lv_at hl 3 rfl) ?_
  refine lv_iload_n hx hb dL_law_703 rfl (lv_at hl 0 rfl) ?_
  refine lv_iconst (v := 3) hx hb dL_law_704 (by decide) ?_
  refine lv_iadd hx hb dL_law_705 ?_
  refine k_topi (show nI (2 + 6 * j) + 3 = nI ((2 + 6 * j) + 3) from nI_add _ _) ?_
  refine va_sld hx hb hX0 hbl hbA hM.2.2 (vp_in_nI (by omega) (by omega)) dL_law_706 ?_
  refine lv_aload_n hx hb dL_law_707 rfl (lv_at hl 3 rfl) ?_
  refine lv_iload_n hx hb dL_law_708 rfl (lv_at hl 0 rfl) ?_
  refine lv_iconst (v := 4) hx hb dL_law_709 (by decide) ?_
  refine lv_iadd hx hb dL_law_710 ?_
  refine k_topi (show nI (2 + 6 * j) + 4 = nI ((2 + 6 * j) + 4) from nI_add _ _) ?_
  refine va_sld hx hb hX0 hbl hbA hM.2.2 (vp_in_nI (by omega) (by omega)) dL_law_711 ?_
  refine lv_i2l hx hb dL_law_712 rfl ?_
  refine lv_bipush (v := 32) hx hb dL_law_713 (by decide) ?_
  refine lv_lshl hx hb dL_law_715 rfl ?_
  refine lv_aload_n hx hb dL_law_716 rfl (lv_at hl 3 rfl) ?_
  refine lv_iload_n hx hb dL_law_717 rfl (lv_at hl 0 rfl) ?_
  refine lv_iconst (v := 5) hx hb dL_law_718 (by decide) ?_
  refine lv_iadd hx hb dL_law_719 ?_
  refine k_topi (show nI (2 + 6 * j) + 5 = nI ((2 + 6 * j) + 5) from nI_add _ _) ?_
  refine va_sld hx hb hX0 hbl hbA hM.2.2 (vp_in_nI (by omega) (by omega)) dL_law_720 ?_
  refine lv_i2l hx hb dL_law_721 rfl ?_
  refine lv_ldc2 (v := 4294967295) hx hb hown (hts _ tw_619) dL_law_722 ?_
  refine lv_land hx hb dL_law_725 ?_
  refine lv_lor hx hb dL_law_726 ?_
  refine ka_ncalli (W.runV (C := RX) (As := [.int (xs (nI ((2 + 6 * j) + 1)).toNatClampNeg), .int (xs (nI ((2 + 6 * j) + 2)).toNatClampNeg), .int (xs (nI ((2 + 6 * j) + 3)).toNatClampNeg), .long ((((xs (nI ((2 + 6 * j) + 4)).toNatClampNeg).toInt64) <<< ((32 : Int32).toInt64 &&& 63)) ||| (((xs (nI ((2 + 6 * j) + 5)).toNatClampNeg).toInt64) &&& 4294967295))]) (rest := []) ⟨hx, hb, hml, hown, hts⟩ (c_X_leg l D cI cL cQ d κ x hX hB.2.1 _ (xs (nI ((2 + 6 * j) + 1)).toNatClampNeg) (xs (nI ((2 + 6 * j) + 2)).toNatClampNeg) (xs (nI ((2 + 6 * j) + 3)).toNatClampNeg) ((((xs (nI ((2 + 6 * j) + 4)).toNatClampNeg).toInt64) <<< ((32 : Int32).toInt64 &&& 63)) ||| (((xs (nI ((2 + 6 * j) + 5)).toNatClampNeg).toInt64) &&& 4294967295))) (cwV 4 hts (k_gV tw_289 tw_290 tw_291 tw_38 tw_292) rfl rfl rfl (by decide +kernel) ⟨Nat.le_of_ble_eq_true rfl, Nat.le_of_ble_eq_true rfl⟩) (kPreV hM.1 hK (q := 18) hX.1 rfl) rfl rfl hl.1 rfl (lv_room (Nat.le_of_ble_eq_true rfl)) dL_law_727 ⟨hc9, hs9⟩) hM (fun _ h9 => h9) (fun r_727 κX H locs h1_727 hM => ?_)
  obtain ⟨er_727, hWX⟩ := h1_727
  subst er_727
  have hm := hm.keep (fun k hk => hWX.2 k hk) (fun _ _ => rfl)
  have hX := hWX.1
  refine lv_aload_n hx hb dL_law_730 rfl (lv_at hl 1 rfl) ?_
  refine lv_aload_n hx hb dL_law_731 rfl (lv_at hl 3 rfl) ?_
  refine lv_iload_n hx hb dL_law_732 rfl (lv_at hl 0 rfl) ?_
  refine lv_iconst (v := 1) hx hb dL_law_733 (by decide) ?_
  refine lv_iadd hx hb dL_law_734 ?_
  refine k_topi (show nI (2 + 6 * j) + 1 = nI ((2 + 6 * j) + 1) from nI_add _ _) ?_
  refine va_sld hx hb hX0 hbl hbA hM.2.2 (vp_in_nI (by omega) (by omega)) dL_law_735 ?_
  refine lv_aload_n hx hb dL_law_736 rfl (lv_at hl 3 rfl) ?_
  refine lv_iload_n hx hb dL_law_737 rfl (lv_at hl 0 rfl) ?_
  refine lv_iconst (v := 2) hx hb dL_law_738 (by decide) ?_
  refine lv_iadd hx hb dL_law_739 ?_
  refine k_topi (show nI (2 + 6 * j) + 2 = nI ((2 + 6 * j) + 2) from nI_add _ _) ?_
  refine va_sld hx hb hX0 hbl hbA hM.2.2 (vp_in_nI (by omega) (by omega)) dL_law_740 ?_
  refine lv_aload_n hx hb dL_law_741 rfl (lv_at hl 3 rfl) ?_
  refine lv_iload_n hx hb dL_law_742 rfl (lv_at hl 0 rfl) ?_
  refine lv_iconst (v := 3) hx hb dL_law_743 (by decide) ?_
  refine lv_iadd hx hb dL_law_744 ?_
  refine k_topi (show nI (2 + 6 * j) + 3 = nI ((2 + 6 * j) + 3) from nI_add _ _) ?_
  refine va_sld hx hb hX0 hbl hbA hM.2.2 (vp_in_nI (by omega) (by omega)) dL_law_745 ?_
  refine lv_aload_n hx hb dL_law_746 rfl (lv_at hl 3 rfl) ?_
  refine lv_iload_n hx hb dL_law_747 rfl (lv_at hl 0 rfl) ?_
  refine lv_iconst (v := 4) hx hb dL_law_748 (by decide) ?_
  refine lv_iadd hx hb dL_law_749 ?_
  refine k_topi (show nI (2 + 6 * j) + 4 = nI ((2 + 6 * j) + 4) from nI_add _ _) ?_
  refine va_sld hx hb hX0 hbl hbA hM.2.2 (vp_in_nI (by omega) (by omega)) dL_law_750 ?_
  refine lv_i2l hx hb dL_law_751 rfl ?_
  refine lv_bipush (v := 32) hx hb dL_law_752 (by decide) ?_
  refine lv_lshl hx hb dL_law_754 rfl ?_
  refine lv_aload_n hx hb dL_law_755 rfl (lv_at hl 3 rfl) ?_
  refine lv_iload_n hx hb dL_law_756 rfl (lv_at hl 0 rfl) ?_
  refine lv_iconst (v := 5) hx hb dL_law_757 (by decide) ?_
  refine lv_iadd hx hb dL_law_758 ?_
  refine k_topi (show nI (2 + 6 * j) + 5 = nI ((2 + 6 * j) + 5) from nI_add _ _) ?_
  refine va_sld hx hb hX0 hbl hbA hM.2.2 (vp_in_nI (by omega) (by omega)) dL_law_759 ?_
  refine lv_i2l hx hb dL_law_760 rfl ?_
  refine lv_ldc2 (v := 4294967295) hx hb hown (hts _ tw_619) dL_law_761 ?_
  refine lv_land hx hb dL_law_764 ?_
  refine lv_lor hx hb dL_law_765 ?_
  refine ka_ncalli (W.runV (C := RM) (As := [.int (xs (nI ((2 + 6 * j) + 1)).toNatClampNeg), .int (xs (nI ((2 + 6 * j) + 2)).toNatClampNeg), .int (xs (nI ((2 + 6 * j) + 3)).toNatClampNeg), .long ((((xs (nI ((2 + 6 * j) + 4)).toNatClampNeg).toInt64) <<< ((32 : Int32).toInt64 &&& 63)) ||| (((xs (nI ((2 + 6 * j) + 5)).toNatClampNeg).toInt64) &&& 4294967295))]) (rest := [.int ((g_X_leg x (xs (nI ((2 + 6 * j) + 1)).toNatClampNeg) (xs (nI ((2 + 6 * j) + 2)).toNatClampNeg) (xs (nI ((2 + 6 * j) + 3)).toNatClampNeg) ((((xs (nI ((2 + 6 * j) + 4)).toNatClampNeg).toInt64) <<< ((32 : Int32).toInt64 &&& 63)) ||| (((xs (nI ((2 + 6 * j) + 5)).toNatClampNeg).toInt64) &&& 4294967295))).1)]) ⟨hx, hb, hml, hown, hts⟩ (c_M_leg l D cI cL cQ d κX ms hm hB.1 _ (xs (nI ((2 + 6 * j) + 1)).toNatClampNeg) (xs (nI ((2 + 6 * j) + 2)).toNatClampNeg) (xs (nI ((2 + 6 * j) + 3)).toNatClampNeg) ((((xs (nI ((2 + 6 * j) + 4)).toNatClampNeg).toInt64) <<< ((32 : Int32).toInt64 &&& 63)) ||| (((xs (nI ((2 + 6 * j) + 5)).toNatClampNeg).toInt64) &&& 4294967295)) ) (cwV 4 hts (k_gV tw_578 tw_579 tw_580 tw_41 tw_581) rfl rfl rfl (by decide +kernel) ⟨Nat.le_of_ble_eq_true rfl, Nat.le_of_ble_eq_true rfl⟩) (kPreV hM.1 hK (q := 0) hm.1 rfl) rfl rfl hl.1 rfl (lv_room (Nat.le_of_ble_eq_true rfl)) dL_law_766 ⟨hc9, hs9⟩) hM (fun _ h9 => h9) (fun r_766 κM H locs h1_766 hM => ?_)
  obtain ⟨er_766, hWM⟩ := h1_766
  subst er_766
  have hX := hX.keep (fun k hk => hWM.2 k hk)
  have hm := hWM.1
  have hEQ := hs j ms x (xs (nI ((2 + 6 * j) + 1)).toNatClampNeg) (xs (nI ((2 + 6 * j) + 2)).toNatClampNeg) (xs (nI ((2 + 6 * j) + 3)).toNatClampNeg) (((xs (nI ((2 + 6 * j) + 4)).toNatClampNeg).toInt64 <<< ((32 : Int32).toInt64 &&& 63)) ||| ((xs (nI ((2 + 6 * j) + 5)).toNatClampNeg).toInt64 &&& 4294967295)) hR.1 hR.2
  refine lv_icmp_eq (tgt := 943) hx hb dL_law_769 (by decide) (fun _ => ?_) (fun c => absurd hEQ.1 c)
  refine W.widen (k := cells + 3) (n := slots + 516) (by omega) (by omega) ?_
  exact next _ _ _ _ _ _ ls hM hm hX hEQ.2 hl
set_option maxHeartbeats 4000000 in
set_option maxRecDepth 100000 in
theorem lc_holds {p : Program} {l : Launch} {e : Env} {s : State} {m : MethodId} {below : List Frame} {meth : Method} {c : Code} {D : va_G} {cI cL cQ : ClassId} {b L : Nat} {xs : Nat → Int32} (RR : Nat → MS → XS → Prop) (hRB : ∀ n ms x, RR n ms x → RB n ms x) (hs : ∀ (n : Nat) (ms : MS) (x : XS), RR n ms x → n < 512 → f_X_holds x = f_M_holds ms ∧ RR (n + 1) ms x) (hL : L ≤ 3074) (C0 : lw_At p s m meth c b L xs) (hK : va_K D vCl (kT cI cL cQ) s) (j : Nat) (hj : 8 + 6 * j ≤ L) (d : Nat → Nat) (κ : Nat → Option va_E) (ms : MS) (x : XS) (H : Heap) (locs : List Loc) (ls : Array Slot) (cells slots : Nat) (hc8 : cells + 3 ≤ 600000) (hs8 : slots + 516 ≤ 7302250) (hM : kW D vCl d κ (fun q : Nat => s.heap.size ≤ q) s.heap H locs) (hm : IsM cI cL d κ ms) (hX : IsX cI cL cQ d κ x) (hR : RR j ms x) (hl : lv_has ls 4 [(3, .int (nI (2 + 6 * j))), (2, .ref (d 0)), (1, .ref (d 18)), (0, .ref b)]) (next : ∀ (d : Nat → Nat) (κ : Nat → Option va_E) (ms : MS) (x : XS) (H : Heap) (locs : List Loc) (ls : Array Slot), kW D vCl d κ (fun q : Nat => s.heap.size ≤ q) s.heap H locs → IsM cI cL d κ ms → IsX cI cL cQ d κ x → RR (j + 1) ms x → lv_has ls 4 [(3, .int (nI (2 + 6 * j))), (2, .ref (d 0)), (1, .ref (d 18)), (0, .ref b)] → W p l e room_1 s m #[Value.ref b] below meth c H locs (cells + 3) (slots + 516) (lw_Z below #[Value.ref b] s) (F0 m 943 ls [])) : W p l e room_1 s m #[Value.ref b] below meth c H locs cells slots (lw_Z below #[Value.ref b] s) (F0 m 774 ls []) := by
  obtain ⟨hx, hb, hr, hml, hown, hts0, hX0, hbl, hlocks, hgv⟩ := C0
  have hts : ∀ w ∈ lw_g, w.before #[Value.ref b] s = true := fun w h => hts0 w (List.mem_filter.mp h).1
  have hbA : ¬ (fun q : Nat => s.heap.size ≤ q) b := Nat.not_le.mpr hbl
  have hB := hRB j ms x hR
  have hR : RR j ms x ∧ j < 512 := ⟨hR, by omega⟩
  obtain ⟨hB5, hB6, hB7⟩ := hB.2.2
  have hm0 := hm
  have hc9 : cells + 0 ≤ room_1.cells := by show cells + 0 ≤ 600000; omega
  have hs9 : slots + 0 ≤ room_1.slots := by show slots + 0 ≤ 7302250; omega
  refine lv_aload_n hx hb dL_law_774 rfl (lv_at hl 2 rfl) ?_
  refine vp_callSi (W.runV (C := RX) (As := []) (rest := []) ⟨hx, hb, hml, hown, hts⟩ (c_X_holds l D cI cL cQ d κ x hX hB.2.1 _ ) (cwV 0 hts (k_gV tw_297 tw_298 tw_299 tw_38 tw_300) rfl rfl rfl (by decide +kernel) ⟨Nat.le_of_ble_eq_true rfl, Nat.le_of_ble_eq_true rfl⟩) (kPreV hM.1 hK (q := 18) hX.1 rfl) rfl rfl hl.1 rfl (lv_room (Nat.le_of_ble_eq_true rfl)) dL_law_775 ⟨hc9, hs9⟩) (fun r_775 e_775 => ?_)
  subst e_775
  refine lv_aload_n hx hb dL_law_778 rfl (lv_at hl 1 rfl) ?_
  refine vp_callSi (W.runV (C := RM) (As := []) (rest := [.int (f_X_holds x)]) ⟨hx, hb, hml, hown, hts⟩ (c_M_holds l D cI cL cQ d κ ms hm hB.1 _  ) (cwV 0 hts (k_gV tw_591 tw_592 tw_593 tw_41 tw_594) rfl rfl rfl (by decide +kernel) ⟨Nat.le_of_ble_eq_true rfl, Nat.le_of_ble_eq_true rfl⟩) (kPreV hM.1 hK (q := 0) hm.1 rfl) rfl rfl hl.1 rfl (lv_room (Nat.le_of_ble_eq_true rfl)) dL_law_779 ⟨hc9, hs9⟩) (fun r_779 e_779 => ?_)
  subst e_779
  have hEQ := hs j ms x  hR.1 hR.2
  refine lv_icmp_eq (tgt := 943) hx hb dL_law_782 (by decide) (fun _ => ?_) (fun c => absurd hEQ.1 c)
  refine W.widen (k := cells + 3) (n := slots + 516) (by omega) (by omega) ?_
  exact next _ _ _ _ _ _ ls hM hm hX hEQ.2 hl
set_option maxHeartbeats 4000000 in
set_option maxRecDepth 100000 in
theorem lc_post {p : Program} {l : Launch} {e : Env} {s : State} {m : MethodId} {below : List Frame} {meth : Method} {c : Code} {D : va_G} {cI cL cQ : ClassId} {b L : Nat} {xs : Nat → Int32} (RR : Nat → MS → XS → Prop) (hRB : ∀ n ms x, RR n ms x → RB n ms x) (hs : ∀ (n : Nat) (ms : MS) (x : XS), RR n ms x → n < 512 → (g_X_post x).1 = (g_M_post ms).1 ∧ RR (n + 1) (g_M_post ms).2 (g_X_post x).2) (hL : L ≤ 3074) (C0 : lw_At p s m meth c b L xs) (hK : va_K D vCl (kT cI cL cQ) s) (j : Nat) (hj : 8 + 6 * j ≤ L) (d : Nat → Nat) (κ : Nat → Option va_E) (ms : MS) (x : XS) (H : Heap) (locs : List Loc) (ls : Array Slot) (cells slots : Nat) (hc8 : cells + 3 ≤ 600000) (hs8 : slots + 516 ≤ 7302250) (hM : kW D vCl d κ (fun q : Nat => s.heap.size ≤ q) s.heap H locs) (hm : IsM cI cL d κ ms) (hX : IsX cI cL cQ d κ x) (hR : RR j ms x) (hl : lv_has ls 4 [(3, .int (nI (2 + 6 * j))), (2, .ref (d 0)), (1, .ref (d 18)), (0, .ref b)]) (next : ∀ (d : Nat → Nat) (κ : Nat → Option va_E) (ms : MS) (x : XS) (H : Heap) (locs : List Loc) (ls : Array Slot), kW D vCl d κ (fun q : Nat => s.heap.size ≤ q) s.heap H locs → IsM cI cL d κ ms → IsX cI cL cQ d κ x → RR (j + 1) ms x → lv_has ls 4 [(3, .int (nI (2 + 6 * j))), (2, .ref (d 0)), (1, .ref (d 18)), (0, .ref b)] → W p l e room_1 s m #[Value.ref b] below meth c H locs (cells + 3) (slots + 516) (lw_Z below #[Value.ref b] s) (F0 m 943 ls [])) : W p l e room_1 s m #[Value.ref b] below meth c H locs cells slots (lw_Z below #[Value.ref b] s) (F0 m 787 ls []) := by
  obtain ⟨hx, hb, hr, hml, hown, hts0, hX0, hbl, hlocks, hgv⟩ := C0
  have hts : ∀ w ∈ lw_g, w.before #[Value.ref b] s = true := fun w h => hts0 w (List.mem_filter.mp h).1
  have hbA : ¬ (fun q : Nat => s.heap.size ≤ q) b := Nat.not_le.mpr hbl
  have hB := hRB j ms x hR
  have hR : RR j ms x ∧ j < 512 := ⟨hR, by omega⟩
  obtain ⟨hB5, hB6, hB7⟩ := hB.2.2
  have hm0 := hm
  have hc9 : cells + 0 ≤ room_1.cells := by show cells + 0 ≤ 600000; omega
  have hs9 : slots + 0 ≤ room_1.slots := by show slots + 0 ≤ 7302250; omega
  refine lv_aload_n hx hb dL_law_787 rfl (lv_at hl 2 rfl) ?_
  refine ka_ncalli (W.runV (C := RX) (As := []) (rest := []) ⟨hx, hb, hml, hown, hts⟩ (c_X_post l D cI cL cQ d κ x hX hB.2.1 _ ) (cwV 0 hts (k_gV tw_325 tw_326 tw_327 tw_38 tw_328) rfl rfl rfl (by decide +kernel) ⟨Nat.le_of_ble_eq_true rfl, Nat.le_of_ble_eq_true rfl⟩) (kPreV hM.1 hK (q := 18) hX.1 rfl) rfl rfl hl.1 rfl (lv_room (Nat.le_of_ble_eq_true rfl)) dL_law_788 ⟨hc9, hs9⟩) hM (fun _ h9 => h9) (fun r_788 κX H locs h1_788 hM => ?_)
  obtain ⟨er_788, hWX⟩ := h1_788
  subst er_788
  have hm := hm.keep (fun k hk => hWX.2 k hk) (fun _ _ => rfl)
  have hX := hWX.1
  refine lv_aload_n hx hb dL_law_791 rfl (lv_at hl 1 rfl) ?_
  refine ka_ncalli (W.runV (C := RM) (As := []) (rest := [.int ((g_X_post x).1)]) ⟨hx, hb, hml, hown, hts⟩ (c_M_post l D cI cL cQ d κX ms hm hB.1 _  (by omega) (by omega)) (cwV 0 hts (k_gV tw_608 tw_609 tw_610 tw_41 tw_611) rfl rfl rfl (by decide +kernel) ⟨Nat.le_of_ble_eq_true rfl, Nat.le_of_ble_eq_true rfl⟩) (kPreV hM.1 hK (q := 0) hm.1 rfl) rfl rfl hl.1 rfl (lv_room (Nat.le_of_ble_eq_true rfl)) dL_law_792 ⟨hc9, hs9⟩) hM (fun _ h9 => h9) (fun r_792 κM H locs h1_792 hM => ?_)
  obtain ⟨er_792, hWM⟩ := h1_792
  subst er_792
  have hX := hX.keep (fun k hk => hWM.2 k hk)
  have hm := hWM.1
  have hEQ := hs j ms x  hR.1 hR.2
  refine lv_icmp_eq (tgt := 943) hx hb dL_law_795 (by decide) (fun _ => ?_) (fun c => absurd hEQ.1 c)
  refine W.widen (k := cells + 3) (n := slots + 516) (by omega) (by omega) ?_
  exact next _ _ _ _ _ _ ls hM hm hX hEQ.2 hl
set_option maxHeartbeats 4000000 in
set_option maxRecDepth 100000 in
theorem lc_drop {p : Program} {l : Launch} {e : Env} {s : State} {m : MethodId} {below : List Frame} {meth : Method} {c : Code} {D : va_G} {cI cL cQ : ClassId} {b L : Nat} {xs : Nat → Int32} (RR : Nat → MS → XS → Prop) (hRB : ∀ n ms x, RR n ms x → RB n ms x) (hs : ∀ (n : Nat) (ms : MS) (x : XS), RR n ms x → n < 512 → (g_X_drop x).1 = (g_M_drop ms).1 ∧ RR (n + 1) (g_M_drop ms).2 (g_X_drop x).2) (hL : L ≤ 3074) (C0 : lw_At p s m meth c b L xs) (hK : va_K D vCl (kT cI cL cQ) s) (j : Nat) (hj : 8 + 6 * j ≤ L) (d : Nat → Nat) (κ : Nat → Option va_E) (ms : MS) (x : XS) (H : Heap) (locs : List Loc) (ls : Array Slot) (cells slots : Nat) (hc8 : cells + 3 ≤ 600000) (hs8 : slots + 516 ≤ 7302250) (hM : kW D vCl d κ (fun q : Nat => s.heap.size ≤ q) s.heap H locs) (hm : IsM cI cL d κ ms) (hX : IsX cI cL cQ d κ x) (hR : RR j ms x) (hl : lv_has ls 4 [(3, .int (nI (2 + 6 * j))), (2, .ref (d 0)), (1, .ref (d 18)), (0, .ref b)]) (next : ∀ (d : Nat → Nat) (κ : Nat → Option va_E) (ms : MS) (x : XS) (H : Heap) (locs : List Loc) (ls : Array Slot), kW D vCl d κ (fun q : Nat => s.heap.size ≤ q) s.heap H locs → IsM cI cL d κ ms → IsX cI cL cQ d κ x → RR (j + 1) ms x → lv_has ls 4 [(3, .int (nI (2 + 6 * j))), (2, .ref (d 0)), (1, .ref (d 18)), (0, .ref b)] → W p l e room_1 s m #[Value.ref b] below meth c H locs (cells + 3) (slots + 516) (lw_Z below #[Value.ref b] s) (F0 m 943 ls [])) : W p l e room_1 s m #[Value.ref b] below meth c H locs cells slots (lw_Z below #[Value.ref b] s) (F0 m 800 ls []) := by
  obtain ⟨hx, hb, hr, hml, hown, hts0, hX0, hbl, hlocks, hgv⟩ := C0
  have hts : ∀ w ∈ lw_g, w.before #[Value.ref b] s = true := fun w h => hts0 w (List.mem_filter.mp h).1
  have hbA : ¬ (fun q : Nat => s.heap.size ≤ q) b := Nat.not_le.mpr hbl
  have hB := hRB j ms x hR
  have hR : RR j ms x ∧ j < 512 := ⟨hR, by omega⟩
  obtain ⟨hB5, hB6, hB7⟩ := hB.2.2
  have hm0 := hm
  have hc9 : cells + 0 ≤ room_1.cells := by show cells + 0 ≤ 600000; omega
  have hs9 : slots + 0 ≤ room_1.slots := by show slots + 0 ≤ 7302250; omega
  refine lv_aload_n hx hb dL_law_800 rfl (lv_at hl 2 rfl) ?_
  refine ka_ncalli (W.runV (C := RX) (As := []) (rest := []) ⟨hx, hb, hml, hown, hts⟩ (c_X_drop l D cI cL cQ d κ x hX hB.2.1 _ ) (cwV 0 hts (k_gV tw_338 tw_339 tw_340 tw_38 tw_341) rfl rfl rfl (by decide +kernel) ⟨Nat.le_of_ble_eq_true rfl, Nat.le_of_ble_eq_true rfl⟩) (kPreV hM.1 hK (q := 18) hX.1 rfl) rfl rfl hl.1 rfl (lv_room (Nat.le_of_ble_eq_true rfl)) dL_law_801 ⟨hc9, hs9⟩) hM (fun _ h9 => h9) (fun r_801 κX H locs h1_801 hM => ?_)
  obtain ⟨er_801, hWX⟩ := h1_801
  subst er_801
  have hm := hm.keep (fun k hk => hWX.2 k hk) (fun _ _ => rfl)
  have hX := hWX.1
  refine lv_aload_n hx hb dL_law_804 rfl (lv_at hl 1 rfl) ?_
  refine ka_ncalli (W.runV (C := RM) (As := []) (rest := [.int ((g_X_drop x).1)]) ⟨hx, hb, hml, hown, hts⟩ (c_M_drop l D cI cL cQ d κX ms hm hB.1 _  ) (cwV 0 hts (k_gV tw_582 tw_583 tw_584 tw_41 tw_585) rfl rfl rfl (by decide +kernel) ⟨Nat.le_of_ble_eq_true rfl, Nat.le_of_ble_eq_true rfl⟩) (kPreV hM.1 hK (q := 0) hm.1 rfl) rfl rfl hl.1 rfl (lv_room (Nat.le_of_ble_eq_true rfl)) dL_law_805 ⟨hc9, hs9⟩) hM (fun _ h9 => h9) (fun r_805 κM H locs h1_805 hM => ?_)
  obtain ⟨er_805, hWM⟩ := h1_805
  subst er_805
  have hX := hX.keep (fun k hk => hWM.2 k hk)
  have hm := hWM.1
  have hEQ := hs j ms x  hR.1 hR.2
  refine lv_icmp_eq (tgt := 943) hx hb dL_law_808 (by decide) (fun _ => ?_) (fun c => absurd hEQ.1 c)
  refine W.widen (k := cells + 3) (n := slots + 516) (by omega) (by omega) ?_
  exact next _ _ _ _ _ _ ls hM hm hX hEQ.2 hl
set_option maxHeartbeats 4000000 in
set_option maxRecDepth 100000 in
theorem lc_net {p : Program} {l : Launch} {e : Env} {s : State} {m : MethodId} {below : List Frame} {meth : Method} {c : Code} {D : va_G} {cI cL cQ : ClassId} {b L : Nat} {xs : Nat → Int32} (RR : Nat → MS → XS → Prop) (hRB : ∀ n ms x, RR n ms x → RB n ms x) (hs : ∀ (n : Nat) (ms : MS) (x : XS) (v0 : Int32), RR n ms x → n < 512 → f_X_net x v0 = f_M_net ms v0 ∧ RR (n + 1) ms x) (hL : L ≤ 3074) (C0 : lw_At p s m meth c b L xs) (hK : va_K D vCl (kT cI cL cQ) s) (j : Nat) (hj : 8 + 6 * j ≤ L) (d : Nat → Nat) (κ : Nat → Option va_E) (ms : MS) (x : XS) (H : Heap) (locs : List Loc) (ls : Array Slot) (cells slots : Nat) (hc8 : cells + 3 ≤ 600000) (hs8 : slots + 516 ≤ 7302250) (hM : kW D vCl d κ (fun q : Nat => s.heap.size ≤ q) s.heap H locs) (hm : IsM cI cL d κ ms) (hX : IsX cI cL cQ d κ x) (hR : RR j ms x) (hl : lv_has ls 4 [(3, .int (nI (2 + 6 * j))), (2, .ref (d 0)), (1, .ref (d 18)), (0, .ref b)]) (next : ∀ (d : Nat → Nat) (κ : Nat → Option va_E) (ms : MS) (x : XS) (H : Heap) (locs : List Loc) (ls : Array Slot), kW D vCl d κ (fun q : Nat => s.heap.size ≤ q) s.heap H locs → IsM cI cL d κ ms → IsX cI cL cQ d κ x → RR (j + 1) ms x → lv_has ls 4 [(3, .int (nI (2 + 6 * j))), (2, .ref (d 0)), (1, .ref (d 18)), (0, .ref b)] → W p l e room_1 s m #[Value.ref b] below meth c H locs (cells + 3) (slots + 516) (lw_Z below #[Value.ref b] s) (F0 m 943 ls [])) : W p l e room_1 s m #[Value.ref b] below meth c H locs cells slots (lw_Z below #[Value.ref b] s) (F0 m 813 ls []) := by
  obtain ⟨hx, hb, hr, hml, hown, hts0, hX0, hbl, hlocks, hgv⟩ := C0
  have hts : ∀ w ∈ lw_g, w.before #[Value.ref b] s = true := fun w h => hts0 w (List.mem_filter.mp h).1
  have hbA : ¬ (fun q : Nat => s.heap.size ≤ q) b := Nat.not_le.mpr hbl
  have hB := hRB j ms x hR
  have hR : RR j ms x ∧ j < 512 := ⟨hR, by omega⟩
  obtain ⟨hB5, hB6, hB7⟩ := hB.2.2
  have hm0 := hm
  have hc9 : cells + 0 ≤ room_1.cells := by show cells + 0 ≤ 600000; omega
  have hs9 : slots + 0 ≤ room_1.slots := by show slots + 0 ≤ 7302250; omega
  refine lv_aload_n hx hb dL_law_813 rfl (lv_at hl 2 rfl) ?_
  refine lv_aload_n hx hb dL_law_814 rfl (lv_at hl 3 rfl) ?_
  refine lv_iload_n hx hb dL_law_815 rfl (lv_at hl 0 rfl) ?_
  refine lv_iconst (v := 1) hx hb dL_law_816 (by decide) ?_
  refine lv_iadd hx hb dL_law_817 ?_
  refine k_topi (show nI (2 + 6 * j) + 1 = nI ((2 + 6 * j) + 1) from nI_add _ _) ?_
  refine va_sld hx hb hX0 hbl hbA hM.2.2 (vp_in_nI (by omega) (by omega)) dL_law_818 ?_
  refine vp_callSl (W.runV (C := RX) (As := [.int (xs (nI ((2 + 6 * j) + 1)).toNatClampNeg)]) (rest := []) ⟨hx, hb, hml, hown, hts⟩ (c_X_net l D cI cL cQ d κ x hX hB.2.1 _ (xs (nI ((2 + 6 * j) + 1)).toNatClampNeg)) (cwV 1 hts (k_gV tw_342 tw_343 tw_344 tw_38 tw_345) rfl rfl rfl (by decide +kernel) ⟨Nat.le_of_ble_eq_true rfl, Nat.le_of_ble_eq_true rfl⟩) (kPreV hM.1 hK (q := 18) hX.1 rfl) rfl rfl hl.1 rfl (lv_room (Nat.le_of_ble_eq_true rfl)) dL_law_819 ⟨hc9, hs9⟩) (fun r_819 e_819 => ?_)
  subst e_819
  refine lv_aload_n hx hb dL_law_822 rfl (lv_at hl 1 rfl) ?_
  refine lv_aload_n hx hb dL_law_823 rfl (lv_at hl 3 rfl) ?_
  refine lv_iload_n hx hb dL_law_824 rfl (lv_at hl 0 rfl) ?_
  refine lv_iconst (v := 1) hx hb dL_law_825 (by decide) ?_
  refine lv_iadd hx hb dL_law_826 ?_
  refine k_topi (show nI (2 + 6 * j) + 1 = nI ((2 + 6 * j) + 1) from nI_add _ _) ?_
  refine va_sld hx hb hX0 hbl hbA hM.2.2 (vp_in_nI (by omega) (by omega)) dL_law_827 ?_
  refine vp_callSl (W.runV (C := RM) (As := [.int (xs (nI ((2 + 6 * j) + 1)).toNatClampNeg)]) (rest := [.long (f_X_net x (xs (nI ((2 + 6 * j) + 1)).toNatClampNeg))]) ⟨hx, hb, hml, hown, hts⟩ (c_M_net l D cI cL cQ d κ ms hm hB.1 _ (xs (nI ((2 + 6 * j) + 1)).toNatClampNeg) ) (cwV 1 hts (k_gV tw_586 tw_587 tw_588 tw_41 tw_589) rfl rfl rfl (by decide +kernel) ⟨Nat.le_of_ble_eq_true rfl, Nat.le_of_ble_eq_true rfl⟩) (kPreV hM.1 hK (q := 0) hm.1 rfl) rfl rfl hl.1 rfl (lv_room (Nat.le_of_ble_eq_true rfl)) dL_law_828 ⟨hc9, hs9⟩) (fun r_828 e_828 => ?_)
  subst e_828
  have hEQ := hs j ms x (xs (nI ((2 + 6 * j) + 1)).toNatClampNeg) hR.1 hR.2
  refine kl_eq (tgt := 943) hx hb dL_law_831 dL_law_832 (by decide) (fun _ => ?_) (fun c => absurd hEQ.1 c)
  refine W.widen (k := cells + 3) (n := slots + 516) (by omega) (by omega) ?_
  exact next _ _ _ _ _ _ ls hM hm hX hEQ.2 hl
set_option maxHeartbeats 4000000 in
set_option maxRecDepth 100000 in
theorem lc_value {p : Program} {l : Launch} {e : Env} {s : State} {m : MethodId} {below : List Frame} {meth : Method} {c : Code} {D : va_G} {cI cL cQ : ClassId} {b L : Nat} {xs : Nat → Int32} (RR : Nat → MS → XS → Prop) (hRB : ∀ n ms x, RR n ms x → RB n ms x) (hs : ∀ (n : Nat) (ms : MS) (x : XS) (v0 : Int32), RR n ms x → n < 512 → f_X_value x v0 = f_M_value ms v0 ∧ RR (n + 1) ms x) (hL : L ≤ 3074) (C0 : lw_At p s m meth c b L xs) (hK : va_K D vCl (kT cI cL cQ) s) (j : Nat) (hj : 8 + 6 * j ≤ L) (d : Nat → Nat) (κ : Nat → Option va_E) (ms : MS) (x : XS) (H : Heap) (locs : List Loc) (ls : Array Slot) (cells slots : Nat) (hc8 : cells + 3 ≤ 600000) (hs8 : slots + 516 ≤ 7302250) (hM : kW D vCl d κ (fun q : Nat => s.heap.size ≤ q) s.heap H locs) (hm : IsM cI cL d κ ms) (hX : IsX cI cL cQ d κ x) (hR : RR j ms x) (hl : lv_has ls 4 [(3, .int (nI (2 + 6 * j))), (2, .ref (d 0)), (1, .ref (d 18)), (0, .ref b)]) (next : ∀ (d : Nat → Nat) (κ : Nat → Option va_E) (ms : MS) (x : XS) (H : Heap) (locs : List Loc) (ls : Array Slot), kW D vCl d κ (fun q : Nat => s.heap.size ≤ q) s.heap H locs → IsM cI cL d κ ms → IsX cI cL cQ d κ x → RR (j + 1) ms x → lv_has ls 4 [(3, .int (nI (2 + 6 * j))), (2, .ref (d 0)), (1, .ref (d 18)), (0, .ref b)] → W p l e room_1 s m #[Value.ref b] below meth c H locs (cells + 3) (slots + 516) (lw_Z below #[Value.ref b] s) (F0 m 943 ls [])) : W p l e room_1 s m #[Value.ref b] below meth c H locs cells slots (lw_Z below #[Value.ref b] s) (F0 m 837 ls []) := by
  obtain ⟨hx, hb, hr, hml, hown, hts0, hX0, hbl, hlocks, hgv⟩ := C0
  have hts : ∀ w ∈ lw_g, w.before #[Value.ref b] s = true := fun w h => hts0 w (List.mem_filter.mp h).1
  have hbA : ¬ (fun q : Nat => s.heap.size ≤ q) b := Nat.not_le.mpr hbl
  have hB := hRB j ms x hR
  have hR : RR j ms x ∧ j < 512 := ⟨hR, by omega⟩
  obtain ⟨hB5, hB6, hB7⟩ := hB.2.2
  have hm0 := hm
  have hc9 : cells + 0 ≤ room_1.cells := by show cells + 0 ≤ 600000; omega
  have hs9 : slots + 0 ≤ room_1.slots := by show slots + 0 ≤ 7302250; omega
  refine lv_aload_n hx hb dL_law_837 rfl (lv_at hl 2 rfl) ?_
  refine lv_aload_n hx hb dL_law_838 rfl (lv_at hl 3 rfl) ?_
  refine lv_iload_n hx hb dL_law_839 rfl (lv_at hl 0 rfl) ?_
  refine lv_iconst (v := 1) hx hb dL_law_840 (by decide) ?_
  refine lv_iadd hx hb dL_law_841 ?_
  refine k_topi (show nI (2 + 6 * j) + 1 = nI ((2 + 6 * j) + 1) from nI_add _ _) ?_
  refine va_sld hx hb hX0 hbl hbA hM.2.2 (vp_in_nI (by omega) (by omega)) dL_law_842 ?_
  refine vp_callSl (W.runV (C := RX) (As := [.int (xs (nI ((2 + 6 * j) + 1)).toNatClampNeg)]) (rest := []) ⟨hx, hb, hml, hown, hts⟩ (c_X_value l D cI cL cQ d κ x hX hB.2.1 _ (xs (nI ((2 + 6 * j) + 1)).toNatClampNeg)) (cwV 1 hts (k_gV tw_362 tw_363 tw_364 tw_38 tw_365) rfl rfl rfl (by decide +kernel) ⟨Nat.le_of_ble_eq_true rfl, Nat.le_of_ble_eq_true rfl⟩) (kPreV hM.1 hK (q := 18) hX.1 rfl) rfl rfl hl.1 rfl (lv_room (Nat.le_of_ble_eq_true rfl)) dL_law_843 ⟨hc9, hs9⟩) (fun r_843 e_843 => ?_)
  subst e_843
  refine lv_aload_n hx hb dL_law_846 rfl (lv_at hl 1 rfl) ?_
  refine lv_aload_n hx hb dL_law_847 rfl (lv_at hl 3 rfl) ?_
  refine lv_iload_n hx hb dL_law_848 rfl (lv_at hl 0 rfl) ?_
  refine lv_iconst (v := 1) hx hb dL_law_849 (by decide) ?_
  refine lv_iadd hx hb dL_law_850 ?_
  refine k_topi (show nI (2 + 6 * j) + 1 = nI ((2 + 6 * j) + 1) from nI_add _ _) ?_
  refine va_sld hx hb hX0 hbl hbA hM.2.2 (vp_in_nI (by omega) (by omega)) dL_law_851 ?_
  refine vp_callSl (W.runV (C := RM) (As := [.int (xs (nI ((2 + 6 * j) + 1)).toNatClampNeg)]) (rest := [.long (f_X_value x (xs (nI ((2 + 6 * j) + 1)).toNatClampNeg))]) ⟨hx, hb, hml, hown, hts⟩ (c_M_value l D cI cL cQ d κ ms hm hB.1 _ (xs (nI ((2 + 6 * j) + 1)).toNatClampNeg) ) (cwV 1 hts (k_gV tw_613 tw_601 tw_602 tw_41 tw_603) rfl rfl rfl (by decide +kernel) ⟨Nat.le_of_ble_eq_true rfl, Nat.le_of_ble_eq_true rfl⟩) (kPreV hM.1 hK (q := 0) hm.1 rfl) rfl rfl hl.1 rfl (lv_room (Nat.le_of_ble_eq_true rfl)) dL_law_852 ⟨hc9, hs9⟩) (fun r_852 e_852 => ?_)
  subst e_852
  have hEQ := hs j ms x (xs (nI ((2 + 6 * j) + 1)).toNatClampNeg) hR.1 hR.2
  refine kl_eq (tgt := 943) hx hb dL_law_855 dL_law_856 (by decide) (fun _ => ?_) (fun c => absurd hEQ.1 c)
  refine W.widen (k := cells + 3) (n := slots + 516) (by omega) (by omega) ?_
  exact next _ _ _ _ _ _ ls hM hm hX hEQ.2 hl
set_option maxHeartbeats 4000000 in
set_option maxRecDepth 100000 in
theorem lc_floor {p : Program} {l : Launch} {e : Env} {s : State} {m : MethodId} {below : List Frame} {meth : Method} {c : Code} {D : va_G} {cI cL cQ : ClassId} {b L : Nat} {xs : Nat → Int32} (RR : Nat → MS → XS → Prop) (hRB : ∀ n ms x, RR n ms x → RB n ms x) (hs : ∀ (n : Nat) (ms : MS) (x : XS) (v0 : Int32), RR n ms x → n < 512 → f_X_floor x v0 = f_M_floor ms v0 ∧ RR (n + 1) ms x) (hL : L ≤ 3074) (C0 : lw_At p s m meth c b L xs) (hK : va_K D vCl (kT cI cL cQ) s) (j : Nat) (hj : 8 + 6 * j ≤ L) (d : Nat → Nat) (κ : Nat → Option va_E) (ms : MS) (x : XS) (H : Heap) (locs : List Loc) (ls : Array Slot) (cells slots : Nat) (hc8 : cells + 3 ≤ 600000) (hs8 : slots + 516 ≤ 7302250) (hM : kW D vCl d κ (fun q : Nat => s.heap.size ≤ q) s.heap H locs) (hm : IsM cI cL d κ ms) (hX : IsX cI cL cQ d κ x) (hR : RR j ms x) (hl : lv_has ls 4 [(3, .int (nI (2 + 6 * j))), (2, .ref (d 0)), (1, .ref (d 18)), (0, .ref b)]) (next : ∀ (d : Nat → Nat) (κ : Nat → Option va_E) (ms : MS) (x : XS) (H : Heap) (locs : List Loc) (ls : Array Slot), kW D vCl d κ (fun q : Nat => s.heap.size ≤ q) s.heap H locs → IsM cI cL d κ ms → IsX cI cL cQ d κ x → RR (j + 1) ms x → lv_has ls 4 [(3, .int (nI (2 + 6 * j))), (2, .ref (d 0)), (1, .ref (d 18)), (0, .ref b)] → W p l e room_1 s m #[Value.ref b] below meth c H locs (cells + 3) (slots + 516) (lw_Z below #[Value.ref b] s) (F0 m 943 ls [])) : W p l e room_1 s m #[Value.ref b] below meth c H locs cells slots (lw_Z below #[Value.ref b] s) (F0 m 861 ls []) := by
  obtain ⟨hx, hb, hr, hml, hown, hts0, hX0, hbl, hlocks, hgv⟩ := C0
  have hts : ∀ w ∈ lw_g, w.before #[Value.ref b] s = true := fun w h => hts0 w (List.mem_filter.mp h).1
  have hbA : ¬ (fun q : Nat => s.heap.size ≤ q) b := Nat.not_le.mpr hbl
  have hB := hRB j ms x hR
  have hR : RR j ms x ∧ j < 512 := ⟨hR, by omega⟩
  obtain ⟨hB5, hB6, hB7⟩ := hB.2.2
  have hm0 := hm
  have hc9 : cells + 0 ≤ room_1.cells := by show cells + 0 ≤ 600000; omega
  have hs9 : slots + 0 ≤ room_1.slots := by show slots + 0 ≤ 7302250; omega
  refine lv_aload_n hx hb dL_law_861 rfl (lv_at hl 2 rfl) ?_
  refine lv_aload_n hx hb dL_law_862 rfl (lv_at hl 3 rfl) ?_
  refine lv_iload_n hx hb dL_law_863 rfl (lv_at hl 0 rfl) ?_
  refine lv_iconst (v := 1) hx hb dL_law_864 (by decide) ?_
  refine lv_iadd hx hb dL_law_865 ?_
  refine k_topi (show nI (2 + 6 * j) + 1 = nI ((2 + 6 * j) + 1) from nI_add _ _) ?_
  refine va_sld hx hb hX0 hbl hbA hM.2.2 (vp_in_nI (by omega) (by omega)) dL_law_866 ?_
  refine vp_callSl (W.runV (C := RX) (As := [.int (xs (nI ((2 + 6 * j) + 1)).toNatClampNeg)]) (rest := []) ⟨hx, hb, hml, hown, hts⟩ (c_X_floor l D cI cL cQ d κ x hX hB.2.1 _ (xs (nI ((2 + 6 * j) + 1)).toNatClampNeg)) (cwV 1 hts (k_gV tw_366 tw_367 tw_368 tw_38 tw_369) rfl rfl rfl (by decide +kernel) ⟨Nat.le_of_ble_eq_true rfl, Nat.le_of_ble_eq_true rfl⟩) (kPreV hM.1 hK (q := 18) hX.1 rfl) rfl rfl hl.1 rfl (lv_room (Nat.le_of_ble_eq_true rfl)) dL_law_867 ⟨hc9, hs9⟩) (fun r_867 e_867 => ?_)
  subst e_867
  refine lv_aload_n hx hb dL_law_870 rfl (lv_at hl 1 rfl) ?_
  refine lv_aload_n hx hb dL_law_871 rfl (lv_at hl 3 rfl) ?_
  refine lv_iload_n hx hb dL_law_872 rfl (lv_at hl 0 rfl) ?_
  refine lv_iconst (v := 1) hx hb dL_law_873 (by decide) ?_
  refine lv_iadd hx hb dL_law_874 ?_
  refine k_topi (show nI (2 + 6 * j) + 1 = nI ((2 + 6 * j) + 1) from nI_add _ _) ?_
  refine va_sld hx hb hX0 hbl hbA hM.2.2 (vp_in_nI (by omega) (by omega)) dL_law_875 ?_
  refine vp_callSl (W.runV (C := RM) (As := [.int (xs (nI ((2 + 6 * j) + 1)).toNatClampNeg)]) (rest := [.long (f_X_floor x (xs (nI ((2 + 6 * j) + 1)).toNatClampNeg))]) ⟨hx, hb, hml, hown, hts⟩ (c_M_floor l D cI cL cQ d κ ms hm hB.1 _ (xs (nI ((2 + 6 * j) + 1)).toNatClampNeg) ) (cwV 1 hts (k_gV tw_614 tw_605 tw_606 tw_41 tw_607) rfl rfl rfl (by decide +kernel) ⟨Nat.le_of_ble_eq_true rfl, Nat.le_of_ble_eq_true rfl⟩) (kPreV hM.1 hK (q := 0) hm.1 rfl) rfl rfl hl.1 rfl (lv_room (Nat.le_of_ble_eq_true rfl)) dL_law_876 ⟨hc9, hs9⟩) (fun r_876 e_876 => ?_)
  subst e_876
  have hEQ := hs j ms x (xs (nI ((2 + 6 * j) + 1)).toNatClampNeg) hR.1 hR.2
  refine kl_eq (tgt := 943) hx hb dL_law_879 dL_law_880 (by decide) (fun _ => ?_) (fun c => absurd hEQ.1 c)
  refine W.widen (k := cells + 3) (n := slots + 516) (by omega) (by omega) ?_
  exact next _ _ _ _ _ _ ls hM hm hX hEQ.2 hl
set_option maxHeartbeats 4000000 in
set_option maxRecDepth 100000 in
theorem lc_isThere {p : Program} {l : Launch} {e : Env} {s : State} {m : MethodId} {below : List Frame} {meth : Method} {c : Code} {D : va_G} {cI cL cQ : ClassId} {b L : Nat} {xs : Nat → Int32} (RR : Nat → MS → XS → Prop) (hRB : ∀ n ms x, RR n ms x → RB n ms x) (hs : ∀ (n : Nat) (ms : MS) (x : XS) (v0 : Int32), RR n ms x → n < 512 → f_X_isThere x v0 = f_M_isThere ms v0 ∧ RR (n + 1) ms x) (hL : L ≤ 3074) (C0 : lw_At p s m meth c b L xs) (hK : va_K D vCl (kT cI cL cQ) s) (j : Nat) (hj : 8 + 6 * j ≤ L) (d : Nat → Nat) (κ : Nat → Option va_E) (ms : MS) (x : XS) (H : Heap) (locs : List Loc) (ls : Array Slot) (cells slots : Nat) (hc8 : cells + 3 ≤ 600000) (hs8 : slots + 516 ≤ 7302250) (hM : kW D vCl d κ (fun q : Nat => s.heap.size ≤ q) s.heap H locs) (hm : IsM cI cL d κ ms) (hX : IsX cI cL cQ d κ x) (hR : RR j ms x) (hl : lv_has ls 4 [(3, .int (nI (2 + 6 * j))), (2, .ref (d 0)), (1, .ref (d 18)), (0, .ref b)]) (next : ∀ (d : Nat → Nat) (κ : Nat → Option va_E) (ms : MS) (x : XS) (H : Heap) (locs : List Loc) (ls : Array Slot), kW D vCl d κ (fun q : Nat => s.heap.size ≤ q) s.heap H locs → IsM cI cL d κ ms → IsX cI cL cQ d κ x → RR (j + 1) ms x → lv_has ls 4 [(3, .int (nI (2 + 6 * j))), (2, .ref (d 0)), (1, .ref (d 18)), (0, .ref b)] → W p l e room_1 s m #[Value.ref b] below meth c H locs (cells + 3) (slots + 516) (lw_Z below #[Value.ref b] s) (F0 m 943 ls [])) : W p l e room_1 s m #[Value.ref b] below meth c H locs cells slots (lw_Z below #[Value.ref b] s) (F0 m 885 ls []) := by
  obtain ⟨hx, hb, hr, hml, hown, hts0, hX0, hbl, hlocks, hgv⟩ := C0
  have hts : ∀ w ∈ lw_g, w.before #[Value.ref b] s = true := fun w h => hts0 w (List.mem_filter.mp h).1
  have hbA : ¬ (fun q : Nat => s.heap.size ≤ q) b := Nat.not_le.mpr hbl
  have hB := hRB j ms x hR
  have hR : RR j ms x ∧ j < 512 := ⟨hR, by omega⟩
  obtain ⟨hB5, hB6, hB7⟩ := hB.2.2
  have hm0 := hm
  have hc9 : cells + 0 ≤ room_1.cells := by show cells + 0 ≤ 600000; omega
  have hs9 : slots + 0 ≤ room_1.slots := by show slots + 0 ≤ 7302250; omega
  refine lv_aload_n hx hb dL_law_885 rfl (lv_at hl 2 rfl) ?_
  refine lv_aload_n hx hb dL_law_886 rfl (lv_at hl 3 rfl) ?_
  refine lv_iload_n hx hb dL_law_887 rfl (lv_at hl 0 rfl) ?_
  refine lv_iconst (v := 1) hx hb dL_law_888 (by decide) ?_
  refine lv_iadd hx hb dL_law_889 ?_
  refine k_topi (show nI (2 + 6 * j) + 1 = nI ((2 + 6 * j) + 1) from nI_add _ _) ?_
  refine va_sld hx hb hX0 hbl hbA hM.2.2 (vp_in_nI (by omega) (by omega)) dL_law_890 ?_
  refine vp_callSi (W.runV (C := RX) (As := [.int (xs (nI ((2 + 6 * j) + 1)).toNatClampNeg)]) (rest := []) ⟨hx, hb, hml, hown, hts⟩ (c_X_isThere l D cI cL cQ d κ x hX hB.2.1 _ (xs (nI ((2 + 6 * j) + 1)).toNatClampNeg)) (cwV 1 hts (k_gV tw_370 tw_347 tw_348 tw_38 tw_349) rfl rfl rfl (by decide +kernel) ⟨Nat.le_of_ble_eq_true rfl, Nat.le_of_ble_eq_true rfl⟩) (kPreV hM.1 hK (q := 18) hX.1 rfl) rfl rfl hl.1 rfl (lv_room (Nat.le_of_ble_eq_true rfl)) dL_law_891 ⟨hc9, hs9⟩) (fun r_891 e_891 => ?_)
  subst e_891
  refine lv_aload_n hx hb dL_law_894 rfl (lv_at hl 1 rfl) ?_
  refine lv_aload_n hx hb dL_law_895 rfl (lv_at hl 3 rfl) ?_
  refine lv_iload_n hx hb dL_law_896 rfl (lv_at hl 0 rfl) ?_
  refine lv_iconst (v := 1) hx hb dL_law_897 (by decide) ?_
  refine lv_iadd hx hb dL_law_898 ?_
  refine k_topi (show nI (2 + 6 * j) + 1 = nI ((2 + 6 * j) + 1) from nI_add _ _) ?_
  refine va_sld hx hb hX0 hbl hbA hM.2.2 (vp_in_nI (by omega) (by omega)) dL_law_899 ?_
  refine vp_callSi (W.runV (C := RM) (As := [.int (xs (nI ((2 + 6 * j) + 1)).toNatClampNeg)]) (rest := [.int (f_X_isThere x (xs (nI ((2 + 6 * j) + 1)).toNatClampNeg))]) ⟨hx, hb, hml, hown, hts⟩ (c_M_isThere l D cI cL cQ d κ ms hm hB.1 _ (xs (nI ((2 + 6 * j) + 1)).toNatClampNeg) ) (cwV 1 hts (k_gV tw_463 tw_464 tw_465 tw_41 tw_466) rfl rfl rfl (by decide +kernel) ⟨Nat.le_of_ble_eq_true rfl, Nat.le_of_ble_eq_true rfl⟩) (kPreV hM.1 hK (q := 0) hm.1 rfl) rfl rfl hl.1 rfl (lv_room (Nat.le_of_ble_eq_true rfl)) dL_law_900 ⟨hc9, hs9⟩) (fun r_900 e_900 => ?_)
  subst e_900
  have hEQ := hs j ms x (xs (nI ((2 + 6 * j) + 1)).toNatClampNeg) hR.1 hR.2
  refine lv_icmp_eq (tgt := 943) hx hb dL_law_903 (by decide) (fun _ => ?_) (fun c => absurd hEQ.1 c)
  refine W.widen (k := cells + 3) (n := slots + 516) (by omega) (by omega) ?_
  exact next _ _ _ _ _ _ ls hM hm hX hEQ.2 hl
set_option maxHeartbeats 4000000 in
set_option maxRecDepth 100000 in
theorem lc_credit {p : Program} {l : Launch} {e : Env} {s : State} {m : MethodId} {below : List Frame} {meth : Method} {c : Code} {D : va_G} {cI cL cQ : ClassId} {b L : Nat} {xs : Nat → Int32} (RR : Nat → MS → XS → Prop) (hRB : ∀ n ms x, RR n ms x → RB n ms x) (hs : ∀ (n : Nat) (ms : MS) (x : XS) (v0 : Int32), RR n ms x → n < 512 → f_X_credit x v0 = f_M_credit ms v0 ∧ RR (n + 1) ms x) (hL : L ≤ 3074) (C0 : lw_At p s m meth c b L xs) (hK : va_K D vCl (kT cI cL cQ) s) (j : Nat) (hj : 8 + 6 * j ≤ L) (d : Nat → Nat) (κ : Nat → Option va_E) (ms : MS) (x : XS) (H : Heap) (locs : List Loc) (ls : Array Slot) (cells slots : Nat) (hc8 : cells + 3 ≤ 600000) (hs8 : slots + 516 ≤ 7302250) (hM : kW D vCl d κ (fun q : Nat => s.heap.size ≤ q) s.heap H locs) (hm : IsM cI cL d κ ms) (hX : IsX cI cL cQ d κ x) (hR : RR j ms x) (hl : lv_has ls 4 [(3, .int (nI (2 + 6 * j))), (2, .ref (d 0)), (1, .ref (d 18)), (0, .ref b)]) (next : ∀ (d : Nat → Nat) (κ : Nat → Option va_E) (ms : MS) (x : XS) (H : Heap) (locs : List Loc) (ls : Array Slot), kW D vCl d κ (fun q : Nat => s.heap.size ≤ q) s.heap H locs → IsM cI cL d κ ms → IsX cI cL cQ d κ x → RR (j + 1) ms x → lv_has ls 4 [(3, .int (nI (2 + 6 * j))), (2, .ref (d 0)), (1, .ref (d 18)), (0, .ref b)] → W p l e room_1 s m #[Value.ref b] below meth c H locs (cells + 3) (slots + 516) (lw_Z below #[Value.ref b] s) (F0 m 943 ls [])) : W p l e room_1 s m #[Value.ref b] below meth c H locs cells slots (lw_Z below #[Value.ref b] s) (F0 m 908 ls []) := by
  obtain ⟨hx, hb, hr, hml, hown, hts0, hX0, hbl, hlocks, hgv⟩ := C0
  have hts : ∀ w ∈ lw_g, w.before #[Value.ref b] s = true := fun w h => hts0 w (List.mem_filter.mp h).1
  have hbA : ¬ (fun q : Nat => s.heap.size ≤ q) b := Nat.not_le.mpr hbl
  have hB := hRB j ms x hR
  have hR : RR j ms x ∧ j < 512 := ⟨hR, by omega⟩
  obtain ⟨hB5, hB6, hB7⟩ := hB.2.2
  have hm0 := hm
  have hc9 : cells + 0 ≤ room_1.cells := by show cells + 0 ≤ 600000; omega
  have hs9 : slots + 0 ≤ room_1.slots := by show slots + 0 ≤ 7302250; omega
  refine lv_aload_n hx hb dL_law_908 rfl (lv_at hl 2 rfl) ?_
  refine lv_aload_n hx hb dL_law_909 rfl (lv_at hl 3 rfl) ?_
  refine lv_iload_n hx hb dL_law_910 rfl (lv_at hl 0 rfl) ?_
  refine lv_iconst (v := 1) hx hb dL_law_911 (by decide) ?_
  refine lv_iadd hx hb dL_law_912 ?_
  refine k_topi (show nI (2 + 6 * j) + 1 = nI ((2 + 6 * j) + 1) from nI_add _ _) ?_
  refine va_sld hx hb hX0 hbl hbA hM.2.2 (vp_in_nI (by omega) (by omega)) dL_law_913 ?_
  refine vp_callSl (W.runV (C := RX) (As := [.int (xs (nI ((2 + 6 * j) + 1)).toNatClampNeg)]) (rest := []) ⟨hx, hb, hml, hown, hts⟩ (c_X_credit l D cI cL cQ d κ x hX hB.2.1 _ (xs (nI ((2 + 6 * j) + 1)).toNatClampNeg)) (cwV 1 hts (k_gV tw_371 tw_372 tw_373 tw_38 tw_374) rfl rfl rfl (by decide +kernel) ⟨Nat.le_of_ble_eq_true rfl, Nat.le_of_ble_eq_true rfl⟩) (kPreV hM.1 hK (q := 18) hX.1 rfl) rfl rfl hl.1 rfl (lv_room (Nat.le_of_ble_eq_true rfl)) dL_law_914 ⟨hc9, hs9⟩) (fun r_914 e_914 => ?_)
  subst e_914
  refine lv_aload_n hx hb dL_law_917 rfl (lv_at hl 1 rfl) ?_
  refine lv_aload_n hx hb dL_law_918 rfl (lv_at hl 3 rfl) ?_
  refine lv_iload_n hx hb dL_law_919 rfl (lv_at hl 0 rfl) ?_
  refine lv_iconst (v := 1) hx hb dL_law_920 (by decide) ?_
  refine lv_iadd hx hb dL_law_921 ?_
  refine k_topi (show nI (2 + 6 * j) + 1 = nI ((2 + 6 * j) + 1) from nI_add _ _) ?_
  refine va_sld hx hb hX0 hbl hbA hM.2.2 (vp_in_nI (by omega) (by omega)) dL_law_922 ?_
  refine vp_callSl (W.runV (C := RM) (As := [.int (xs (nI ((2 + 6 * j) + 1)).toNatClampNeg)]) (rest := [.long (f_X_credit x (xs (nI ((2 + 6 * j) + 1)).toNatClampNeg))]) ⟨hx, hb, hml, hown, hts⟩ (c_M_credit l D cI cL cQ d κ ms hm hB.1 _ (xs (nI ((2 + 6 * j) + 1)).toNatClampNeg) ) (cwV 1 hts (k_gV tw_615 tw_616 tw_617 tw_41 tw_618) rfl rfl rfl (by decide +kernel) ⟨Nat.le_of_ble_eq_true rfl, Nat.le_of_ble_eq_true rfl⟩) (kPreV hM.1 hK (q := 0) hm.1 rfl) rfl rfl hl.1 rfl (lv_room (Nat.le_of_ble_eq_true rfl)) dL_law_923 ⟨hc9, hs9⟩) (fun r_923 e_923 => ?_)
  subst e_923
  have hEQ := hs j ms x (xs (nI ((2 + 6 * j) + 1)).toNatClampNeg) hR.1 hR.2
  refine kl_eq (tgt := 943) hx hb dL_law_926 dL_law_927 (by decide) (fun _ => ?_) (fun c => absurd hEQ.1 c)
  refine W.widen (k := cells + 3) (n := slots + 516) (by omega) (by omega) ?_
  exact next _ _ _ _ _ _ ls hM hm hX hEQ.2 hl
set_option maxHeartbeats 4000000 in
set_option maxRecDepth 100000 in
theorem lc_day {p : Program} {l : Launch} {e : Env} {s : State} {m : MethodId} {below : List Frame} {meth : Method} {c : Code} {D : va_G} {cI cL cQ : ClassId} {b L : Nat} {xs : Nat → Int32} (RR : Nat → MS → XS → Prop) (hRB : ∀ n ms x, RR n ms x → RB n ms x) (hs : ∀ (n : Nat) (ms : MS) (x : XS), RR n ms x → n < 512 → RR (n + 1) (g_M_day ms) (g_X_day x)) (hL : L ≤ 3074) (C0 : lw_At p s m meth c b L xs) (hK : va_K D vCl (kT cI cL cQ) s) (j : Nat) (hj : 8 + 6 * j ≤ L) (d : Nat → Nat) (κ : Nat → Option va_E) (ms : MS) (x : XS) (H : Heap) (locs : List Loc) (ls : Array Slot) (cells slots : Nat) (hc8 : cells + 3 ≤ 600000) (hs8 : slots + 516 ≤ 7302250) (hM : kW D vCl d κ (fun q : Nat => s.heap.size ≤ q) s.heap H locs) (hm : IsM cI cL d κ ms) (hX : IsX cI cL cQ d κ x) (hR : RR j ms x) (hl : lv_has ls 4 [(3, .int (nI (2 + 6 * j))), (2, .ref (d 0)), (1, .ref (d 18)), (0, .ref b)]) (next : ∀ (d : Nat → Nat) (κ : Nat → Option va_E) (ms : MS) (x : XS) (H : Heap) (locs : List Loc) (ls : Array Slot), kW D vCl d κ (fun q : Nat => s.heap.size ≤ q) s.heap H locs → IsM cI cL d κ ms → IsX cI cL cQ d κ x → RR (j + 1) ms x → lv_has ls 4 [(3, .int (nI (2 + 6 * j))), (2, .ref (d 0)), (1, .ref (d 18)), (0, .ref b)] → W p l e room_1 s m #[Value.ref b] below meth c H locs (cells + 3) (slots + 516) (lw_Z below #[Value.ref b] s) (F0 m 943 ls [])) : W p l e room_1 s m #[Value.ref b] below meth c H locs cells slots (lw_Z below #[Value.ref b] s) (F0 m 932 ls []) := by
  obtain ⟨hx, hb, hr, hml, hown, hts0, hX0, hbl, hlocks, hgv⟩ := C0
  have hts : ∀ w ∈ lw_g, w.before #[Value.ref b] s = true := fun w h => hts0 w (List.mem_filter.mp h).1
  have hbA : ¬ (fun q : Nat => s.heap.size ≤ q) b := Nat.not_le.mpr hbl
  have hB := hRB j ms x hR
  have hR : RR j ms x ∧ j < 512 := ⟨hR, by omega⟩
  obtain ⟨hB5, hB6, hB7⟩ := hB.2.2
  have hm0 := hm
  have hc9 : cells + 0 ≤ room_1.cells := by show cells + 0 ≤ 600000; omega
  have hs9 : slots + 0 ≤ room_1.slots := by show slots + 0 ≤ 7302250; omega
  refine lv_aload_n hx hb dL_law_932 rfl (lv_at hl 2 rfl) ?_
  refine ka_ncallv (W.runV (C := RX) (As := []) (rest := []) ⟨hx, hb, hml, hown, hts⟩ (c_X_day l D cI cL cQ d κ x hX hB.2.1 _ ) (cwV 0 hts (k_gV tw_281 tw_282 tw_283 tw_38 tw_284) rfl rfl rfl (by decide +kernel) ⟨Nat.le_of_ble_eq_true rfl, Nat.le_of_ble_eq_true rfl⟩) (kPreV hM.1 hK (q := 18) hX.1 rfl) rfl rfl hl.1 rfl (lv_room (Nat.le_of_ble_eq_true rfl)) dL_law_933 ⟨hc9, hs9⟩) hM (fun _ h9 => h9) (fun κX H locs hWX hM => ?_)
  have hm := hm.keep (fun k hk => hWX.2 k hk) (fun _ _ => rfl)
  have hX := hWX.1
  refine lv_aload_n hx hb dL_law_936 rfl (lv_at hl 1 rfl) ?_
  refine ka_ncallv (W.runV (C := RM) (As := []) (rest := []) ⟨hx, hb, hml, hown, hts⟩ (c_M_day l D cI cL cQ d κX ms hm hB.1 _  ) (cwV 0 hts (k_gV tw_574 tw_575 tw_576 tw_41 tw_577) rfl rfl rfl (by decide +kernel) ⟨Nat.le_of_ble_eq_true rfl, Nat.le_of_ble_eq_true rfl⟩) (kPreV hM.1 hK (q := 0) hm.1 rfl) rfl rfl hl.1 rfl (lv_room (Nat.le_of_ble_eq_true rfl)) dL_law_937 ⟨hc9, hs9⟩) hM (fun _ h9 => h9) (fun κM H locs hWM hM => ?_)
  have hX := hX.keep (fun k hk => hWM.2 k hk)
  have hm := hWM.1
  refine lv_goto (tgt := 943) hx hb dL_law_940 (by decide) ?_
  have hEQ := hs j ms x hR.1 hR.2
  refine W.widen (k := cells + 3) (n := slots + 516) (by omega) (by omega) ?_
  exact next _ _ _ _ _ _ ls hM hm hX hEQ hl
