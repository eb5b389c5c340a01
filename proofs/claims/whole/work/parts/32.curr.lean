theorem dX_currency_0 : decode prog_1_method_2_code 0 = .ok (.aload_n 0, 1) := by decide +kernel
theorem dX_currency_1 : decode prog_1_method_2_code 1 = .ok (.iconst 0, 1) := by decide +kernel
theorem dX_currency_2 : decode prog_1_method_2_code 2 = .ok (.lconst 0, 1) := by decide +kernel
theorem dX_currency_3 : decode prog_1_method_2_code 3 = .ok (.invokevirtual 55, 3) := by decide +kernel
theorem dX_currency_6 : decode prog_1_method_2_code 6 = .ok (.istore_n 1, 1) := by decide +kernel
theorem dX_currency_7 : decode prog_1_method_2_code 7 = .ok (.aload_n 0, 1) := by decide +kernel
theorem dX_currency_8 : decode prog_1_method_2_code 8 = .ok (.getfield 25, 3) := by decide +kernel
theorem dX_currency_11 : decode prog_1_method_2_code 11 = .ok (.iconst (-1), 1) := by decide +kernel
theorem dX_currency_12 : decode prog_1_method_2_code 12 = .ok (.if_icmp .ne 8, 3) := by decide +kernel
theorem dX_currency_15 : decode prog_1_method_2_code 15 = .ok (.aload_n 0, 1) := by decide +kernel
theorem dX_currency_16 : decode prog_1_method_2_code 16 = .ok (.iload_n 1, 1) := by decide +kernel
theorem dX_currency_17 : decode prog_1_method_2_code 17 = .ok (.putfield 25, 3) := by decide +kernel
theorem dX_currency_20 : decode prog_1_method_2_code 20 = .ok (.iload_n 1, 1) := by decide +kernel
theorem dX_currency_21 : decode prog_1_method_2_code 21 = .ok (.ireturn, 1) := by decide +kernel
theorem dX_security_0 : decode prog_1_method_3_code 0 = .ok (.lload_n 1, 1) := by decide +kernel
theorem dX_security_1 : decode prog_1_method_3_code 1 = .ok (.iload_n 3, 1) := by decide +kernel
theorem dX_security_2 : decode prog_1_method_3_code 2 = .ok (.invokestatic 59, 3) := by decide +kernel
theorem dX_security_5 : decode prog_1_method_3_code 5 = .ok (.ifCond .ne 5, 3) := by decide +kernel
theorem dX_security_8 : decode prog_1_method_3_code 8 = .ok (.iconst (-1), 1) := by decide +kernel
theorem dX_security_9 : decode prog_1_method_3_code 9 = .ok (.ireturn, 1) := by decide +kernel
theorem dX_security_10 : decode prog_1_method_3_code 10 = .ok (.aload_n 0, 1) := by decide +kernel
theorem dX_security_11 : decode prog_1_method_3_code 11 = .ok (.iconst 1, 1) := by decide +kernel
theorem dX_security_12 : decode prog_1_method_3_code 12 = .ok (.lload_n 1, 1) := by decide +kernel
theorem dX_security_13 : decode prog_1_method_3_code 13 = .ok (.iload_n 3, 1) := by decide +kernel
theorem dX_security_14 : decode prog_1_method_3_code 14 = .ok (.invokestatic 63, 3) := by decide +kernel
theorem dX_security_17 : decode prog_1_method_3_code 17 = .ok (.invokevirtual 55, 3) := by decide +kernel
theorem dX_security_20 : decode prog_1_method_3_code 20 = .ok (.ireturn, 1) := by decide +kernel
def g_X_currency (x : XS) : Int32 × XS := if (g_X_addAsset x 0 0).2.2.1 = -1 then ((g_X_addAsset x 0 0).1, xM (g_X_addAsset x 0 0).2 (g_X_addAsset x 0 0).1) else ((g_X_addAsset x 0 0).1, (g_X_addAsset x 0 0).2)
def g_X_security (x : XS) (price : Int64) (haircut : Int32) : Int32 × XS := if f_X_isPriced price haircut = 0 then (-1, x) else ((g_X_addAsset x 1 (f_X_rateOf price haircut)).1, (g_X_addAsset x 1 (f_X_rateOf price haircut)).2)
set_option maxHeartbeats 4000000 in
set_option maxRecDepth 100000 in
theorem c_X_currency (l : Launch) (D : va_G) (cI cL cQ : ClassId) (d : Nat → Nat) (κ0 : Nat → Option va_E) (x : XS) (hX : IsX cI cL cQ d κ0 x) (hB : XB x) (sz : Nat) : Met l yX_currency wX_currency { frames := 3, cells := 3, slots := 516, locals := 60 } (va_Pc [.ref (d 18)] (kC D vCl (kT cI cL cQ) d κ0 sz)) (kQi D vCl (kA d κ0 sz) (fun r d' κ' => r = (g_X_currency x).1 ∧ XG cI cL cQ d κ0 d' κ' (g_X_currency x).2)) 3 516 (kA d κ0 sz) := by
  refine kMet (by decide) (Nat.le_of_ble_eq_true rfl) ?_
  intro p0 e0 s0 m0 below0 meth0 c0 hx hb hr hml hown hlocks hin hts hsz hP hK ls hl
  subst hsz
  have hl : lv_has ls 2 [(0, .ref (d 18))] := hl
  have hA : ∀ x, s0.heap.size ≤ x → kA d κ0 s0.heap.size x := fun _ h => Or.inr h
  have hM := kW.start hP
  refine lv_aload_n hx hb dX_currency_0 rfl (lv_at hl 0 rfl) ?_
  refine lv_iconst (v := 0) hx hb dX_currency_1 (by decide) ?_
  refine lv_lconst (v := 0) hx hb dX_currency_2 (by decide) ?_
  refine ka_calli (W.runV (C := RX) (As := [.int 0, .long 0]) (rest := []) ⟨hx, hb, hml, hown, hts⟩ (c_X_addAsset l D cI cL cQ d κ0 x hX hB _ 0 0 (Or.inl rfl)) (cwV 2 hts (k_gV tw_134 tw_136 tw_0 tw_38 tw_137) rfl rfl rfl (by decide +kernel) ⟨Nat.le_of_ble_eq_true rfl, Nat.le_of_ble_eq_true rfl⟩) (kPreV hM.1 hK (q := 18) hX.1 rfl) rfl rfl hl.1 rfl (lv_room (Nat.le_of_ble_eq_true rfl)) dX_currency_3 ⟨Nat.le_of_ble_eq_true rfl, Nat.le_of_ble_eq_true rfl⟩) hM hA (fun r d1 κ1 H locs h1 hM => ?_)
  obtain ⟨er, hG⟩ := h1
  subst er
  refine W.widen (k := 3) (n := 516) (by omega) (by omega) ?_
  have e18 : d1 18 = d 18 := hG.2.2 18 _ hX.1
  refine lv_istore_n (lv' := [(1, .int (g_X_addAsset x 0 0).1), (0, .ref (d 18))]) hx hb dX_currency_6 rfl hl (by decide) rfl (fun ls hl => ?_)
  refine lv_aload_n hx hb dX_currency_7 rfl (lv_at hl 1 rfl) ?_
  refine W.eq (g2 := F0 m0 8 ls [.ref (d1 18)]) (by rw [e18]) ?_
  refine ka_get (v := .int (g_X_addAsset x 0 0).2.2.1) (ci := 3) (C := RX) (T := TX) (N := 10) hx hb hts inX hown hK hM.1 (q := 18) hG.1.1 rfl 4 (by decide) (hts _ tw_103) (fun _ h9 => h9) rfl dX_currency_8 ?_
  refine lv_iconst (v := -1) hx hb dX_currency_11 (by decide) ?_
  refine lv_icmp_ne (tgt := 20) hx hb dX_currency_12 (by decide) (fun c_12 => ?_) (fun c_12 => ?_)
  · refine lv_iload_n hx hb dX_currency_20 rfl (lv_at hl 0 rfl) ?_
    have hg : g_X_currency x = ((g_X_addAsset x 0 0).1, (g_X_addAsset x 0 0).2) := by rw [g_X_currency, if_neg c_12]
    exact W.iret (v := (g_X_addAsset x 0 0).1) hx hb hr (fun t ht h9 => kQi.of hM ht (by rw [hg]; exact ⟨rfl, hG⟩)) hM.2.2.2.2 dX_currency_21
  · refine lv_aload_n hx hb dX_currency_15 rfl (lv_at hl 1 rfl) ?_
    refine lv_iload_n hx hb dX_currency_16 rfl (lv_at hl 0 rfl) ?_
    refine W.eq (g2 := F0 m0 17 ls [.int (g_X_addAsset x 0 0).1, .ref (d1 18)]) (by rw [e18]) ?_
    have hW : XW cI cL cQ κ1 d1 κ1 (g_X_addAsset x 0 0).2 := ⟨hG.1, fun _ _ => rfl⟩
    refine ka_put (D := D) (ci := 3) (v := .int (g_X_addAsset x 0 0).1) (ty := .int) (C := RX) (T := TX) (N := 10) hx hb hts inX tX tX_ok nX hown hK hM (q := 18) hG.1.1 rfl 4 (by decide) (hts _ tw_103) (fun _ h9 => h9) rfl (by decide +kernel) rfl rfl (Nat.le_of_ble_eq_true rfl) dX_currency_17 (fun H locs hM => ?_)
    have hW2 := xw_money (g_X_addAsset x 0 0).1 hW
    refine lv_iload_n hx hb dX_currency_20 rfl (lv_at hl 0 rfl) ?_
    have hg : g_X_currency x = ((g_X_addAsset x 0 0).1, xM (g_X_addAsset x 0 0).2 (g_X_addAsset x 0 0).1) := by rw [g_X_currency, if_pos c_12]
    exact W.iret (v := (g_X_addAsset x 0 0).1) hx hb hr (fun t ht h9 => kQi.of hM ht (by rw [hg]; exact ⟨rfl, hW2.1, fun k hk => (hW2.2 k hk).trans (hG.2.1 k hk), hG.2.2⟩)) hM.2.2.2.2 dX_currency_21
set_option maxHeartbeats 4000000 in
set_option maxRecDepth 100000 in
theorem c_X_security (l : Launch) (D : va_G) (cI cL cQ : ClassId) (d : Nat → Nat) (κ0 : Nat → Option va_E) (x : XS) (hX : IsX cI cL cQ d κ0 x) (hB : XB x) (sz : Nat) (price : Int64) (haircut : Int32) : Met l yX_security wX_security { frames := 3, cells := 3, slots := 516, locals := 60 } (va_Pc [.ref (d 18), .long (price), .int (haircut)] (kC D vCl (kT cI cL cQ) d κ0 sz)) (kQi D vCl (kA d κ0 sz) (fun r d' κ' => r = (g_X_security x price haircut).1 ∧ XG cI cL cQ d κ0 d' κ' (g_X_security x price haircut).2)) 3 516 (kA d κ0 sz) := by
  refine kMet (by decide) (Nat.le_of_ble_eq_true rfl) ?_
  intro p0 e0 s0 m0 below0 meth0 c0 hx hb hr hml hown hlocks hin hts hsz hP hK ls hl
  subst hsz
  have hl : lv_has ls 4 [(0, .ref (d 18)), (1, .long (price)), (3, .int (haircut))] := hl
  have hA : ∀ x, s0.heap.size ≤ x → kA d κ0 s0.heap.size x := fun _ h => Or.inr h
  have hM := kW.start hP
  refine lv_lload_n hx hb dX_security_0 rfl (lv_at hl 1 rfl) ?_
  refine lv_iload_n hx hb dX_security_1 rfl (lv_at hl 2 rfl) ?_
  refine vp_callSi (W.runS (As := [.long price, .int haircut]) (rest := []) ⟨hx, hb, hml, hown, hts⟩ (c_X_isPriced l D cI cL cQ d κ0 _ price haircut) (cwS 2 hts (k_gS tw_164 tw_165 tw_38 tw_166) rfl rfl rfl (by decide +kernel) ⟨Nat.le_of_ble_eq_true rfl, Nat.le_of_ble_eq_true rfl⟩) (kPreS hM.1 hK) rfl rfl hl.1 rfl (lv_room (Nat.le_of_ble_eq_true rfl)) dX_security_2 ⟨Nat.le_of_ble_eq_true rfl, Nat.le_of_ble_eq_true rfl⟩) (fun r_2 e_2 => ?_)
  subst e_2
  refine lv_if_ne (tgt := 10) hx hb dX_security_5 (by decide) (fun c_5 => ?_) (fun c_5 => ?_)
  · refine lv_aload_n hx hb dX_security_10 rfl (lv_at hl 0 rfl) ?_
    refine lv_iconst (v := 1) hx hb dX_security_11 (by decide) ?_
    refine lv_lload_n hx hb dX_security_12 rfl (lv_at hl 1 rfl) ?_
    refine lv_iload_n hx hb dX_security_13 rfl (lv_at hl 2 rfl) ?_
    refine vp_callSl (W.runS (As := [.long price, .int haircut]) (rest := [.int 1, .ref (d 18)]) ⟨hx, hb, hml, hown, hts⟩ (c_X_rateOf l D cI cL cQ d κ0 _ price haircut) (cwS 2 hts (k_gS tw_168 tw_169 tw_38 tw_170) rfl rfl rfl (by decide +kernel) ⟨Nat.le_of_ble_eq_true rfl, Nat.le_of_ble_eq_true rfl⟩) (kPreS hM.1 hK) rfl rfl hl.1 rfl (lv_room (Nat.le_of_ble_eq_true rfl)) dX_security_14 ⟨Nat.le_of_ble_eq_true rfl, Nat.le_of_ble_eq_true rfl⟩) (fun r_14 e_14 => ?_)
    subst e_14
    refine ka_calli (W.runV (C := RX) (As := [.int 1, .long (f_X_rateOf price haircut)]) (rest := []) ⟨hx, hb, hml, hown, hts⟩ (c_X_addAsset l D cI cL cQ d κ0 x hX hB _ 1 (f_X_rateOf price haircut) (Or.inr rfl)) (cwV 2 hts (k_gV tw_134 tw_136 tw_0 tw_38 tw_137) rfl rfl rfl (by decide +kernel) ⟨Nat.le_of_ble_eq_true rfl, Nat.le_of_ble_eq_true rfl⟩) (kPreV hM.1 hK (q := 18) hX.1 rfl) rfl rfl hl.1 rfl (lv_room (Nat.le_of_ble_eq_true rfl)) dX_security_17 ⟨Nat.le_of_ble_eq_true rfl, Nat.le_of_ble_eq_true rfl⟩) hM hA (fun r d1 κ1 H locs h1 hM => ?_)
    obtain ⟨er, hG⟩ := h1
    subst er
    refine W.widen (k := 3) (n := 516) (by omega) (by omega) ?_
    have hg : g_X_security x price haircut = ((g_X_addAsset x 1 (f_X_rateOf price haircut)).1, (g_X_addAsset x 1 (f_X_rateOf price haircut)).2) := by rw [g_X_security, if_neg c_5]
    exact W.iret (v := (g_X_addAsset x 1 (f_X_rateOf price haircut)).1) hx hb hr (fun t ht h9 => kQi.of hM ht (by rw [hg]; exact ⟨rfl, hG⟩)) hM.2.2.2.2 dX_security_20
  · refine lv_iconst (v := -1) hx hb dX_security_8 (by decide) ?_
    refine W.widen (k := 3) (n := 516) (by omega) (by omega) ?_
    have hg : g_X_security x price haircut = (-1, x) := by rw [g_X_security, if_pos c_5]
    exact W.iret (v := -1) hx hb hr (fun t ht h9 => kQi.of hM ht (by rw [hg]; exact ⟨rfl, hX, fun _ _ => rfl, fun _ _ _ => rfl⟩)) hM.2.2.2.2 dX_security_9
