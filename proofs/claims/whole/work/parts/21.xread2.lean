theorem client_in {x : XS} (hB : XB x) {p : Int32} (h : ¬ f_X_isClient x p = 0) : vp_in p (x.1 0) := by
  unfold f_X_isClient at h
  by_cases c1 : p ≤ 0
  · rw [if_pos c1] at h; exact absurd rfl h
  · rw [if_neg c1] at h
    by_cases c2 : nI (x.1 0) ≤ p
    · rw [if_pos c2] at h; exact absurd rfl h
    · obtain ⟨hb0, hb1, -⟩ := hB
      obtain ⟨j, hj, rfl⟩ := nI_of (x := p) (fun q => c1 (Int32.le_of_lt q))
      exact vp_in_nI (Nat.lt_of_not_le (fun q => c2 (nI_le q hj))) (by omega)
theorem owner_in {x : XS} (hB : XB x) {pos : Int32} (h : ¬ f_X_isPosition x pos = 0) : vp_in (f_X_ownerOf x pos) (x.1 0) := by
  unfold f_X_isPosition at h
  by_cases c1 : pos < 0
  · rw [if_pos c1] at h; exact absurd rfl h
  · rw [if_neg c1] at h
    by_cases c2 : nI (x.1 0 * x.1 1) ≤ pos
    · rw [if_pos c2] at h; exact absurd rfl h
    · obtain ⟨hb0, hb1, hb2, hb3, -⟩ := hB
      obtain ⟨j, hj, rfl⟩ := nI_of c1
      have h3 : j < x.1 0 * x.1 1 := Nat.lt_of_not_le (fun q => c2 (nI_le q hj))
      unfold f_X_ownerOf
      rw [pk_div hj (by omega) (by omega)]
      exact vp_in_nI (Nat.div_lt_of_lt_mul (by rw [Nat.mul_comm]; exact h3)) (by omega)

theorem dX_lowest_0 : decode prog_1_method_33_code 0 = .ok (.iload_n 2, 1) := by decide +kernel
theorem dX_lowest_1 : decode prog_1_method_33_code 1 = .ok (.ifCond .ne 7, 3) := by decide +kernel
theorem dX_lowest_4 : decode prog_1_method_33_code 4 = .ok (.ldc2_w 194, 3) := by decide +kernel
theorem dX_lowest_7 : decode prog_1_method_33_code 7 = .ok (.lreturn, 1) := by decide +kernel
theorem dX_lowest_8 : decode prog_1_method_33_code 8 = .ok (.aload_n 1, 1) := by decide +kernel
theorem dX_lowest_9 : decode prog_1_method_33_code 9 = .ok (.getfield 187, 3) := by decide +kernel
theorem dX_lowest_12 : decode prog_1_method_33_code 12 = .ok (.ifCond .eq 10, 3) := by decide +kernel
theorem dX_lowest_15 : decode prog_1_method_33_code 15 = .ok (.aload_n 1, 1) := by decide +kernel
theorem dX_lowest_16 : decode prog_1_method_33_code 16 = .ok (.getfield 103, 3) := by decide +kernel
theorem dX_lowest_19 : decode prog_1_method_33_code 19 = .ok (.iload_n 2, 1) := by decide +kernel
theorem dX_lowest_20 : decode prog_1_method_33_code 20 = .ok (.laload, 1) := by decide +kernel
theorem dX_lowest_21 : decode prog_1_method_33_code 21 = .ok (.lreturn, 1) := by decide +kernel
theorem dX_lowest_22 : decode prog_1_method_33_code 22 = .ok (.aload_n 1, 1) := by decide +kernel
theorem dX_lowest_23 : decode prog_1_method_33_code 23 = .ok (.aload_n 0, 1) := by decide +kernel
theorem dX_lowest_24 : decode prog_1_method_33_code 24 = .ok (.aload_n 0, 1) := by decide +kernel
theorem dX_lowest_25 : decode prog_1_method_33_code 25 = .ok (.getfield 25, 3) := by decide +kernel
theorem dX_lowest_28 : decode prog_1_method_33_code 28 = .ok (.invokevirtual 79, 3) := by decide +kernel
theorem dX_lowest_31 : decode prog_1_method_33_code 31 = .ok (.if_acmp .ne 13, 3) := by decide +kernel
theorem dX_lowest_34 : decode prog_1_method_33_code 34 = .ok (.aload_n 0, 1) := by decide +kernel
theorem dX_lowest_35 : decode prog_1_method_33_code 35 = .ok (.getfield 28, 3) := by decide +kernel
theorem dX_lowest_38 : decode prog_1_method_33_code 38 = .ok (.iload_n 2, 1) := by decide +kernel
theorem dX_lowest_39 : decode prog_1_method_33_code 39 = .ok (.laload, 1) := by decide +kernel
theorem dX_lowest_40 : decode prog_1_method_33_code 40 = .ok (.lneg, 1) := by decide +kernel
theorem dX_lowest_41 : decode prog_1_method_33_code 41 = .ok (.goto 4, 3) := by decide +kernel
theorem dX_lowest_44 : decode prog_1_method_33_code 44 = .ok (.lconst 0, 1) := by decide +kernel
theorem dX_lowest_45 : decode prog_1_method_33_code 45 = .ok (.lreturn, 1) := by decide +kernel
def f_X_lowest (x : XS) (i : Nat) (p : Int32) : Int64 := if p = 0 then (-9223372036854775808) else (if (xS x i) = 0 then (if xIs x x.2.1 then (if i = (x.2.1).toNatClampNeg then (-((x.2.2.2.2.1 0) (p).toNatClampNeg)) else 0) else 0) else ((xP x i) (p).toNatClampNeg))
set_option maxHeartbeats 4000000 in
set_option maxRecDepth 100000 in
theorem c_X_lowest (l : Launch) (D : va_G) (cI cL cQ : ClassId) (d : Nat → Nat) (κ : Nat → Option va_E) (x : XS) (hX : IsX cI cL cQ d κ x) (hB : XB x) (sz : Nat) (i : Nat) (hi : i < x.1 2) (p : Int32) (hpP : vp_in p (x.1 0)) : Met l yX_lowest wX_lowest { frames := 1, cells := 0, slots := 0, locals := 21 } (va_Pc [.ref (d 18), .ref (d (32 + 3 * i)), .int (p)] (kC D vCl (kT cI cL cQ) d κ sz)) (vp_Sl (fun r => r = f_X_lowest x i p)) 0 0 (fun _ => False) := by
  refine kMet (by decide) (Nat.le_of_ble_eq_true rfl) ?_
  intro p0 e0 s0 m0 below0 meth0 c0 hx hb hr hml hown hlocks hin hts hsz hP hK ls hl
  have hl : lv_has ls 3 [(0, .ref (d 18)), (1, .ref (d (32 + 3 * i))), (2, .int (p))] := hl
  have hB9 := hB
  obtain ⟨hb0, hb1, hb2, hb3, hb4, hb5, hb6, hb7, hb8⟩ := hB9
  refine lv_iload_n hx hb dX_lowest_0 rfl (lv_at hl 2 rfl) ?_
  refine lv_if_ne (tgt := 8) hx hb dX_lowest_1 (by decide) (fun c_1 => ?_) (fun c_1 => ?_)
  · refine lv_aload_n hx hb dX_lowest_8 rfl (lv_at hl 1 rfl) ?_
    refine ka_get (ci := 0) (C := RA) (T := TA) (N := 4) hx hb hts inA hown hK hP (q := (32 + 3 * i)) (hX.2.2.2.2.2.2.2.2.2.2.2.2.2.2.1 i hi).1 rfl 0 (by decide) (hts _ tw_144) (fun _ h9 => h9) rfl dX_lowest_9 ?_
    refine lv_if_eq (tgt := 22) hx hb dX_lowest_12 (by decide) (fun c_12 => ?_) (fun c_12 => ?_)
    · refine lv_aload_n hx hb dX_lowest_22 rfl (lv_at hl 1 rfl) ?_
      refine lv_aload_n hx hb dX_lowest_23 rfl (lv_at hl 0 rfl) ?_
      refine lv_aload_n hx hb dX_lowest_24 rfl (lv_at hl 0 rfl) ?_
      refine ka_get (ci := 3) (C := RX) (T := TX) (N := 10) hx hb hts inX hown hK hP (q := 18) hX.1 rfl 4 (by decide) (hts _ tw_103) (fun _ h9 => h9) rfl dX_lowest_25 ?_
      refine va_csq (W.runV (C := RX) (As := [.int (x.2.1)]) (rest := [.ref (d (32 + 3 * i))]) ⟨hx, hb, hml, hown, hts⟩ (c_X_assetAt l D cI cL cQ d κ x hX hB _ x.2.1) (cwV 1 hts (k_gV tw_179 tw_181 tw_2 tw_38 tw_182) rfl rfl rfl (by decide +kernel) ⟨Nat.le_of_ble_eq_true rfl, Nat.le_of_ble_eq_true rfl⟩) (kPreV hP hK (q := 18) hX.1 rfl) rfl rfl hl.1 rfl (lv_room (Nat.le_of_ble_eq_true rfl)) dX_lowest_28 ⟨Nat.le_of_ble_eq_true rfl, Nat.le_of_ble_eq_true rfl⟩) (fun r_28 e_28 => ?_)
      subst e_28
      by_cases hA_28 : xIs x x.2.1
      · rw [if_pos hA_28]
        have hi_28 : (x.2.1).toNatClampNeg < x.1 2 := (xIs_in hB hA_28).2
        refine lv_acmp_ne (rx := some (d (32 + 3 * i))) (ry := some (d (32 + 3 * (x.2.1).toNatClampNeg))) (tgt := 44) hx hb dX_lowest_31 (by decide) (fun c_31 => ?_) (fun c_31 => ?_)
        · have c_31 : ¬ i = (x.2.1).toNatClampNeg := fun q => c_31 (by rw [q])
          refine lv_lconst (v := 0) hx hb dX_lowest_44 (by decide) ?_
          exact W.lret (v := 0) hx hb hr (fun t ht hW => ⟨_, rfl, by rw [f_X_lowest, if_neg c_1, if_pos c_12, if_pos hA_28, if_neg c_31], ht⟩) (fun q h => by cases h) dX_lowest_45
        · have c_31 : i = (x.2.1).toNatClampNeg := k_same hP (hX.2.2.2.2.2.2.2.2.2.2.2.2.2.2.1 i hi).1 (hX.2.2.2.2.2.2.2.2.2.2.2.2.2.2.1 ((x.2.1).toNatClampNeg) hi_28).1 c_31
          refine lv_aload_n hx hb dX_lowest_34 rfl (lv_at hl 0 rfl) ?_
          refine ka_get (ci := 3) (C := RX) (T := TX) (N := 10) hx hb hts inX hown hK hP (q := 18) hX.1 rfl 5 (by decide) (hts _ tw_104) (fun _ h9 => h9) rfl dX_lowest_35 ?_
          refine lv_iload_n hx hb dX_lowest_38 rfl (lv_at hl 2 rfl) ?_
          refine ka_lald hx hb hK hP 1 (q := 20) hX.2.2.1 rfl (by first | assumption | exact vp_in_nI (by omega) (by omega)) dX_lowest_39 ?_
          refine lv_lneg hx hb dX_lowest_40 ?_
          refine lv_goto (tgt := 45) hx hb dX_lowest_41 (by decide) ?_
          exact W.lret (v := -((x.2.2.2.2.1 0) (p).toNatClampNeg)) hx hb hr (fun t ht hW => ⟨_, rfl, by rw [f_X_lowest, if_neg c_1, if_pos c_12, if_pos hA_28, if_pos c_31], ht⟩) (fun q h => by cases h) dX_lowest_45
      · rw [if_neg hA_28]
        refine lv_acmp_ne (rx := some (d (32 + 3 * i))) (ry := none) (tgt := 44) hx hb dX_lowest_31 (by decide) (fun _ => ?_) (fun c => by cases c)
        refine lv_lconst (v := 0) hx hb dX_lowest_44 (by decide) ?_
        exact W.lret (v := 0) hx hb hr (fun t ht hW => ⟨_, rfl, by rw [f_X_lowest, if_neg c_1, if_pos c_12, if_neg hA_28], ht⟩) (fun q h => by cases h) dX_lowest_45
    · refine lv_aload_n hx hb dX_lowest_15 rfl (lv_at hl 1 rfl) ?_
      refine ka_get (ci := 0) (C := RA) (T := TA) (N := 4) hx hb hts inA hown hK hP (q := (32 + 3 * i)) (hX.2.2.2.2.2.2.2.2.2.2.2.2.2.2.1 i hi).1 rfl 2 (by decide) (hts _ tw_148) (fun _ h9 => h9) rfl dX_lowest_16 ?_
      refine lv_iload_n hx hb dX_lowest_19 rfl (lv_at hl 2 rfl) ?_
      refine ka_lald hx hb hK hP 1 (q := (34 + 3 * i)) (hX.2.2.2.2.2.2.2.2.2.2.2.2.2.2.1 i hi).2.2 rfl (by unfold xPl; rw [if_neg c_12]; exact hpP) dX_lowest_20 ?_
      exact W.lret (v := (xP x i) (p).toNatClampNeg) hx hb hr (fun t ht hW => ⟨_, rfl, by rw [f_X_lowest, if_neg c_1, if_neg c_12], ht⟩) (fun q h => by cases h) dX_lowest_21
  · refine lv_ldc2 (v := -9223372036854775808) hx hb hown (hts _ tw_232) dX_lowest_4 ?_
    exact W.lret (v := -9223372036854775808) hx hb hr (fun t ht hW => ⟨_, rfl, by rw [f_X_lowest, if_pos c_1], ht⟩) (fun q h => by cases h) dX_lowest_7

theorem dX_creditWith_0 : decode prog_1_method_34_code 0 = .ok (.aload_n 0, 1) := by decide +kernel
theorem dX_creditWith_1 : decode prog_1_method_34_code 1 = .ok (.getfield 28, 3) := by decide +kernel
theorem dX_creditWith_4 : decode prog_1_method_34_code 4 = .ok (.iload_n 2, 1) := by decide +kernel
theorem dX_creditWith_5 : decode prog_1_method_34_code 5 = .ok (.laload, 1) := by decide +kernel
theorem dX_creditWith_6 : decode prog_1_method_34_code 6 = .ok (.aload_n 1, 1) := by decide +kernel
theorem dX_creditWith_7 : decode prog_1_method_34_code 7 = .ok (.getfield 103, 3) := by decide +kernel
theorem dX_creditWith_10 : decode prog_1_method_34_code 10 = .ok (.iload_n 2, 1) := by decide +kernel
theorem dX_creditWith_11 : decode prog_1_method_34_code 11 = .ok (.laload, 1) := by decide +kernel
theorem dX_creditWith_12 : decode prog_1_method_34_code 12 = .ok (.aload_n 1, 1) := by decide +kernel
theorem dX_creditWith_13 : decode prog_1_method_34_code 13 = .ok (.getfield 196, 3) := by decide +kernel
theorem dX_creditWith_16 : decode prog_1_method_34_code 16 = .ok (.invokestatic 199, 3) := by decide +kernel
theorem dX_creditWith_19 : decode prog_1_method_34_code 19 = .ok (.lsub, 1) := by decide +kernel
theorem dX_creditWith_20 : decode prog_1_method_34_code 20 = .ok (.lstore 7, 2) := by decide +kernel
theorem dX_creditWith_22 : decode prog_1_method_34_code 22 = .ok (.lload 7, 2) := by decide +kernel
theorem dX_creditWith_24 : decode prog_1_method_34_code 24 = .ok (.lload_n 3, 1) := by decide +kernel
theorem dX_creditWith_25 : decode prog_1_method_34_code 25 = .ok (.lload 5, 2) := by decide +kernel
theorem dX_creditWith_27 : decode prog_1_method_34_code 27 = .ok (.invokestatic 199, 3) := by decide +kernel
theorem dX_creditWith_30 : decode prog_1_method_34_code 30 = .ok (.ladd, 1) := by decide +kernel
theorem dX_creditWith_31 : decode prog_1_method_34_code 31 = .ok (.ldc2_w 203, 3) := by decide +kernel
theorem dX_creditWith_34 : decode prog_1_method_34_code 34 = .ok (.invokestatic 205, 3) := by decide +kernel
theorem dX_creditWith_37 : decode prog_1_method_34_code 37 = .ok (.lreturn, 1) := by decide +kernel
def f_X_creditWith (x : XS) (i : Nat) (p : Int32) (pledged : Int64) (rate : Int64) : Int64 := if 4000000000000000001 < ((((x.2.2.2.2.1 0) (p).toNatClampNeg) - (f_X_worth ((xP x i) (p).toNatClampNeg) (xR x i))) + (f_X_worth pledged rate)) then 4000000000000000001 else (((x.2.2.2.2.1 0) (p).toNatClampNeg) - (f_X_worth ((xP x i) (p).toNatClampNeg) (xR x i))) + (f_X_worth pledged rate)
set_option maxHeartbeats 4000000 in
set_option maxRecDepth 100000 in
theorem c_X_creditWith (l : Launch) (D : va_G) (cI cL cQ : ClassId) (d : Nat → Nat) (κ : Nat → Option va_E) (x : XS) (hX : IsX cI cL cQ d κ x) (hB : XB x) (sz : Nat) (i : Nat) (hi : i < x.1 2) (p : Int32) (pledged : Int64) (rate : Int64) (hpP : vp_in p (x.1 0)) (hsec : ¬ xS x i = 0) : Met l yX_creditWith wX_creditWith { frames := 2, cells := 0, slots := 0, locals := 52 } (va_Pc [.ref (d 18), .ref (d (32 + 3 * i)), .int (p), .long (pledged), .long (rate)] (kC D vCl (kT cI cL cQ) d κ sz)) (vp_Sl (fun r => r = f_X_creditWith x i p pledged rate)) 0 0 (fun _ => False) := by
  refine kMet (by decide) (Nat.le_of_ble_eq_true rfl) ?_
  intro p0 e0 s0 m0 below0 meth0 c0 hx hb hr hml hown hlocks hin hts hsz hP hK ls hl
  have hl : lv_has ls 9 [(0, .ref (d 18)), (1, .ref (d (32 + 3 * i))), (2, .int (p)), (3, .long (pledged)), (5, .long (rate))] := hl
  have hB9 := hB
  obtain ⟨hb0, hb1, hb2, hb3, hb4, hb5, hb6, hb7, hb8⟩ := hB9
  refine lv_aload_n hx hb dX_creditWith_0 rfl (lv_at hl 0 rfl) ?_
  refine ka_get (ci := 3) (C := RX) (T := TX) (N := 10) hx hb hts inX hown hK hP (q := 18) hX.1 rfl 5 (by decide) (hts _ tw_104) (fun _ h9 => h9) rfl dX_creditWith_1 ?_
  refine lv_iload_n hx hb dX_creditWith_4 rfl (lv_at hl 2 rfl) ?_
  refine ka_lald hx hb hK hP 1 (q := 20) hX.2.2.1 rfl (by first | assumption | exact vp_in_nI (by omega) (by omega)) dX_creditWith_5 ?_
  refine lv_aload_n hx hb dX_creditWith_6 rfl (lv_at hl 1 rfl) ?_
  refine ka_get (ci := 0) (C := RA) (T := TA) (N := 4) hx hb hts inA hown hK hP (q := (32 + 3 * i)) (hX.2.2.2.2.2.2.2.2.2.2.2.2.2.2.1 i hi).1 rfl 2 (by decide) (hts _ tw_148) (fun _ h9 => h9) rfl dX_creditWith_7 ?_
  refine lv_iload_n hx hb dX_creditWith_10 rfl (lv_at hl 2 rfl) ?_
  refine ka_lald hx hb hK hP 1 (q := (34 + 3 * i)) (hX.2.2.2.2.2.2.2.2.2.2.2.2.2.2.1 i hi).2.2 rfl (by unfold xPl; rw [if_neg hsec]; exact hpP) dX_creditWith_11 ?_
  refine lv_aload_n hx hb dX_creditWith_12 rfl (lv_at hl 1 rfl) ?_
  refine ka_get (ci := 0) (C := RA) (T := TA) (N := 4) hx hb hts inA hown hK hP (q := (32 + 3 * i)) (hX.2.2.2.2.2.2.2.2.2.2.2.2.2.2.1 i hi).1 rfl 3 (by decide) (hts _ tw_150) (fun _ h9 => h9) rfl dX_creditWith_13 ?_
  refine vp_callSl (W.runS (As := [.long ((xP x i) (p).toNatClampNeg), .long (xR x i)]) (rest := [.long ((x.2.2.2.2.1 0) (p).toNatClampNeg)]) ⟨hx, hb, hml, hown, hts⟩ (c_X_worth l D cI cL cQ d κ _ ((xP x i) (p).toNatClampNeg) (xR x i)) (cwS 2 hts (k_gS tw_191 tw_192 tw_38 tw_193) rfl rfl rfl (by decide +kernel) ⟨Nat.le_of_ble_eq_true rfl, Nat.le_of_ble_eq_true rfl⟩) (kPreS hP hK) rfl rfl hl.1 rfl (lv_room (Nat.le_of_ble_eq_true rfl)) dX_creditWith_16 ⟨Nat.le_of_ble_eq_true rfl, Nat.le_of_ble_eq_true rfl⟩) (fun r_16 e_16 => ?_)
  subst e_16
  refine lv_lsub hx hb dX_creditWith_19 ?_
  refine lv_lstore (lv' := [(7, .long (((x.2.2.2.2.1 0) (p).toNatClampNeg) - (f_X_worth ((xP x i) (p).toNatClampNeg) (xR x i)))), (0, .ref (d 18)), (1, .ref (d (32 + 3 * i))), (2, .int (p)), (3, .long (pledged)), (5, .long (rate))]) hx hb dX_creditWith_20 hl (by decide) rfl (fun ls hl => ?_)
  refine lv_lload hx hb dX_creditWith_22 (lv_at hl 0 rfl) ?_
  refine lv_lload_n hx hb dX_creditWith_24 rfl (lv_at hl 4 rfl) ?_
  refine lv_lload hx hb dX_creditWith_25 (lv_at hl 5 rfl) ?_
  refine vp_callSl (W.runS (As := [.long (pledged), .long (rate)]) (rest := [.long (((x.2.2.2.2.1 0) (p).toNatClampNeg) - (f_X_worth ((xP x i) (p).toNatClampNeg) (xR x i)))]) ⟨hx, hb, hml, hown, hts⟩ (c_X_worth l D cI cL cQ d κ _ pledged rate) (cwS 2 hts (k_gS tw_191 tw_192 tw_38 tw_193) rfl rfl rfl (by decide +kernel) ⟨Nat.le_of_ble_eq_true rfl, Nat.le_of_ble_eq_true rfl⟩) (kPreS hP hK) rfl rfl hl.1 rfl (lv_room (Nat.le_of_ble_eq_true rfl)) dX_creditWith_27 ⟨Nat.le_of_ble_eq_true rfl, Nat.le_of_ble_eq_true rfl⟩) (fun r_27 e_27 => ?_)
  subst e_27
  refine lv_ladd hx hb dX_creditWith_30 ?_
  refine lv_ldc2 (v := 4000000000000000001) hx hb hown (hts _ tw_196) dX_creditWith_31 ?_
  refine va_mmin_long hx hb (hml.trans hl.1.symm) hown (hts _ tw_197) (hts _ tw_198) (hts _ tw_43) (hts _ tw_199) (by decide) (by decide) (Nat.zero_le _) (Nat.zero_le _) dX_creditWith_34 ?_
  exact W.lret (v := if 4000000000000000001 < ((((x.2.2.2.2.1 0) (p).toNatClampNeg) - (f_X_worth ((xP x i) (p).toNatClampNeg) (xR x i))) + (f_X_worth pledged rate)) then 4000000000000000001 else (((x.2.2.2.2.1 0) (p).toNatClampNeg) - (f_X_worth ((xP x i) (p).toNatClampNeg) (xR x i))) + (f_X_worth pledged rate)) hx hb hr (fun t ht hW => ⟨_, rfl, by rw [f_X_creditWith], ht⟩) (fun q h => by cases h) dX_creditWith_37

theorem dX_isOverdrawn_0 : decode prog_1_method_36_code 0 = .ok (.aload_n 0, 1) := by decide +kernel
theorem dX_isOverdrawn_1 : decode prog_1_method_36_code 1 = .ok (.aload_n 0, 1) := by decide +kernel
theorem dX_isOverdrawn_2 : decode prog_1_method_36_code 2 = .ok (.getfield 25, 3) := by decide +kernel
theorem dX_isOverdrawn_5 : decode prog_1_method_36_code 5 = .ok (.invokevirtual 79, 3) := by decide +kernel
theorem dX_isOverdrawn_8 : decode prog_1_method_36_code 8 = .ok (.astore 4, 2) := by decide +kernel
theorem dX_isOverdrawn_10 : decode prog_1_method_36_code 10 = .ok (.aload 4, 2) := by decide +kernel
theorem dX_isOverdrawn_12 : decode prog_1_method_36_code 12 = .ok (.ifnull 20, 3) := by decide +kernel
theorem dX_isOverdrawn_15 : decode prog_1_method_36_code 15 = .ok (.aload 4, 2) := by decide +kernel
theorem dX_isOverdrawn_17 : decode prog_1_method_36_code 17 = .ok (.getfield 90, 3) := by decide +kernel
theorem dX_isOverdrawn_20 : decode prog_1_method_36_code 20 = .ok (.iload_n 1, 1) := by decide +kernel
theorem dX_isOverdrawn_21 : decode prog_1_method_36_code 21 = .ok (.laload, 1) := by decide +kernel
theorem dX_isOverdrawn_22 : decode prog_1_method_36_code 22 = .ok (.lload_n 2, 1) := by decide +kernel
theorem dX_isOverdrawn_23 : decode prog_1_method_36_code 23 = .ok (.lneg, 1) := by decide +kernel
theorem dX_isOverdrawn_24 : decode prog_1_method_36_code 24 = .ok (.lcmp, 1) := by decide +kernel
theorem dX_isOverdrawn_25 : decode prog_1_method_36_code 25 = .ok (.ifCond .ge 7, 3) := by decide +kernel
theorem dX_isOverdrawn_28 : decode prog_1_method_36_code 28 = .ok (.iconst 1, 1) := by decide +kernel
theorem dX_isOverdrawn_29 : decode prog_1_method_36_code 29 = .ok (.goto 4, 3) := by decide +kernel
theorem dX_isOverdrawn_32 : decode prog_1_method_36_code 32 = .ok (.iconst 0, 1) := by decide +kernel
theorem dX_isOverdrawn_33 : decode prog_1_method_36_code 33 = .ok (.ireturn, 1) := by decide +kernel
def f_X_isOverdrawn (x : XS) (p : Int32) (credit : Int64) : Int32 := if xIs x x.2.1 then (if ((xH x ((x.2.1).toNatClampNeg)) (p).toNatClampNeg) < (-credit) then 1 else 0) else 0
theorem b_X_isOverdrawn (x : XS) (p : Int32) (credit : Int64) : f_X_isOverdrawn x p credit = 0 ∨ f_X_isOverdrawn x p credit = 1 := by
  unfold f_X_isOverdrawn
  repeat' (first | split | exact Or.inl rfl | exact Or.inr rfl)
set_option maxHeartbeats 4000000 in
set_option maxRecDepth 100000 in
theorem c_X_isOverdrawn (l : Launch) (D : va_G) (cI cL cQ : ClassId) (d : Nat → Nat) (κ : Nat → Option va_E) (x : XS) (hX : IsX cI cL cQ d κ x) (hB : XB x) (sz : Nat) (p : Int32) (credit : Int64) (hpP : vp_in p (x.1 0)) : Met l yX_isOverdrawn wX_isOverdrawn { frames := 1, cells := 0, slots := 0, locals := 21 } (va_Pc [.ref (d 18), .int (p), .long (credit)] (kC D vCl (kT cI cL cQ) d κ sz)) (vp_Si (fun r => r = f_X_isOverdrawn x p credit)) 0 0 (fun _ => False) := by
  refine kMet (by decide) (Nat.le_of_ble_eq_true rfl) ?_
  intro p0 e0 s0 m0 below0 meth0 c0 hx hb hr hml hown hlocks hin hts hsz hP hK ls hl
  have hl : lv_has ls 5 [(0, .ref (d 18)), (1, .int (p)), (2, .long (credit))] := hl
  have hB9 := hB
  obtain ⟨hb0, hb1, hb2, hb3, hb4, hb5, hb6, hb7, hb8⟩ := hB9
  refine lv_aload_n hx hb dX_isOverdrawn_0 rfl (lv_at hl 0 rfl) ?_
  refine lv_aload_n hx hb dX_isOverdrawn_1 rfl (lv_at hl 0 rfl) ?_
  refine ka_get (ci := 3) (C := RX) (T := TX) (N := 10) hx hb hts inX hown hK hP (q := 18) hX.1 rfl 4 (by decide) (hts _ tw_103) (fun _ h9 => h9) rfl dX_isOverdrawn_2 ?_
  refine va_csq (W.runV (C := RX) (As := [.int (x.2.1)]) (rest := []) ⟨hx, hb, hml, hown, hts⟩ (c_X_assetAt l D cI cL cQ d κ x hX hB _ x.2.1) (cwV 1 hts (k_gV tw_179 tw_181 tw_2 tw_38 tw_182) rfl rfl rfl (by decide +kernel) ⟨Nat.le_of_ble_eq_true rfl, Nat.le_of_ble_eq_true rfl⟩) (kPreV hP hK (q := 18) hX.1 rfl) rfl rfl hl.1 rfl (lv_room (Nat.le_of_ble_eq_true rfl)) dX_isOverdrawn_5 ⟨Nat.le_of_ble_eq_true rfl, Nat.le_of_ble_eq_true rfl⟩) (fun r_5 e_5 => ?_)
  subst e_5
  by_cases hA_5 : xIs x x.2.1
  · rw [if_pos hA_5]
    have hi_5 : (x.2.1).toNatClampNeg < x.1 2 := (xIs_in hB hA_5).2
    refine lv_astore (lv' := [(4, .ref (d (32 + 3 * (x.2.1).toNatClampNeg))), (0, .ref (d 18)), (1, .int (p)), (2, .long (credit))]) hx hb dX_isOverdrawn_8 hl (by decide) rfl (fun ls hl => ?_)
    refine lv_aload hx hb dX_isOverdrawn_10 (lv_at hl 0 rfl) ?_
    refine lv_ifnull hx hb dX_isOverdrawn_12 ?_
    refine lv_aload hx hb dX_isOverdrawn_15 (lv_at hl 0 rfl) ?_
    refine ka_get (ci := 0) (C := RA) (T := TA) (N := 4) hx hb hts inA hown hK hP (q := (32 + 3 * (x.2.1).toNatClampNeg)) (hX.2.2.2.2.2.2.2.2.2.2.2.2.2.2.1 ((x.2.1).toNatClampNeg) hi_5).1 rfl 1 (by decide) (hts _ tw_146) (fun _ h9 => h9) rfl dX_isOverdrawn_17 ?_
    refine lv_iload_n hx hb dX_isOverdrawn_20 rfl (lv_at hl 2 rfl) ?_
    refine ka_lald hx hb hK hP 1 (q := (33 + 3 * (x.2.1).toNatClampNeg)) (hX.2.2.2.2.2.2.2.2.2.2.2.2.2.2.1 ((x.2.1).toNatClampNeg) hi_5).2.1 rfl (by first | assumption | exact vp_in_nI (by omega) (by omega)) dX_isOverdrawn_21 ?_
    refine lv_lload_n hx hb dX_isOverdrawn_22 rfl (lv_at hl 3 rfl) ?_
    refine lv_lneg hx hb dX_isOverdrawn_23 ?_
    refine kl_ge (tgt := 32) hx hb dX_isOverdrawn_24 dX_isOverdrawn_25 (by decide) (fun c_24 => ?_) (fun c_24 => ?_)
    · refine lv_iconst (v := 0) hx hb dX_isOverdrawn_32 (by decide) ?_
      exact W.zret (v := 0) hx hb hr k_nar0 (fun t ht hW => ⟨_, rfl, by rw [f_X_isOverdrawn, if_pos hA_5, if_neg c_24], ht⟩) (fun q h => by cases h) dX_isOverdrawn_33
    · refine lv_iconst (v := 1) hx hb dX_isOverdrawn_28 (by decide) ?_
      refine lv_goto (tgt := 33) hx hb dX_isOverdrawn_29 (by decide) ?_
      exact W.zret (v := 1) hx hb hr k_nar1 (fun t ht hW => ⟨_, rfl, by rw [f_X_isOverdrawn, if_pos hA_5, if_pos c_24], ht⟩) (fun q h => by cases h) dX_isOverdrawn_33
  · rw [if_neg hA_5]
    refine lv_astoreN (lv' := [(4, .null), (0, .ref (d 18)), (1, .int (p)), (2, .long (credit))]) hx hb dX_isOverdrawn_8 hl (by decide) rfl (fun ls hl => ?_)
    refine lv_aloadN hx hb dX_isOverdrawn_10 (lv_at hl 0 rfl) ?_
    refine lv_ifnullN (tgt := 32) hx hb dX_isOverdrawn_12 (by decide) ?_
    refine lv_iconst (v := 0) hx hb dX_isOverdrawn_32 (by decide) ?_
    exact W.zret (v := 0) hx hb hr k_nar0 (fun t ht hW => ⟨_, rfl, by rw [f_X_isOverdrawn, if_neg hA_5], ht⟩) (fun q h => by cases h) dX_isOverdrawn_33

theorem dX_faultOfRate_0 : decode prog_1_method_38_code 0 = .ok (.lconst 0, 1) := by decide +kernel
theorem dX_faultOfRate_1 : decode prog_1_method_38_code 1 = .ok (.lstore 4, 2) := by decide +kernel
theorem dX_faultOfRate_3 : decode prog_1_method_38_code 3 = .ok (.iconst 1, 1) := by decide +kernel
theorem dX_faultOfRate_4 : decode prog_1_method_38_code 4 = .ok (.istore 6, 2) := by decide +kernel
theorem dX_faultOfRate_6 : decode prog_1_method_38_code 6 = .ok (.iload 6, 2) := by decide +kernel
theorem dX_faultOfRate_8 : decode prog_1_method_38_code 8 = .ok (.aload_n 0, 1) := by decide +kernel
theorem dX_faultOfRate_9 : decode prog_1_method_38_code 9 = .ok (.getfield 9, 3) := by decide +kernel
theorem dX_faultOfRate_12 : decode prog_1_method_38_code 12 = .ok (.if_icmp .ge 53, 3) := by decide +kernel
theorem dX_faultOfRate_15 : decode prog_1_method_38_code 15 = .ok (.aload_n 0, 1) := by decide +kernel
theorem dX_faultOfRate_16 : decode prog_1_method_38_code 16 = .ok (.aload_n 1, 1) := by decide +kernel
theorem dX_faultOfRate_17 : decode prog_1_method_38_code 17 = .ok (.iload 6, 2) := by decide +kernel
theorem dX_faultOfRate_19 : decode prog_1_method_38_code 19 = .ok (.aload_n 1, 1) := by decide +kernel
theorem dX_faultOfRate_20 : decode prog_1_method_38_code 20 = .ok (.getfield 103, 3) := by decide +kernel
theorem dX_faultOfRate_23 : decode prog_1_method_38_code 23 = .ok (.iload 6, 2) := by decide +kernel
theorem dX_faultOfRate_25 : decode prog_1_method_38_code 25 = .ok (.laload, 1) := by decide +kernel
theorem dX_faultOfRate_26 : decode prog_1_method_38_code 26 = .ok (.lload_n 2, 1) := by decide +kernel
theorem dX_faultOfRate_27 : decode prog_1_method_38_code 27 = .ok (.invokevirtual 214, 3) := by decide +kernel
theorem dX_faultOfRate_30 : decode prog_1_method_38_code 30 = .ok (.lstore 7, 2) := by decide +kernel
theorem dX_faultOfRate_32 : decode prog_1_method_38_code 32 = .ok (.aload_n 0, 1) := by decide +kernel
theorem dX_faultOfRate_33 : decode prog_1_method_38_code 33 = .ok (.iload 6, 2) := by decide +kernel
theorem dX_faultOfRate_35 : decode prog_1_method_38_code 35 = .ok (.lload 7, 2) := by decide +kernel
theorem dX_faultOfRate_37 : decode prog_1_method_38_code 37 = .ok (.invokevirtual 218, 3) := by decide +kernel
theorem dX_faultOfRate_40 : decode prog_1_method_38_code 40 = .ok (.ifCond .eq 6, 3) := by decide +kernel
theorem dX_faultOfRate_43 : decode prog_1_method_38_code 43 = .ok (.bipush 9, 2) := by decide +kernel
theorem dX_faultOfRate_45 : decode prog_1_method_38_code 45 = .ok (.ireturn, 1) := by decide +kernel
theorem dX_faultOfRate_46 : decode prog_1_method_38_code 46 = .ok (.lload 4, 2) := by decide +kernel
theorem dX_faultOfRate_48 : decode prog_1_method_38_code 48 = .ok (.lload 7, 2) := by decide +kernel
theorem dX_faultOfRate_50 : decode prog_1_method_38_code 50 = .ok (.ladd, 1) := by decide +kernel
theorem dX_faultOfRate_51 : decode prog_1_method_38_code 51 = .ok (.ldc2_w 203, 3) := by decide +kernel
theorem dX_faultOfRate_54 : decode prog_1_method_38_code 54 = .ok (.invokestatic 205, 3) := by decide +kernel
theorem dX_faultOfRate_57 : decode prog_1_method_38_code 57 = .ok (.lstore 4, 2) := by decide +kernel
theorem dX_faultOfRate_59 : decode prog_1_method_38_code 59 = .ok (.iinc 6 1, 3) := by decide +kernel
theorem dX_faultOfRate_62 : decode prog_1_method_38_code 62 = .ok (.goto (-56), 3) := by decide +kernel
theorem dX_faultOfRate_65 : decode prog_1_method_38_code 65 = .ok (.lload 4, 2) := by decide +kernel
theorem dX_faultOfRate_67 : decode prog_1_method_38_code 67 = .ok (.ldc2_w 212, 3) := by decide +kernel
theorem dX_faultOfRate_70 : decode prog_1_method_38_code 70 = .ok (.lcmp, 1) := by decide +kernel
theorem dX_faultOfRate_71 : decode prog_1_method_38_code 71 = .ok (.ifCond .le 8, 3) := by decide +kernel
theorem dX_faultOfRate_74 : decode prog_1_method_38_code 74 = .ok (.bipush 10, 2) := by decide +kernel
theorem dX_faultOfRate_76 : decode prog_1_method_38_code 76 = .ok (.goto 4, 3) := by decide +kernel
theorem dX_faultOfRate_79 : decode prog_1_method_38_code 79 = .ok (.iconst 0, 1) := by decide +kernel
theorem dX_faultOfRate_80 : decode prog_1_method_38_code 80 = .ok (.ireturn, 1) := by decide +kernel
def f_X_faultOfRate_l (x : XS) (i : Nat) (rate : Int64) : Nat → Nat → Int64 → Int32
  | 0, _, _ => 0
  | n + 1, p, all => if (nI (x.1 0)) ≤ (nI p) then (if 4000000000000000000 < all then 10 else 0) else (if (f_X_isOverdrawn x (nI p) (f_X_creditWith x i (nI p) ((xP x i) (nI p).toNatClampNeg) rate)) = 0 then (f_X_faultOfRate_l x i rate n (p + 1) (if 4000000000000000001 < (all + (f_X_creditWith x i (nI p) ((xP x i) (nI p).toNatClampNeg) rate)) then 4000000000000000001 else all + (f_X_creditWith x i (nI p) ((xP x i) (nI p).toNatClampNeg) rate))) else 9)
theorem f_X_faultOfRate_l_s (x : XS) (i : Nat) (rate : Int64) (n : Nat) (p : Nat) (all : Int64) : f_X_faultOfRate_l x i rate (n + 1) p all = (if (nI (x.1 0)) ≤ (nI p) then (if 4000000000000000000 < all then 10 else 0) else (if (f_X_isOverdrawn x (nI p) (f_X_creditWith x i (nI p) ((xP x i) (nI p).toNatClampNeg) rate)) = 0 then (f_X_faultOfRate_l x i rate n (p + 1) (if 4000000000000000001 < (all + (f_X_creditWith x i (nI p) ((xP x i) (nI p).toNatClampNeg) rate)) then 4000000000000000001 else all + (f_X_creditWith x i (nI p) ((xP x i) (nI p).toNatClampNeg) rate))) else 9)) := rfl
def f_X_faultOfRate (x : XS) (i : Nat) (rate : Int64) : Int32 := f_X_faultOfRate_l x i rate (x.1 0 + 1) 1 0
set_option maxHeartbeats 4000000 in
set_option maxRecDepth 100000 in
theorem c_X_faultOfRate (l : Launch) (D : va_G) (cI cL cQ : ClassId) (d : Nat → Nat) (κ : Nat → Option va_E) (x : XS) (hX : IsX cI cL cQ d κ x) (hB : XB x) (sz : Nat) (i : Nat) (hi : i < x.1 2) (rate : Int64) (hsec : ¬ xS x i = 0) : Met l yX_faultOfRate wX_faultOfRate { frames := 3, cells := 0, slots := 0, locals := 80 } (va_Pc [.ref (d 18), .ref (d (32 + 3 * i)), .long (rate)] (kC D vCl (kT cI cL cQ) d κ sz)) (vp_Si (fun r => r = f_X_faultOfRate x i rate)) 0 0 (fun _ => False) := by
  refine kMet (by decide) (Nat.le_of_ble_eq_true rfl) ?_
  intro p0 e0 s0 m0 below0 meth0 c0 hx hb hr hml hown hlocks hin hts hsz hP hK ls hl
  have hl : lv_has ls 9 [(0, .ref (d 18)), (1, .ref (d (32 + 3 * i))), (2, .long (rate))] := hl
  have hB9 := hB
  obtain ⟨hb0, hb1, hb2, hb3, hb4, hb5, hb6, hb7, hb8⟩ := hB9
  refine lv_lconst (v := 0) hx hb dX_faultOfRate_0 (by decide) ?_
  refine lv_lstore (lv' := [(4, .long (0)), (0, .ref (d 18)), (1, .ref (d (32 + 3 * i))), (2, .long (rate))]) hx hb dX_faultOfRate_1 hl (by decide) rfl (fun ls hl => ?_)
  refine lv_iconst (v := 1) hx hb dX_faultOfRate_3 (by decide) ?_
  refine lv_istore (lv' := [(6, .int (1)), (4, .long (0)), (0, .ref (d 18)), (1, .ref (d (32 + 3 * i))), (2, .long (rate))]) hx hb dX_faultOfRate_4 hl (by decide) rfl (fun ls hl => ?_)
  refine k_rec (σ := Nat × Int64) (fun n z9 ls => z9.1 ≤ x.1 0 ∧ x.1 0 < z9.1 + n ∧ f_X_faultOfRate_l x i rate n z9.1 z9.2 = f_X_faultOfRate x i rate ∧ lv_has ls 9 [(6, .int (nI z9.1)), (4, .long z9.2), (0, .ref (d 18)), (1, .ref (d (32 + 3 * i))), (2, .long (rate))]) (x.1 0 + 1) (1, 0) ⟨by omega, by omega, by rw [f_X_faultOfRate], lv_sub hl [0, 1, 2, 3, 4] rfl⟩ ?_
  intro n z9 ls hI ih
  obtain ⟨p, all⟩ := z9
  obtain ⟨hk, hn, hE, hl⟩ := hI
  dsimp only at hk hn hE hl
  obtain ⟨n, rfl⟩ : ∃ q, n = q + 1 := ⟨n - 1, by omega⟩
  refine lv_iload hx hb dX_faultOfRate_6 (lv_at hl 0 rfl) ?_
  refine lv_aload_n hx hb dX_faultOfRate_8 rfl (lv_at hl 2 rfl) ?_
  refine ka_get (ci := 3) (C := RX) (T := TX) (N := 10) hx hb hts inX hown hK hP (q := 18) hX.1 rfl 0 (by decide) (hts _ tw_99) (fun _ h9 => h9) rfl dX_faultOfRate_9 ?_
  refine lv_icmp_ge (tgt := 65) hx hb dX_faultOfRate_12 (by decide) (fun c_12 => ?_) (fun c_12 => ?_)
  · refine lv_lload hx hb dX_faultOfRate_65 (lv_at hl 1 rfl) ?_
    refine lv_ldc2 (v := 4000000000000000000) hx hb hown (hts _ tw_195) dX_faultOfRate_67 ?_
    refine kl_le (tgt := 79) hx hb dX_faultOfRate_70 dX_faultOfRate_71 (by decide) (fun c_70 => ?_) (fun c_70 => ?_)
    · refine lv_iconst (v := 0) hx hb dX_faultOfRate_79 (by decide) ?_
      exact W.iret (v := 0) hx hb hr (fun t ht hW => ⟨_, rfl, by rw [← hE, f_X_faultOfRate_l_s, if_pos c_12, if_neg c_70], ht⟩) (fun q h => by cases h) dX_faultOfRate_80
    · refine lv_bipush (v := 10) hx hb dX_faultOfRate_74 (by decide) ?_
      refine lv_goto (tgt := 80) hx hb dX_faultOfRate_76 (by decide) ?_
      exact W.iret (v := 10) hx hb hr (fun t ht hW => ⟨_, rfl, by rw [← hE, f_X_faultOfRate_l_s, if_pos c_12, if_pos c_70], ht⟩) (fun q h => by cases h) dX_faultOfRate_80
  · have hlt : p < x.1 0 := Nat.lt_of_not_le (fun q => c_12 (nI_le q (by omega)))
    refine lv_aload_n hx hb dX_faultOfRate_15 rfl (lv_at hl 2 rfl) ?_
    refine lv_aload_n hx hb dX_faultOfRate_16 rfl (lv_at hl 3 rfl) ?_
    refine lv_iload hx hb dX_faultOfRate_17 (lv_at hl 0 rfl) ?_
    refine lv_aload_n hx hb dX_faultOfRate_19 rfl (lv_at hl 3 rfl) ?_
    refine ka_get (ci := 0) (C := RA) (T := TA) (N := 4) hx hb hts inA hown hK hP (q := (32 + 3 * i)) (hX.2.2.2.2.2.2.2.2.2.2.2.2.2.2.1 i hi).1 rfl 2 (by decide) (hts _ tw_148) (fun _ h9 => h9) rfl dX_faultOfRate_20 ?_
    refine lv_iload hx hb dX_faultOfRate_23 (lv_at hl 0 rfl) ?_
    refine ka_lald hx hb hK hP 1 (q := (34 + 3 * i)) (hX.2.2.2.2.2.2.2.2.2.2.2.2.2.2.1 i hi).2.2 rfl (by unfold xPl; rw [if_neg hsec]; exact (vp_in_nI (by omega) (by omega))) dX_faultOfRate_25 ?_
    refine lv_lload_n hx hb dX_faultOfRate_26 rfl (lv_at hl 4 rfl) ?_
    refine vp_callSl (W.runV (C := RX) (As := [.ref (d (32 + 3 * i)), .int (nI p), .long ((xP x i) (nI p).toNatClampNeg), .long (rate)]) (rest := []) ⟨hx, hb, hml, hown, hts⟩ (c_X_creditWith l D cI cL cQ d κ x hX hB _ i hi (nI p) ((xP x i) (nI p).toNatClampNeg) rate (vp_in_nI (by omega) (by omega)) hsec) (cwV 4 hts (k_gV tw_187 tw_189 tw_4 tw_38 tw_190) rfl rfl rfl (by decide +kernel) ⟨Nat.le_of_ble_eq_true rfl, Nat.le_of_ble_eq_true rfl⟩) (kPreV hP hK (q := 18) hX.1 rfl) rfl rfl hl.1 rfl (lv_room (Nat.le_of_ble_eq_true rfl)) dX_faultOfRate_27 ⟨Nat.le_of_ble_eq_true rfl, Nat.le_of_ble_eq_true rfl⟩) (fun r_27 e_27 => ?_)
    subst e_27
    refine lv_lstore (lv' := [(7, .long (f_X_creditWith x i (nI p) ((xP x i) (nI p).toNatClampNeg) rate)), (6, .int (nI p)), (4, .long (all)), (0, .ref (d 18)), (1, .ref (d (32 + 3 * i))), (2, .long (rate))]) hx hb dX_faultOfRate_30 hl (by decide) rfl (fun ls hl => ?_)
    refine lv_aload_n hx hb dX_faultOfRate_32 rfl (lv_at hl 3 rfl) ?_
    refine lv_iload hx hb dX_faultOfRate_33 (lv_at hl 1 rfl) ?_
    refine lv_lload hx hb dX_faultOfRate_35 (lv_at hl 0 rfl) ?_
    refine vp_callSi (W.runV (C := RX) (As := [.int (nI p), .long (f_X_creditWith x i (nI p) ((xP x i) (nI p).toNatClampNeg) rate)]) (rest := []) ⟨hx, hb, hml, hown, hts⟩ (c_X_isOverdrawn l D cI cL cQ d κ x hX hB _ (nI p) (f_X_creditWith x i (nI p) ((xP x i) (nI p).toNatClampNeg) rate) (vp_in_nI (by omega) (by omega))) (cwV 2 hts (k_gV tw_200 tw_202 tw_5 tw_38 tw_203) rfl rfl rfl (by decide +kernel) ⟨Nat.le_of_ble_eq_true rfl, Nat.le_of_ble_eq_true rfl⟩) (kPreV hP hK (q := 18) hX.1 rfl) rfl rfl hl.1 rfl (lv_room (Nat.le_of_ble_eq_true rfl)) dX_faultOfRate_37 ⟨Nat.le_of_ble_eq_true rfl, Nat.le_of_ble_eq_true rfl⟩) (fun r_37 e_37 => ?_)
    subst e_37
    refine lv_if_eq (tgt := 46) hx hb dX_faultOfRate_40 (by decide) (fun c_40 => ?_) (fun c_40 => ?_)
    · refine lv_lload hx hb dX_faultOfRate_46 (lv_at hl 2 rfl) ?_
      refine lv_lload hx hb dX_faultOfRate_48 (lv_at hl 0 rfl) ?_
      refine lv_ladd hx hb dX_faultOfRate_50 ?_
      refine lv_ldc2 (v := 4000000000000000001) hx hb hown (hts _ tw_196) dX_faultOfRate_51 ?_
      refine va_mmin_long hx hb (hml.trans hl.1.symm) hown (hts _ tw_197) (hts _ tw_198) (hts _ tw_43) (hts _ tw_199) (by decide) (by decide) (Nat.zero_le _) (Nat.zero_le _) dX_faultOfRate_54 ?_
      refine lv_lstore (lv' := [(4, .long (if 4000000000000000001 < (all + (f_X_creditWith x i (nI p) ((xP x i) (nI p).toNatClampNeg) rate)) then 4000000000000000001 else all + (f_X_creditWith x i (nI p) ((xP x i) (nI p).toNatClampNeg) rate))), (7, .long (f_X_creditWith x i (nI p) ((xP x i) (nI p).toNatClampNeg) rate)), (6, .int (nI p)), (0, .ref (d 18)), (1, .ref (d (32 + 3 * i))), (2, .long (rate))]) hx hb dX_faultOfRate_57 hl (by decide) rfl (fun ls hl => ?_)
      refine lv_iinc (v := nI (p + 1)) (lv' := [(6, .int (nI (p + 1))), (4, .long (if 4000000000000000001 < (all + (f_X_creditWith x i (nI p) ((xP x i) (nI p).toNatClampNeg) rate)) then 4000000000000000001 else all + (f_X_creditWith x i (nI p) ((xP x i) (nI p).toNatClampNeg) rate))), (7, .long (f_X_creditWith x i (nI p) ((xP x i) (nI p).toNatClampNeg) rate)), (0, .ref (d 18)), (1, .ref (d (32 + 3 * i))), (2, .long (rate))]) hx hb dX_faultOfRate_59 hl (k := 2) rfl (nI_add p 1) (by decide) rfl (fun ls hl => ?_)
      refine lv_goto (tgt := 6) hx hb dX_faultOfRate_62 (by decide) ?_
      exact ih n (p + 1, if 4000000000000000001 < (all + (f_X_creditWith x i (nI p) ((xP x i) (nI p).toNatClampNeg) rate)) then 4000000000000000001 else all + (f_X_creditWith x i (nI p) ((xP x i) (nI p).toNatClampNeg) rate)) ls (by omega) ⟨by omega, by omega, by rw [← hE, f_X_faultOfRate_l_s, if_neg c_12, if_pos c_40], lv_sub hl [0, 1, 3, 4, 5] rfl⟩
    · refine lv_bipush (v := 9) hx hb dX_faultOfRate_43 (by decide) ?_
      exact W.iret (v := 9) hx hb hr (fun t ht hW => ⟨_, rfl, by rw [← hE, f_X_faultOfRate_l_s, if_neg c_12, if_neg c_40], ht⟩) (fun q h => by cases h) dX_faultOfRate_45

theorem dX_paidFrom_0 : decode prog_1_method_40_code 0 = .ok (.iload_n 1, 1) := by decide +kernel
theorem dX_paidFrom_1 : decode prog_1_method_40_code 1 = .ok (.iload_n 2, 1) := by decide +kernel
theorem dX_paidFrom_2 : decode prog_1_method_40_code 2 = .ok (.if_icmp .ge 19, 3) := by decide +kernel
theorem dX_paidFrom_5 : decode prog_1_method_40_code 5 = .ok (.aload_n 0, 1) := by decide +kernel
theorem dX_paidFrom_6 : decode prog_1_method_40_code 6 = .ok (.getfield 45, 3) := by decide +kernel
theorem dX_paidFrom_9 : decode prog_1_method_40_code 9 = .ok (.aload_n 0, 1) := by decide +kernel
theorem dX_paidFrom_10 : decode prog_1_method_40_code 10 = .ok (.iload_n 1, 1) := by decide +kernel
theorem dX_paidFrom_11 : decode prog_1_method_40_code 11 = .ok (.iload_n 2, 1) := by decide +kernel
theorem dX_paidFrom_12 : decode prog_1_method_40_code 12 = .ok (.invokevirtual 120, 3) := by decide +kernel
theorem dX_paidFrom_15 : decode prog_1_method_40_code 15 = .ok (.invokevirtual 221, 3) := by decide +kernel
theorem dX_paidFrom_18 : decode prog_1_method_40_code 18 = .ok (.goto 17, 3) := by decide +kernel
theorem dX_paidFrom_21 : decode prog_1_method_40_code 21 = .ok (.aload_n 0, 1) := by decide +kernel
theorem dX_paidFrom_22 : decode prog_1_method_40_code 22 = .ok (.getfield 45, 3) := by decide +kernel
theorem dX_paidFrom_25 : decode prog_1_method_40_code 25 = .ok (.aload_n 0, 1) := by decide +kernel
theorem dX_paidFrom_26 : decode prog_1_method_40_code 26 = .ok (.iload_n 2, 1) := by decide +kernel
theorem dX_paidFrom_27 : decode prog_1_method_40_code 27 = .ok (.iload_n 1, 1) := by decide +kernel
theorem dX_paidFrom_28 : decode prog_1_method_40_code 28 = .ok (.invokevirtual 120, 3) := by decide +kernel
theorem dX_paidFrom_31 : decode prog_1_method_40_code 31 = .ok (.invokevirtual 221, 3) := by decide +kernel
theorem dX_paidFrom_34 : decode prog_1_method_40_code 34 = .ok (.lneg, 1) := by decide +kernel
theorem dX_paidFrom_35 : decode prog_1_method_40_code 35 = .ok (.lreturn, 1) := by decide +kernel
def f_X_paidFrom (x : XS) (p : Int32) (q : Int32) : Int64 := if q ≤ p then (-(f_P_amountOf (x.1 4) (x.2.2.2.1 1) (x.2.2.2.2.1 2) (f_X_pairOf x q p))) else (f_P_amountOf (x.1 4) (x.2.2.2.1 1) (x.2.2.2.2.1 2) (f_X_pairOf x p q))
set_option maxHeartbeats 4000000 in
set_option maxRecDepth 100000 in
theorem c_X_paidFrom (l : Launch) (D : va_G) (cI cL cQ : ClassId) (d : Nat → Nat) (κ : Nat → Option va_E) (x : XS) (hX : IsX cI cL cQ d κ x) (hB : XB x) (sz : Nat) (p : Int32) (q : Int32)  : Met l yX_paidFrom wX_paidFrom { frames := 2, cells := 0, slots := 0, locals := 44 } (va_Pc [.ref (d 18), .int (p), .int (q)] (kC D vCl (kT cI cL cQ) d κ sz)) (vp_Sl (fun r => r = f_X_paidFrom x p q)) 0 0 (fun _ => False) := by
  refine kMet (by decide) (Nat.le_of_ble_eq_true rfl) ?_
  intro p0 e0 s0 m0 below0 meth0 c0 hx hb hr hml hown hlocks hin hts hsz hP hK ls hl
  have hl : lv_has ls 3 [(0, .ref (d 18)), (1, .int (p)), (2, .int (q))] := hl
  have hB9 := hB
  obtain ⟨hb0, hb1, hb2, hb3, hb4, hb5, hb6, hb7, hb8⟩ := hB9
  refine lv_iload_n hx hb dX_paidFrom_0 rfl (lv_at hl 1 rfl) ?_
  refine lv_iload_n hx hb dX_paidFrom_1 rfl (lv_at hl 2 rfl) ?_
  refine lv_icmp_ge (tgt := 21) hx hb dX_paidFrom_2 (by decide) (fun c_2 => ?_) (fun c_2 => ?_)
  · refine lv_aload_n hx hb dX_paidFrom_21 rfl (lv_at hl 0 rfl) ?_
    refine ka_get (ci := 3) (C := RX) (T := TX) (N := 10) hx hb hts inX hown hK hP (q := 18) hX.1 rfl 8 (by decide) (hts _ tw_107) (fun _ h9 => h9) rfl dX_paidFrom_22 ?_
    refine lv_aload_n hx hb dX_paidFrom_25 rfl (lv_at hl 0 rfl) ?_
    refine lv_iload_n hx hb dX_paidFrom_26 rfl (lv_at hl 2 rfl) ?_
    refine lv_iload_n hx hb dX_paidFrom_27 rfl (lv_at hl 1 rfl) ?_
    refine vp_callSi (W.runV (C := RX) (As := [.int (q), .int (p)]) (rest := [.ref (d 24)]) ⟨hx, hb, hml, hown, hts⟩ (c_X_pairOf l D cI cL cQ d κ x hX hB _ q p) (cwV 2 hts (k_gV tw_257 tw_259 tw_12 tw_38 tw_260) rfl rfl rfl (by decide +kernel) ⟨Nat.le_of_ble_eq_true rfl, Nat.le_of_ble_eq_true rfl⟩) (kPreV hP hK (q := 18) hX.1 rfl) rfl rfl hl.1 rfl (lv_room (Nat.le_of_ble_eq_true rfl)) dX_paidFrom_28 ⟨Nat.le_of_ble_eq_true rfl, Nat.le_of_ble_eq_true rfl⟩) (fun r_28 e_28 => ?_)
    subst e_28
    refine vp_callSl (W.runV (C := RP) (As := [.int (f_X_pairOf x q p)]) (rest := []) ⟨hx, hb, hml, hown, hts⟩ (c_P_amountOf l D cI cL cQ d κ 24 512 (x.1 4) (x.2.2.2.1 1) (x.2.2.2.2.1 2) ⟨hX.2.2.2.2.2.2.1, hX.2.2.2.2.2.2.2.1, hX.2.2.2.2.2.2.2.2.1⟩ (by omega) (by decide) _ (f_X_pairOf x q p)) (cwV 1 hts (k_gV tw_261 tw_262 tw_263 tw_39 tw_264) rfl rfl rfl (by decide +kernel) ⟨Nat.le_of_ble_eq_true rfl, Nat.le_of_ble_eq_true rfl⟩) (kPreV hP hK (q := 24) hX.2.2.2.2.2.2.1 rfl) rfl rfl hl.1 rfl (lv_room (Nat.le_of_ble_eq_true rfl)) dX_paidFrom_31 ⟨Nat.le_of_ble_eq_true rfl, Nat.le_of_ble_eq_true rfl⟩) (fun r_31 e_31 => ?_)
    subst e_31
    refine lv_lneg hx hb dX_paidFrom_34 ?_
    exact W.lret (v := -(f_P_amountOf (x.1 4) (x.2.2.2.1 1) (x.2.2.2.2.1 2) (f_X_pairOf x q p))) hx hb hr (fun t ht hW => ⟨_, rfl, by rw [f_X_paidFrom, if_pos c_2], ht⟩) (fun q h => by cases h) dX_paidFrom_35
  · refine lv_aload_n hx hb dX_paidFrom_5 rfl (lv_at hl 0 rfl) ?_
    refine ka_get (ci := 3) (C := RX) (T := TX) (N := 10) hx hb hts inX hown hK hP (q := 18) hX.1 rfl 8 (by decide) (hts _ tw_107) (fun _ h9 => h9) rfl dX_paidFrom_6 ?_
    refine lv_aload_n hx hb dX_paidFrom_9 rfl (lv_at hl 0 rfl) ?_
    refine lv_iload_n hx hb dX_paidFrom_10 rfl (lv_at hl 1 rfl) ?_
    refine lv_iload_n hx hb dX_paidFrom_11 rfl (lv_at hl 2 rfl) ?_
    refine vp_callSi (W.runV (C := RX) (As := [.int (p), .int (q)]) (rest := [.ref (d 24)]) ⟨hx, hb, hml, hown, hts⟩ (c_X_pairOf l D cI cL cQ d κ x hX hB _ p q) (cwV 2 hts (k_gV tw_257 tw_259 tw_12 tw_38 tw_260) rfl rfl rfl (by decide +kernel) ⟨Nat.le_of_ble_eq_true rfl, Nat.le_of_ble_eq_true rfl⟩) (kPreV hP hK (q := 18) hX.1 rfl) rfl rfl hl.1 rfl (lv_room (Nat.le_of_ble_eq_true rfl)) dX_paidFrom_12 ⟨Nat.le_of_ble_eq_true rfl, Nat.le_of_ble_eq_true rfl⟩) (fun r_12 e_12 => ?_)
    subst e_12
    refine vp_callSl (W.runV (C := RP) (As := [.int (f_X_pairOf x p q)]) (rest := []) ⟨hx, hb, hml, hown, hts⟩ (c_P_amountOf l D cI cL cQ d κ 24 512 (x.1 4) (x.2.2.2.1 1) (x.2.2.2.2.1 2) ⟨hX.2.2.2.2.2.2.1, hX.2.2.2.2.2.2.2.1, hX.2.2.2.2.2.2.2.2.1⟩ (by omega) (by decide) _ (f_X_pairOf x p q)) (cwV 1 hts (k_gV tw_261 tw_262 tw_263 tw_39 tw_264) rfl rfl rfl (by decide +kernel) ⟨Nat.le_of_ble_eq_true rfl, Nat.le_of_ble_eq_true rfl⟩) (kPreV hP hK (q := 24) hX.2.2.2.2.2.2.1 rfl) rfl rfl hl.1 rfl (lv_room (Nat.le_of_ble_eq_true rfl)) dX_paidFrom_15 ⟨Nat.le_of_ble_eq_true rfl, Nat.le_of_ble_eq_true rfl⟩) (fun r_15 e_15 => ?_)
    subst e_15
    refine lv_goto (tgt := 35) hx hb dX_paidFrom_18 (by decide) ?_
    exact W.lret (v := f_P_amountOf (x.1 4) (x.2.2.2.1 1) (x.2.2.2.2.1 2) (f_X_pairOf x p q)) hx hb hr (fun t ht hW => ⟨_, rfl, by rw [f_X_paidFrom, if_neg c_2], ht⟩) (fun q h => by cases h) dX_paidFrom_35

theorem dX_roomOf_0 : decode prog_1_method_42_code 0 = .ok (.aload_n 0, 1) := by decide +kernel
theorem dX_roomOf_1 : decode prog_1_method_42_code 1 = .ok (.getfield 41, 3) := by decide +kernel
theorem dX_roomOf_4 : decode prog_1_method_42_code 4 = .ok (.iload_n 1, 1) := by decide +kernel
theorem dX_roomOf_5 : decode prog_1_method_42_code 5 = .ok (.invokevirtual 221, 3) := by decide +kernel
theorem dX_roomOf_8 : decode prog_1_method_42_code 8 = .ok (.aload_n 0, 1) := by decide +kernel
theorem dX_roomOf_9 : decode prog_1_method_42_code 9 = .ok (.iload_n 1, 1) := by decide +kernel
theorem dX_roomOf_10 : decode prog_1_method_42_code 10 = .ok (.aload_n 0, 1) := by decide +kernel
theorem dX_roomOf_11 : decode prog_1_method_42_code 11 = .ok (.getfield 9, 3) := by decide +kernel
theorem dX_roomOf_14 : decode prog_1_method_42_code 14 = .ok (.idiv, 1) := by decide +kernel
theorem dX_roomOf_15 : decode prog_1_method_42_code 15 = .ok (.iload_n 1, 1) := by decide +kernel
theorem dX_roomOf_16 : decode prog_1_method_42_code 16 = .ok (.aload_n 0, 1) := by decide +kernel
theorem dX_roomOf_17 : decode prog_1_method_42_code 17 = .ok (.getfield 9, 3) := by decide +kernel
theorem dX_roomOf_20 : decode prog_1_method_42_code 20 = .ok (.irem, 1) := by decide +kernel
theorem dX_roomOf_21 : decode prog_1_method_42_code 21 = .ok (.invokevirtual 116, 3) := by decide +kernel
theorem dX_roomOf_24 : decode prog_1_method_42_code 24 = .ok (.lsub, 1) := by decide +kernel
theorem dX_roomOf_25 : decode prog_1_method_42_code 25 = .ok (.lreturn, 1) := by decide +kernel
def f_X_roomOf (x : XS) (pair : Int32) : Int64 := (f_P_amountOf (x.1 3) (x.2.2.2.1 0) (x.2.2.2.2.1 1) pair) - (f_X_paidFrom x (pair / (nI (x.1 0))) (pair - pair / (nI (x.1 0)) * (nI (x.1 0))))
set_option maxHeartbeats 4000000 in
set_option maxRecDepth 100000 in
theorem c_X_roomOf (l : Launch) (D : va_G) (cI cL cQ : ClassId) (d : Nat → Nat) (κ : Nat → Option va_E) (x : XS) (hX : IsX cI cL cQ d κ x) (hB : XB x) (sz : Nat) (pair : Int32)  : Met l yX_roomOf wX_roomOf { frames := 3, cells := 0, slots := 0, locals := 66 } (va_Pc [.ref (d 18), .int (pair)] (kC D vCl (kT cI cL cQ) d κ sz)) (vp_Sl (fun r => r = f_X_roomOf x pair)) 0 0 (fun _ => False) := by
  refine kMet (by decide) (Nat.le_of_ble_eq_true rfl) ?_
  intro p0 e0 s0 m0 below0 meth0 c0 hx hb hr hml hown hlocks hin hts hsz hP hK ls hl
  have hl : lv_has ls 2 [(0, .ref (d 18)), (1, .int (pair))] := hl
  have hB9 := hB
  obtain ⟨hb0, hb1, hb2, hb3, hb4, hb5, hb6, hb7, hb8⟩ := hB9
  refine lv_aload_n hx hb dX_roomOf_0 rfl (lv_at hl 0 rfl) ?_
  refine ka_get (ci := 3) (C := RX) (T := TX) (N := 10) hx hb hts inX hown hK hP (q := 18) hX.1 rfl 7 (by decide) (hts _ tw_106) (fun _ h9 => h9) rfl dX_roomOf_1 ?_
  refine lv_iload_n hx hb dX_roomOf_4 rfl (lv_at hl 1 rfl) ?_
  refine vp_callSl (W.runV (C := RP) (As := [.int (pair)]) (rest := []) ⟨hx, hb, hml, hown, hts⟩ (c_P_amountOf l D cI cL cQ d κ 21 40 (x.1 3) (x.2.2.2.1 0) (x.2.2.2.2.1 1) ⟨hX.2.2.2.1, hX.2.2.2.2.1, hX.2.2.2.2.2.1⟩ (by omega) (by decide) _ pair) (cwV 1 hts (k_gV tw_261 tw_262 tw_263 tw_39 tw_264) rfl rfl rfl (by decide +kernel) ⟨Nat.le_of_ble_eq_true rfl, Nat.le_of_ble_eq_true rfl⟩) (kPreV hP hK (q := 21) hX.2.2.2.1 rfl) rfl rfl hl.1 rfl (lv_room (Nat.le_of_ble_eq_true rfl)) dX_roomOf_5 ⟨Nat.le_of_ble_eq_true rfl, Nat.le_of_ble_eq_true rfl⟩) (fun r_5 e_5 => ?_)
  subst e_5
  refine lv_aload_n hx hb dX_roomOf_8 rfl (lv_at hl 0 rfl) ?_
  refine lv_iload_n hx hb dX_roomOf_9 rfl (lv_at hl 1 rfl) ?_
  refine lv_aload_n hx hb dX_roomOf_10 rfl (lv_at hl 0 rfl) ?_
  refine ka_get (ci := 3) (C := RX) (T := TX) (N := 10) hx hb hts inX hown hK hP (q := 18) hX.1 rfl 0 (by decide) (hts _ tw_99) (fun _ h9 => h9) rfl dX_roomOf_11 ?_
  refine lv_idiv hx hb dX_roomOf_14 (nI_ne0 (by omega) (by omega)) ?_
  refine lv_iload_n hx hb dX_roomOf_15 rfl (lv_at hl 1 rfl) ?_
  refine lv_aload_n hx hb dX_roomOf_16 rfl (lv_at hl 0 rfl) ?_
  refine ka_get (ci := 3) (C := RX) (T := TX) (N := 10) hx hb hts inX hown hK hP (q := 18) hX.1 rfl 0 (by decide) (hts _ tw_99) (fun _ h9 => h9) rfl dX_roomOf_17 ?_
  refine lv_irem hx hb dX_roomOf_20 (nI_ne0 (by omega) (by omega)) ?_
  refine vp_callSl (W.runV (C := RX) (As := [.int (pair / (nI (x.1 0))), .int (pair - pair / (nI (x.1 0)) * (nI (x.1 0)))]) (rest := [.long (f_P_amountOf (x.1 3) (x.2.2.2.1 0) (x.2.2.2.2.1 1) pair)]) ⟨hx, hb, hml, hown, hts⟩ (c_X_paidFrom l D cI cL cQ d κ x hX hB _ (pair / (nI (x.1 0))) (pair - pair / (nI (x.1 0)) * (nI (x.1 0)))) (cwV 2 hts (k_gV tw_253 tw_255 tw_11 tw_38 tw_256) rfl rfl rfl (by decide +kernel) ⟨Nat.le_of_ble_eq_true rfl, Nat.le_of_ble_eq_true rfl⟩) (kPreV hP hK (q := 18) hX.1 rfl) rfl rfl hl.1 rfl (lv_room (Nat.le_of_ble_eq_true rfl)) dX_roomOf_21 ⟨Nat.le_of_ble_eq_true rfl, Nat.le_of_ble_eq_true rfl⟩) (fun r_21 e_21 => ?_)
  subst e_21
  refine lv_lsub hx hb dX_roomOf_24 ?_
  exact W.lret (v := (f_P_amountOf (x.1 3) (x.2.2.2.1 0) (x.2.2.2.2.1 1) pair) - (f_X_paidFrom x (pair / (nI (x.1 0))) (pair - pair / (nI (x.1 0)) * (nI (x.1 0))))) hx hb hr (fun t ht hW => ⟨_, rfl, by rw [f_X_roomOf], ht⟩) (fun q h => by cases h) dX_roomOf_25

theorem dX_breaksFloor_0 : decode prog_1_method_43_code 0 = .ok (.aload_n 0, 1) := by decide +kernel
theorem dX_breaksFloor_1 : decode prog_1_method_43_code 1 = .ok (.iload_n 2, 1) := by decide +kernel
theorem dX_breaksFloor_2 : decode prog_1_method_43_code 2 = .ok (.invokevirtual 79, 3) := by decide +kernel
theorem dX_breaksFloor_5 : decode prog_1_method_43_code 5 = .ok (.astore_n 3, 1) := by decide +kernel
theorem dX_breaksFloor_6 : decode prog_1_method_43_code 6 = .ok (.aload_n 0, 1) := by decide +kernel
theorem dX_breaksFloor_7 : decode prog_1_method_43_code 7 = .ok (.getfield 51, 3) := by decide +kernel
theorem dX_breaksFloor_10 : decode prog_1_method_43_code 10 = .ok (.iload_n 1, 1) := by decide +kernel
theorem dX_breaksFloor_11 : decode prog_1_method_43_code 11 = .ok (.iload_n 2, 1) := by decide +kernel
theorem dX_breaksFloor_12 : decode prog_1_method_43_code 12 = .ok (.invokevirtual 174, 3) := by decide +kernel
theorem dX_breaksFloor_15 : decode prog_1_method_43_code 15 = .ok (.lstore 4, 2) := by decide +kernel
theorem dX_breaksFloor_17 : decode prog_1_method_43_code 17 = .ok (.aload_n 3, 1) := by decide +kernel
theorem dX_breaksFloor_18 : decode prog_1_method_43_code 18 = .ok (.ifnull 33, 3) := by decide +kernel
theorem dX_breaksFloor_21 : decode prog_1_method_43_code 21 = .ok (.lload 4, 2) := by decide +kernel
theorem dX_breaksFloor_23 : decode prog_1_method_43_code 23 = .ok (.lconst 0, 1) := by decide +kernel
theorem dX_breaksFloor_24 : decode prog_1_method_43_code 24 = .ok (.lcmp, 1) := by decide +kernel
theorem dX_breaksFloor_25 : decode prog_1_method_43_code 25 = .ok (.ifCond .ge 26, 3) := by decide +kernel
theorem dX_breaksFloor_28 : decode prog_1_method_43_code 28 = .ok (.aload_n 3, 1) := by decide +kernel
theorem dX_breaksFloor_29 : decode prog_1_method_43_code 29 = .ok (.getfield 90, 3) := by decide +kernel
theorem dX_breaksFloor_32 : decode prog_1_method_43_code 32 = .ok (.iload_n 1, 1) := by decide +kernel
theorem dX_breaksFloor_33 : decode prog_1_method_43_code 33 = .ok (.laload, 1) := by decide +kernel
theorem dX_breaksFloor_34 : decode prog_1_method_43_code 34 = .ok (.lload 4, 2) := by decide +kernel
theorem dX_breaksFloor_36 : decode prog_1_method_43_code 36 = .ok (.ladd, 1) := by decide +kernel
theorem dX_breaksFloor_37 : decode prog_1_method_43_code 37 = .ok (.aload_n 0, 1) := by decide +kernel
theorem dX_breaksFloor_38 : decode prog_1_method_43_code 38 = .ok (.aload_n 3, 1) := by decide +kernel
theorem dX_breaksFloor_39 : decode prog_1_method_43_code 39 = .ok (.iload_n 1, 1) := by decide +kernel
theorem dX_breaksFloor_40 : decode prog_1_method_43_code 40 = .ok (.invokevirtual 99, 3) := by decide +kernel
theorem dX_breaksFloor_43 : decode prog_1_method_43_code 43 = .ok (.lcmp, 1) := by decide +kernel
theorem dX_breaksFloor_44 : decode prog_1_method_43_code 44 = .ok (.ifCond .ge 7, 3) := by decide +kernel
theorem dX_breaksFloor_47 : decode prog_1_method_43_code 47 = .ok (.iconst 1, 1) := by decide +kernel
theorem dX_breaksFloor_48 : decode prog_1_method_43_code 48 = .ok (.goto 4, 3) := by decide +kernel
theorem dX_breaksFloor_51 : decode prog_1_method_43_code 51 = .ok (.iconst 0, 1) := by decide +kernel
theorem dX_breaksFloor_52 : decode prog_1_method_43_code 52 = .ok (.ireturn, 1) := by decide +kernel
def f_X_breaksFloor (x : XS) (p : Int32) (a : Int32) : Int32 := if xIs x a then (if (f_G_netOf x p a) < 0 then (if (((xH x ((a).toNatClampNeg)) (p).toNatClampNeg) + (f_G_netOf x p a)) < (f_X_lowest x ((a).toNatClampNeg) p) then 1 else 0) else 0) else 0
theorem b_X_breaksFloor (x : XS) (p : Int32) (a : Int32) : f_X_breaksFloor x p a = 0 ∨ f_X_breaksFloor x p a = 1 := by
  unfold f_X_breaksFloor
  repeat' (first | split | exact Or.inl rfl | exact Or.inr rfl)
set_option maxHeartbeats 4000000 in
set_option maxRecDepth 100000 in
theorem c_X_breaksFloor (l : Launch) (D : va_G) (cI cL cQ : ClassId) (d : Nat → Nat) (κ : Nat → Option va_E) (x : XS) (hX : IsX cI cL cQ d κ x) (hB : XB x) (sz : Nat) (p : Int32) (a : Int32) (hpP : vp_in p (x.1 0)) : Met l yX_breaksFloor wX_breaksFloor { frames := 2, cells := 0, slots := 0, locals := 43 } (va_Pc [.ref (d 18), .int (p), .int (a)] (kC D vCl (kT cI cL cQ) d κ sz)) (vp_Si (fun r => r = f_X_breaksFloor x p a)) 0 0 (fun _ => False) := by
  refine kMet (by decide) (Nat.le_of_ble_eq_true rfl) ?_
  intro p0 e0 s0 m0 below0 meth0 c0 hx hb hr hml hown hlocks hin hts hsz hP hK ls hl
  have hl : lv_has ls 6 [(0, .ref (d 18)), (1, .int (p)), (2, .int (a))] := hl
  have hB9 := hB
  obtain ⟨hb0, hb1, hb2, hb3, hb4, hb5, hb6, hb7, hb8⟩ := hB9
  refine lv_aload_n hx hb dX_breaksFloor_0 rfl (lv_at hl 0 rfl) ?_
  refine lv_iload_n hx hb dX_breaksFloor_1 rfl (lv_at hl 2 rfl) ?_
  refine va_csq (W.runV (C := RX) (As := [.int (a)]) (rest := []) ⟨hx, hb, hml, hown, hts⟩ (c_X_assetAt l D cI cL cQ d κ x hX hB _ a) (cwV 1 hts (k_gV tw_179 tw_181 tw_2 tw_38 tw_182) rfl rfl rfl (by decide +kernel) ⟨Nat.le_of_ble_eq_true rfl, Nat.le_of_ble_eq_true rfl⟩) (kPreV hP hK (q := 18) hX.1 rfl) rfl rfl hl.1 rfl (lv_room (Nat.le_of_ble_eq_true rfl)) dX_breaksFloor_2 ⟨Nat.le_of_ble_eq_true rfl, Nat.le_of_ble_eq_true rfl⟩) (fun r_2 e_2 => ?_)
  subst e_2
  by_cases hA_2 : xIs x a
  · rw [if_pos hA_2]
    have hi_2 : (a).toNatClampNeg < x.1 2 := (xIs_in hB hA_2).2
    refine lv_astore_n (lv' := [(3, .ref (d (32 + 3 * (a).toNatClampNeg))), (0, .ref (d 18)), (1, .int (p)), (2, .int (a))]) hx hb dX_breaksFloor_5 rfl hl (by decide) rfl (fun ls hl => ?_)
    refine lv_aload_n hx hb dX_breaksFloor_6 rfl (lv_at hl 1 rfl) ?_
    refine ka_get (ci := 3) (C := RX) (T := TX) (N := 10) hx hb hts inX hown hK hP (q := 18) hX.1 rfl 9 (by decide) (hts _ tw_108) (fun _ h9 => h9) rfl dX_breaksFloor_7 ?_
    refine lv_iload_n hx hb dX_breaksFloor_10 rfl (lv_at hl 2 rfl) ?_
    refine lv_iload_n hx hb dX_breaksFloor_11 rfl (lv_at hl 3 rfl) ?_
    refine vp_callSl (W.runV (C := RG) (As := [.int (p), .int (a)]) (rest := []) ⟨hx, hb, hml, hown, hts⟩ (c_G_netOf l D cI cL cQ d κ x hX hB _ p a) (cwV 2 hts (k_gV tw_305 tw_306 tw_307 tw_40 tw_308) rfl rfl rfl (by decide +kernel) ⟨Nat.le_of_ble_eq_true rfl, Nat.le_of_ble_eq_true rfl⟩) (kPreV hP hK (q := 27) hX.2.2.2.2.2.2.2.2.2.1 rfl) rfl rfl hl.1 rfl (lv_room (Nat.le_of_ble_eq_true rfl)) dX_breaksFloor_12 ⟨Nat.le_of_ble_eq_true rfl, Nat.le_of_ble_eq_true rfl⟩) (fun r_12 e_12 => ?_)
    subst e_12
    refine lv_lstore (lv' := [(4, .long (f_G_netOf x p a)), (3, .ref (d (32 + 3 * (a).toNatClampNeg))), (0, .ref (d 18)), (1, .int (p)), (2, .int (a))]) hx hb dX_breaksFloor_15 hl (by decide) rfl (fun ls hl => ?_)
    refine lv_aload_n hx hb dX_breaksFloor_17 rfl (lv_at hl 1 rfl) ?_
    refine lv_ifnull hx hb dX_breaksFloor_18 ?_
    refine lv_lload hx hb dX_breaksFloor_21 (lv_at hl 0 rfl) ?_
    refine lv_lconst (v := 0) hx hb dX_breaksFloor_23 (by decide) ?_
    refine kl_ge (tgt := 51) hx hb dX_breaksFloor_24 dX_breaksFloor_25 (by decide) (fun c_24 => ?_) (fun c_24 => ?_)
    · refine lv_iconst (v := 0) hx hb dX_breaksFloor_51 (by decide) ?_
      exact W.zret (v := 0) hx hb hr k_nar0 (fun t ht hW => ⟨_, rfl, by rw [f_X_breaksFloor, if_pos hA_2, if_neg c_24], ht⟩) (fun q h => by cases h) dX_breaksFloor_52
    · refine lv_aload_n hx hb dX_breaksFloor_28 rfl (lv_at hl 1 rfl) ?_
      refine ka_get (ci := 0) (C := RA) (T := TA) (N := 4) hx hb hts inA hown hK hP (q := (32 + 3 * (a).toNatClampNeg)) (hX.2.2.2.2.2.2.2.2.2.2.2.2.2.2.1 ((a).toNatClampNeg) hi_2).1 rfl 1 (by decide) (hts _ tw_146) (fun _ h9 => h9) rfl dX_breaksFloor_29 ?_
      refine lv_iload_n hx hb dX_breaksFloor_32 rfl (lv_at hl 3 rfl) ?_
      refine ka_lald hx hb hK hP 1 (q := (33 + 3 * (a).toNatClampNeg)) (hX.2.2.2.2.2.2.2.2.2.2.2.2.2.2.1 ((a).toNatClampNeg) hi_2).2.1 rfl (by first | assumption | exact vp_in_nI (by omega) (by omega)) dX_breaksFloor_33 ?_
      refine lv_lload hx hb dX_breaksFloor_34 (lv_at hl 0 rfl) ?_
      refine lv_ladd hx hb dX_breaksFloor_36 ?_
      refine lv_aload_n hx hb dX_breaksFloor_37 rfl (lv_at hl 2 rfl) ?_
      refine lv_aload_n hx hb dX_breaksFloor_38 rfl (lv_at hl 1 rfl) ?_
      refine lv_iload_n hx hb dX_breaksFloor_39 rfl (lv_at hl 3 rfl) ?_
      refine vp_callSl (W.runV (C := RX) (As := [.ref (d (32 + 3 * (a).toNatClampNeg)), .int (p)]) (rest := [.long (((xH x ((a).toNatClampNeg)) (p).toNatClampNeg) + (f_G_netOf x p a))]) ⟨hx, hb, hml, hown, hts⟩ (c_X_lowest l D cI cL cQ d κ x hX hB _ ((a).toNatClampNeg) hi_2 p hpP) (cwV 2 hts (k_gV tw_228 tw_230 tw_8 tw_38 tw_231) rfl rfl rfl (by decide +kernel) ⟨Nat.le_of_ble_eq_true rfl, Nat.le_of_ble_eq_true rfl⟩) (kPreV hP hK (q := 18) hX.1 rfl) rfl rfl hl.1 rfl (lv_room (Nat.le_of_ble_eq_true rfl)) dX_breaksFloor_40 ⟨Nat.le_of_ble_eq_true rfl, Nat.le_of_ble_eq_true rfl⟩) (fun r_40 e_40 => ?_)
      subst e_40
      refine kl_ge (tgt := 51) hx hb dX_breaksFloor_43 dX_breaksFloor_44 (by decide) (fun c_43 => ?_) (fun c_43 => ?_)
      · refine lv_iconst (v := 0) hx hb dX_breaksFloor_51 (by decide) ?_
        exact W.zret (v := 0) hx hb hr k_nar0 (fun t ht hW => ⟨_, rfl, by rw [f_X_breaksFloor, if_pos hA_2, if_pos c_24, if_neg c_43], ht⟩) (fun q h => by cases h) dX_breaksFloor_52
      · refine lv_iconst (v := 1) hx hb dX_breaksFloor_47 (by decide) ?_
        refine lv_goto (tgt := 52) hx hb dX_breaksFloor_48 (by decide) ?_
        exact W.zret (v := 1) hx hb hr k_nar1 (fun t ht hW => ⟨_, rfl, by rw [f_X_breaksFloor, if_pos hA_2, if_pos c_24, if_pos c_43], ht⟩) (fun q h => by cases h) dX_breaksFloor_52
  · rw [if_neg hA_2]
    refine lv_astore_nN (lv' := [(3, .null), (0, .ref (d 18)), (1, .int (p)), (2, .int (a))]) hx hb dX_breaksFloor_5 rfl hl (by decide) rfl (fun ls hl => ?_)
    refine lv_aload_n hx hb dX_breaksFloor_6 rfl (lv_at hl 1 rfl) ?_
    refine ka_get (ci := 3) (C := RX) (T := TX) (N := 10) hx hb hts inX hown hK hP (q := 18) hX.1 rfl 9 (by decide) (hts _ tw_108) (fun _ h9 => h9) rfl dX_breaksFloor_7 ?_
    refine lv_iload_n hx hb dX_breaksFloor_10 rfl (lv_at hl 2 rfl) ?_
    refine lv_iload_n hx hb dX_breaksFloor_11 rfl (lv_at hl 3 rfl) ?_
    refine vp_callSl (W.runV (C := RG) (As := [.int (p), .int (a)]) (rest := []) ⟨hx, hb, hml, hown, hts⟩ (c_G_netOf l D cI cL cQ d κ x hX hB _ p a) (cwV 2 hts (k_gV tw_305 tw_306 tw_307 tw_40 tw_308) rfl rfl rfl (by decide +kernel) ⟨Nat.le_of_ble_eq_true rfl, Nat.le_of_ble_eq_true rfl⟩) (kPreV hP hK (q := 27) hX.2.2.2.2.2.2.2.2.2.1 rfl) rfl rfl hl.1 rfl (lv_room (Nat.le_of_ble_eq_true rfl)) dX_breaksFloor_12 ⟨Nat.le_of_ble_eq_true rfl, Nat.le_of_ble_eq_true rfl⟩) (fun r_12 e_12 => ?_)
    subst e_12
    refine lv_lstore (lv' := [(4, .long (f_G_netOf x p a)), (3, .null), (0, .ref (d 18)), (1, .int (p)), (2, .int (a))]) hx hb dX_breaksFloor_15 hl (by decide) rfl (fun ls hl => ?_)
    refine lv_aload_nN hx hb dX_breaksFloor_17 rfl (lv_at hl 1 rfl) ?_
    refine lv_ifnullN (tgt := 51) hx hb dX_breaksFloor_18 (by decide) ?_
    refine lv_iconst (v := 0) hx hb dX_breaksFloor_51 (by decide) ?_
    exact W.zret (v := 0) hx hb hr k_nar0 (fun t ht hW => ⟨_, rfl, by rw [f_X_breaksFloor, if_neg hA_2], ht⟩) (fun q h => by cases h) dX_breaksFloor_52

theorem dX_breaksRoom_0 : decode prog_1_method_44_code 0 = .ok (.aload_n 0, 1) := by decide +kernel
theorem dX_breaksRoom_1 : decode prog_1_method_44_code 1 = .ok (.aload_n 0, 1) := by decide +kernel
theorem dX_breaksRoom_2 : decode prog_1_method_44_code 2 = .ok (.getfield 51, 3) := by decide +kernel
theorem dX_breaksRoom_5 : decode prog_1_method_44_code 5 = .ok (.getfield 141, 3) := by decide +kernel
theorem dX_breaksRoom_8 : decode prog_1_method_44_code 8 = .ok (.iload_n 1, 1) := by decide +kernel
theorem dX_breaksRoom_9 : decode prog_1_method_44_code 9 = .ok (.iaload, 1) := by decide +kernel
theorem dX_breaksRoom_10 : decode prog_1_method_44_code 10 = .ok (.aload_n 0, 1) := by decide +kernel
theorem dX_breaksRoom_11 : decode prog_1_method_44_code 11 = .ok (.getfield 51, 3) := by decide +kernel
theorem dX_breaksRoom_14 : decode prog_1_method_44_code 14 = .ok (.getfield 224, 3) := by decide +kernel
theorem dX_breaksRoom_17 : decode prog_1_method_44_code 17 = .ok (.iload_n 1, 1) := by decide +kernel
theorem dX_breaksRoom_18 : decode prog_1_method_44_code 18 = .ok (.iaload, 1) := by decide +kernel
theorem dX_breaksRoom_19 : decode prog_1_method_44_code 19 = .ok (.invokevirtual 120, 3) := by decide +kernel
theorem dX_breaksRoom_22 : decode prog_1_method_44_code 22 = .ok (.istore_n 2, 1) := by decide +kernel
theorem dX_breaksRoom_23 : decode prog_1_method_44_code 23 = .ok (.aload_n 0, 1) := by decide +kernel
theorem dX_breaksRoom_24 : decode prog_1_method_44_code 24 = .ok (.getfield 51, 3) := by decide +kernel
theorem dX_breaksRoom_27 : decode prog_1_method_44_code 27 = .ok (.aload_n 0, 1) := by decide +kernel
theorem dX_breaksRoom_28 : decode prog_1_method_44_code 28 = .ok (.getfield 51, 3) := by decide +kernel
theorem dX_breaksRoom_31 : decode prog_1_method_44_code 31 = .ok (.getfield 141, 3) := by decide +kernel
theorem dX_breaksRoom_34 : decode prog_1_method_44_code 34 = .ok (.iload_n 1, 1) := by decide +kernel
theorem dX_breaksRoom_35 : decode prog_1_method_44_code 35 = .ok (.iaload, 1) := by decide +kernel
theorem dX_breaksRoom_36 : decode prog_1_method_44_code 36 = .ok (.aload_n 0, 1) := by decide +kernel
theorem dX_breaksRoom_37 : decode prog_1_method_44_code 37 = .ok (.getfield 51, 3) := by decide +kernel
theorem dX_breaksRoom_40 : decode prog_1_method_44_code 40 = .ok (.getfield 224, 3) := by decide +kernel
theorem dX_breaksRoom_43 : decode prog_1_method_44_code 43 = .ok (.iload_n 1, 1) := by decide +kernel
theorem dX_breaksRoom_44 : decode prog_1_method_44_code 44 = .ok (.iaload, 1) := by decide +kernel
theorem dX_breaksRoom_45 : decode prog_1_method_44_code 45 = .ok (.aload_n 0, 1) := by decide +kernel
theorem dX_breaksRoom_46 : decode prog_1_method_44_code 46 = .ok (.getfield 25, 3) := by decide +kernel
theorem dX_breaksRoom_49 : decode prog_1_method_44_code 49 = .ok (.invokevirtual 177, 3) := by decide +kernel
theorem dX_breaksRoom_52 : decode prog_1_method_44_code 52 = .ok (.lstore_n 3, 1) := by decide +kernel
theorem dX_breaksRoom_53 : decode prog_1_method_44_code 53 = .ok (.aload_n 0, 1) := by decide +kernel
theorem dX_breaksRoom_54 : decode prog_1_method_44_code 54 = .ok (.getfield 41, 3) := by decide +kernel
theorem dX_breaksRoom_57 : decode prog_1_method_44_code 57 = .ok (.iload_n 2, 1) := by decide +kernel
theorem dX_breaksRoom_58 : decode prog_1_method_44_code 58 = .ok (.invokevirtual 184, 3) := by decide +kernel
theorem dX_breaksRoom_61 : decode prog_1_method_44_code 61 = .ok (.ifCond .eq 25, 3) := by decide +kernel
theorem dX_breaksRoom_64 : decode prog_1_method_44_code 64 = .ok (.lload_n 3, 1) := by decide +kernel
theorem dX_breaksRoom_65 : decode prog_1_method_44_code 65 = .ok (.lconst 0, 1) := by decide +kernel
theorem dX_breaksRoom_66 : decode prog_1_method_44_code 66 = .ok (.lcmp, 1) := by decide +kernel
theorem dX_breaksRoom_67 : decode prog_1_method_44_code 67 = .ok (.ifCond .le 19, 3) := by decide +kernel
theorem dX_breaksRoom_70 : decode prog_1_method_44_code 70 = .ok (.aload_n 0, 1) := by decide +kernel
theorem dX_breaksRoom_71 : decode prog_1_method_44_code 71 = .ok (.iload_n 2, 1) := by decide +kernel
theorem dX_breaksRoom_72 : decode prog_1_method_44_code 72 = .ok (.invokevirtual 180, 3) := by decide +kernel
theorem dX_breaksRoom_75 : decode prog_1_method_44_code 75 = .ok (.lload_n 3, 1) := by decide +kernel
theorem dX_breaksRoom_76 : decode prog_1_method_44_code 76 = .ok (.lsub, 1) := by decide +kernel
theorem dX_breaksRoom_77 : decode prog_1_method_44_code 77 = .ok (.lconst 0, 1) := by decide +kernel
theorem dX_breaksRoom_78 : decode prog_1_method_44_code 78 = .ok (.lcmp, 1) := by decide +kernel
theorem dX_breaksRoom_79 : decode prog_1_method_44_code 79 = .ok (.ifCond .ge 7, 3) := by decide +kernel
theorem dX_breaksRoom_82 : decode prog_1_method_44_code 82 = .ok (.iconst 1, 1) := by decide +kernel
theorem dX_breaksRoom_83 : decode prog_1_method_44_code 83 = .ok (.goto 4, 3) := by decide +kernel
theorem dX_breaksRoom_86 : decode prog_1_method_44_code 86 = .ok (.iconst 0, 1) := by decide +kernel
theorem dX_breaksRoom_87 : decode prog_1_method_44_code 87 = .ok (.ireturn, 1) := by decide +kernel
def f_X_breaksRoom (x : XS) (k : Int32) : Int32 := if (f_P_has (x.1 3) (x.2.2.2.1 0) (x.2.2.2.2.1 1) (f_X_pairOf x ((x.2.2.2.1 2) (k).toNatClampNeg) ((x.2.2.2.1 3) (k).toNatClampNeg))) = 0 then 0 else (if 0 < (f_G_paidFrom x ((x.2.2.2.1 2) (k).toNatClampNeg) ((x.2.2.2.1 3) (k).toNatClampNeg) x.2.1) then (if ((f_X_roomOf x (f_X_pairOf x ((x.2.2.2.1 2) (k).toNatClampNeg) ((x.2.2.2.1 3) (k).toNatClampNeg))) - (f_G_paidFrom x ((x.2.2.2.1 2) (k).toNatClampNeg) ((x.2.2.2.1 3) (k).toNatClampNeg) x.2.1)) < 0 then 1 else 0) else 0)
theorem b_X_breaksRoom (x : XS) (k : Int32) : f_X_breaksRoom x k = 0 ∨ f_X_breaksRoom x k = 1 := by
  unfold f_X_breaksRoom
  repeat' (first | split | exact Or.inl rfl | exact Or.inr rfl)
set_option maxHeartbeats 4000000 in
set_option maxRecDepth 100000 in
theorem c_X_breaksRoom (l : Launch) (D : va_G) (cI cL cQ : ClassId) (d : Nat → Nat) (κ : Nat → Option va_E) (x : XS) (hX : IsX cI cL cQ d κ x) (hB : XB x) (sz : Nat) (k : Int32) (hk4 : vp_in k 4) : Met l yX_breaksRoom wX_breaksRoom { frames := 4, cells := 0, slots := 0, locals := 87 } (va_Pc [.ref (d 18), .int (k)] (kC D vCl (kT cI cL cQ) d κ sz)) (vp_Si (fun r => r = f_X_breaksRoom x k)) 0 0 (fun _ => False) := by
  refine kMet (by decide) (Nat.le_of_ble_eq_true rfl) ?_
  intro p0 e0 s0 m0 below0 meth0 c0 hx hb hr hml hown hlocks hin hts hsz hP hK ls hl
  have hl : lv_has ls 5 [(0, .ref (d 18)), (1, .int (k))] := hl
  have hB9 := hB
  obtain ⟨hb0, hb1, hb2, hb3, hb4, hb5, hb6, hb7, hb8⟩ := hB9
  refine lv_aload_n hx hb dX_breaksRoom_0 rfl (lv_at hl 0 rfl) ?_
  refine lv_aload_n hx hb dX_breaksRoom_1 rfl (lv_at hl 0 rfl) ?_
  refine ka_get (ci := 3) (C := RX) (T := TX) (N := 10) hx hb hts inX hown hK hP (q := 18) hX.1 rfl 9 (by decide) (hts _ tw_108) (fun _ h9 => h9) rfl dX_breaksRoom_2 ?_
  refine ka_get (ci := 1) (C := RG) (T := TG) (N := 5) hx hb hts inG hown hK hP (q := 27) hX.2.2.2.2.2.2.2.2.2.1 rfl 0 (by decide) (hts _ tw_79) (fun _ h9 => h9) rfl dX_breaksRoom_5 ?_
  refine lv_iload_n hx hb dX_breaksRoom_8 rfl (lv_at hl 1 rfl) ?_
  refine ka_iald hx hb hK hP 0 (q := 28) hX.2.2.2.2.2.2.2.2.2.2.1 rfl (by first | assumption | exact vp_in_nI (by omega) (by omega)) dX_breaksRoom_9 ?_
  refine lv_aload_n hx hb dX_breaksRoom_10 rfl (lv_at hl 0 rfl) ?_
  refine ka_get (ci := 3) (C := RX) (T := TX) (N := 10) hx hb hts inX hown hK hP (q := 18) hX.1 rfl 9 (by decide) (hts _ tw_108) (fun _ h9 => h9) rfl dX_breaksRoom_11 ?_
  refine ka_get (ci := 1) (C := RG) (T := TG) (N := 5) hx hb hts inG hown hK hP (q := 27) hX.2.2.2.2.2.2.2.2.2.1 rfl 1 (by decide) (hts _ tw_81) (fun _ h9 => h9) rfl dX_breaksRoom_14 ?_
  refine lv_iload_n hx hb dX_breaksRoom_17 rfl (lv_at hl 1 rfl) ?_
  refine ka_iald hx hb hK hP 0 (q := 29) hX.2.2.2.2.2.2.2.2.2.2.2.1 rfl (by first | assumption | exact vp_in_nI (by omega) (by omega)) dX_breaksRoom_18 ?_
  refine vp_callSi (W.runV (C := RX) (As := [.int ((x.2.2.2.1 2) (k).toNatClampNeg), .int ((x.2.2.2.1 3) (k).toNatClampNeg)]) (rest := []) ⟨hx, hb, hml, hown, hts⟩ (c_X_pairOf l D cI cL cQ d κ x hX hB _ ((x.2.2.2.1 2) (k).toNatClampNeg) ((x.2.2.2.1 3) (k).toNatClampNeg)) (cwV 2 hts (k_gV tw_257 tw_259 tw_12 tw_38 tw_260) rfl rfl rfl (by decide +kernel) ⟨Nat.le_of_ble_eq_true rfl, Nat.le_of_ble_eq_true rfl⟩) (kPreV hP hK (q := 18) hX.1 rfl) rfl rfl hl.1 rfl (lv_room (Nat.le_of_ble_eq_true rfl)) dX_breaksRoom_19 ⟨Nat.le_of_ble_eq_true rfl, Nat.le_of_ble_eq_true rfl⟩) (fun r_19 e_19 => ?_)
  subst e_19
  refine lv_istore_n (lv' := [(2, .int (f_X_pairOf x ((x.2.2.2.1 2) (k).toNatClampNeg) ((x.2.2.2.1 3) (k).toNatClampNeg))), (0, .ref (d 18)), (1, .int (k))]) hx hb dX_breaksRoom_22 rfl hl (by decide) rfl (fun ls hl => ?_)
  refine lv_aload_n hx hb dX_breaksRoom_23 rfl (lv_at hl 1 rfl) ?_
  refine ka_get (ci := 3) (C := RX) (T := TX) (N := 10) hx hb hts inX hown hK hP (q := 18) hX.1 rfl 9 (by decide) (hts _ tw_108) (fun _ h9 => h9) rfl dX_breaksRoom_24 ?_
  refine lv_aload_n hx hb dX_breaksRoom_27 rfl (lv_at hl 1 rfl) ?_
  refine ka_get (ci := 3) (C := RX) (T := TX) (N := 10) hx hb hts inX hown hK hP (q := 18) hX.1 rfl 9 (by decide) (hts _ tw_108) (fun _ h9 => h9) rfl dX_breaksRoom_28 ?_
  refine ka_get (ci := 1) (C := RG) (T := TG) (N := 5) hx hb hts inG hown hK hP (q := 27) hX.2.2.2.2.2.2.2.2.2.1 rfl 0 (by decide) (hts _ tw_79) (fun _ h9 => h9) rfl dX_breaksRoom_31 ?_
  refine lv_iload_n hx hb dX_breaksRoom_34 rfl (lv_at hl 2 rfl) ?_
  refine ka_iald hx hb hK hP 0 (q := 28) hX.2.2.2.2.2.2.2.2.2.2.1 rfl (by first | assumption | exact vp_in_nI (by omega) (by omega)) dX_breaksRoom_35 ?_
  refine lv_aload_n hx hb dX_breaksRoom_36 rfl (lv_at hl 1 rfl) ?_
  refine ka_get (ci := 3) (C := RX) (T := TX) (N := 10) hx hb hts inX hown hK hP (q := 18) hX.1 rfl 9 (by decide) (hts _ tw_108) (fun _ h9 => h9) rfl dX_breaksRoom_37 ?_
  refine ka_get (ci := 1) (C := RG) (T := TG) (N := 5) hx hb hts inG hown hK hP (q := 27) hX.2.2.2.2.2.2.2.2.2.1 rfl 1 (by decide) (hts _ tw_81) (fun _ h9 => h9) rfl dX_breaksRoom_40 ?_
  refine lv_iload_n hx hb dX_breaksRoom_43 rfl (lv_at hl 2 rfl) ?_
  refine ka_iald hx hb hK hP 0 (q := 29) hX.2.2.2.2.2.2.2.2.2.2.2.1 rfl (by first | assumption | exact vp_in_nI (by omega) (by omega)) dX_breaksRoom_44 ?_
  refine lv_aload_n hx hb dX_breaksRoom_45 rfl (lv_at hl 1 rfl) ?_
  refine ka_get (ci := 3) (C := RX) (T := TX) (N := 10) hx hb hts inX hown hK hP (q := 18) hX.1 rfl 4 (by decide) (hts _ tw_103) (fun _ h9 => h9) rfl dX_breaksRoom_46 ?_
  refine vp_callSl (W.runV (C := RG) (As := [.int ((x.2.2.2.1 2) (k).toNatClampNeg), .int ((x.2.2.2.1 3) (k).toNatClampNeg), .int (x.2.1)]) (rest := []) ⟨hx, hb, hml, hown, hts⟩ (c_G_paidFrom l D cI cL cQ d κ x hX hB _ ((x.2.2.2.1 2) (k).toNatClampNeg) ((x.2.2.2.1 3) (k).toNatClampNeg) x.2.1) (cwV 3 hts (k_gV tw_313 tw_314 tw_315 tw_40 tw_316) rfl rfl rfl (by decide +kernel) ⟨Nat.le_of_ble_eq_true rfl, Nat.le_of_ble_eq_true rfl⟩) (kPreV hP hK (q := 27) hX.2.2.2.2.2.2.2.2.2.1 rfl) rfl rfl hl.1 rfl (lv_room (Nat.le_of_ble_eq_true rfl)) dX_breaksRoom_49 ⟨Nat.le_of_ble_eq_true rfl, Nat.le_of_ble_eq_true rfl⟩) (fun r_49 e_49 => ?_)
  subst e_49
  refine lv_lstore_n (lv' := [(3, .long (f_G_paidFrom x ((x.2.2.2.1 2) (k).toNatClampNeg) ((x.2.2.2.1 3) (k).toNatClampNeg) x.2.1)), (2, .int (f_X_pairOf x ((x.2.2.2.1 2) (k).toNatClampNeg) ((x.2.2.2.1 3) (k).toNatClampNeg))), (0, .ref (d 18)), (1, .int (k))]) hx hb dX_breaksRoom_52 rfl hl (by decide) rfl (fun ls hl => ?_)
  refine lv_aload_n hx hb dX_breaksRoom_53 rfl (lv_at hl 2 rfl) ?_
  refine ka_get (ci := 3) (C := RX) (T := TX) (N := 10) hx hb hts inX hown hK hP (q := 18) hX.1 rfl 7 (by decide) (hts _ tw_106) (fun _ h9 => h9) rfl dX_breaksRoom_54 ?_
  refine lv_iload_n hx hb dX_breaksRoom_57 rfl (lv_at hl 1 rfl) ?_
  refine vp_callSi (W.runV (C := RP) (As := [.int (f_X_pairOf x ((x.2.2.2.1 2) (k).toNatClampNeg) ((x.2.2.2.1 3) (k).toNatClampNeg))]) (rest := []) ⟨hx, hb, hml, hown, hts⟩ (c_P_has l D cI cL cQ d κ 21 40 (x.1 3) (x.2.2.2.1 0) (x.2.2.2.2.1 1) ⟨hX.2.2.2.1, hX.2.2.2.2.1, hX.2.2.2.2.2.1⟩ (by omega) (by decide) _ (f_X_pairOf x ((x.2.2.2.1 2) (k).toNatClampNeg) ((x.2.2.2.1 3) (k).toNatClampNeg))) (cwV 1 hts (k_gV tw_317 tw_318 tw_319 tw_39 tw_320) rfl rfl rfl (by decide +kernel) ⟨Nat.le_of_ble_eq_true rfl, Nat.le_of_ble_eq_true rfl⟩) (kPreV hP hK (q := 21) hX.2.2.2.1 rfl) rfl rfl hl.1 rfl (lv_room (Nat.le_of_ble_eq_true rfl)) dX_breaksRoom_58 ⟨Nat.le_of_ble_eq_true rfl, Nat.le_of_ble_eq_true rfl⟩) (fun r_58 e_58 => ?_)
  subst e_58
  refine lv_if_eq (tgt := 86) hx hb dX_breaksRoom_61 (by decide) (fun c_61 => ?_) (fun c_61 => ?_)
  · refine lv_iconst (v := 0) hx hb dX_breaksRoom_86 (by decide) ?_
    exact W.zret (v := 0) hx hb hr k_nar0 (fun t ht hW => ⟨_, rfl, by rw [f_X_breaksRoom, if_pos c_61], ht⟩) (fun q h => by cases h) dX_breaksRoom_87
  · refine lv_lload_n hx hb dX_breaksRoom_64 rfl (lv_at hl 0 rfl) ?_
    refine lv_lconst (v := 0) hx hb dX_breaksRoom_65 (by decide) ?_
    refine kl_le (tgt := 86) hx hb dX_breaksRoom_66 dX_breaksRoom_67 (by decide) (fun c_66 => ?_) (fun c_66 => ?_)
    · refine lv_iconst (v := 0) hx hb dX_breaksRoom_86 (by decide) ?_
      exact W.zret (v := 0) hx hb hr k_nar0 (fun t ht hW => ⟨_, rfl, by rw [f_X_breaksRoom, if_neg c_61, if_neg c_66], ht⟩) (fun q h => by cases h) dX_breaksRoom_87
    · refine lv_aload_n hx hb dX_breaksRoom_70 rfl (lv_at hl 2 rfl) ?_
      refine lv_iload_n hx hb dX_breaksRoom_71 rfl (lv_at hl 1 rfl) ?_
      refine vp_callSl (W.runV (C := RX) (As := [.int (f_X_pairOf x ((x.2.2.2.1 2) (k).toNatClampNeg) ((x.2.2.2.1 3) (k).toNatClampNeg))]) (rest := []) ⟨hx, hb, hml, hown, hts⟩ (c_X_roomOf l D cI cL cQ d κ x hX hB _ (f_X_pairOf x ((x.2.2.2.1 2) (k).toNatClampNeg) ((x.2.2.2.1 3) (k).toNatClampNeg))) (cwV 1 hts (k_gV tw_321 tw_323 tw_16 tw_38 tw_324) rfl rfl rfl (by decide +kernel) ⟨Nat.le_of_ble_eq_true rfl, Nat.le_of_ble_eq_true rfl⟩) (kPreV hP hK (q := 18) hX.1 rfl) rfl rfl hl.1 rfl (lv_room (Nat.le_of_ble_eq_true rfl)) dX_breaksRoom_72 ⟨Nat.le_of_ble_eq_true rfl, Nat.le_of_ble_eq_true rfl⟩) (fun r_72 e_72 => ?_)
      subst e_72
      refine lv_lload_n hx hb dX_breaksRoom_75 rfl (lv_at hl 0 rfl) ?_
      refine lv_lsub hx hb dX_breaksRoom_76 ?_
      refine lv_lconst (v := 0) hx hb dX_breaksRoom_77 (by decide) ?_
      refine kl_ge (tgt := 86) hx hb dX_breaksRoom_78 dX_breaksRoom_79 (by decide) (fun c_78 => ?_) (fun c_78 => ?_)
      · refine lv_iconst (v := 0) hx hb dX_breaksRoom_86 (by decide) ?_
        exact W.zret (v := 0) hx hb hr k_nar0 (fun t ht hW => ⟨_, rfl, by rw [f_X_breaksRoom, if_neg c_61, if_pos c_66, if_neg c_78], ht⟩) (fun q h => by cases h) dX_breaksRoom_87
      · refine lv_iconst (v := 1) hx hb dX_breaksRoom_82 (by decide) ?_
        refine lv_goto (tgt := 87) hx hb dX_breaksRoom_83 (by decide) ?_
        exact W.zret (v := 1) hx hb hr k_nar1 (fun t ht hW => ⟨_, rfl, by rw [f_X_breaksRoom, if_neg c_61, if_pos c_66, if_pos c_78], ht⟩) (fun q h => by cases h) dX_breaksRoom_87

theorem dX_holds_0 : decode prog_1_method_13_code 0 = .ok (.iconst 0, 1) := by decide +kernel
theorem dX_holds_1 : decode prog_1_method_13_code 1 = .ok (.istore_n 1, 1) := by decide +kernel
theorem dX_holds_2 : decode prog_1_method_13_code 2 = .ok (.iload_n 1, 1) := by decide +kernel
theorem dX_holds_3 : decode prog_1_method_13_code 3 = .ok (.aload_n 0, 1) := by decide +kernel
theorem dX_holds_4 : decode prog_1_method_13_code 4 = .ok (.getfield 51, 3) := by decide +kernel
theorem dX_holds_7 : decode prog_1_method_13_code 7 = .ok (.getfield 138, 3) := by decide +kernel
theorem dX_holds_10 : decode prog_1_method_13_code 10 = .ok (.if_icmp .ge 44, 3) := by decide +kernel
theorem dX_holds_13 : decode prog_1_method_13_code 13 = .ok (.aload_n 0, 1) := by decide +kernel
theorem dX_holds_14 : decode prog_1_method_13_code 14 = .ok (.aload_n 0, 1) := by decide +kernel
theorem dX_holds_15 : decode prog_1_method_13_code 15 = .ok (.getfield 51, 3) := by decide +kernel
theorem dX_holds_18 : decode prog_1_method_13_code 18 = .ok (.getfield 141, 3) := by decide +kernel
theorem dX_holds_21 : decode prog_1_method_13_code 21 = .ok (.iload_n 1, 1) := by decide +kernel
theorem dX_holds_22 : decode prog_1_method_13_code 22 = .ok (.iaload, 1) := by decide +kernel
theorem dX_holds_23 : decode prog_1_method_13_code 23 = .ok (.aload_n 0, 1) := by decide +kernel
theorem dX_holds_24 : decode prog_1_method_13_code 24 = .ok (.getfield 51, 3) := by decide +kernel
theorem dX_holds_27 : decode prog_1_method_13_code 27 = .ok (.getfield 145, 3) := by decide +kernel
theorem dX_holds_30 : decode prog_1_method_13_code 30 = .ok (.iload_n 1, 1) := by decide +kernel
theorem dX_holds_31 : decode prog_1_method_13_code 31 = .ok (.iaload, 1) := by decide +kernel
theorem dX_holds_32 : decode prog_1_method_13_code 32 = .ok (.invokevirtual 148, 3) := by decide +kernel
theorem dX_holds_35 : decode prog_1_method_13_code 35 = .ok (.ifCond .ne 11, 3) := by decide +kernel
theorem dX_holds_38 : decode prog_1_method_13_code 38 = .ok (.aload_n 0, 1) := by decide +kernel
theorem dX_holds_39 : decode prog_1_method_13_code 39 = .ok (.iload_n 1, 1) := by decide +kernel
theorem dX_holds_40 : decode prog_1_method_13_code 40 = .ok (.invokevirtual 151, 3) := by decide +kernel
theorem dX_holds_43 : decode prog_1_method_13_code 43 = .ok (.ifCond .eq 5, 3) := by decide +kernel
theorem dX_holds_46 : decode prog_1_method_13_code 46 = .ok (.iconst 0, 1) := by decide +kernel
theorem dX_holds_47 : decode prog_1_method_13_code 47 = .ok (.ireturn, 1) := by decide +kernel
theorem dX_holds_48 : decode prog_1_method_13_code 48 = .ok (.iinc 1 1, 3) := by decide +kernel
theorem dX_holds_51 : decode prog_1_method_13_code 51 = .ok (.goto (-49), 3) := by decide +kernel
theorem dX_holds_54 : decode prog_1_method_13_code 54 = .ok (.iconst 1, 1) := by decide +kernel
theorem dX_holds_55 : decode prog_1_method_13_code 55 = .ok (.ireturn, 1) := by decide +kernel
def f_X_holds_l (x : XS) : Nat → Nat → Int32
  | 0, _ => 0
  | n + 1, k => if (nI (x.1 5)) ≤ (nI k) then 1 else (if (f_X_breaksFloor x ((x.2.2.2.1 2) (nI k).toNatClampNeg) ((x.2.2.2.1 4) (nI k).toNatClampNeg)) = 0 then (if (f_X_breaksRoom x (nI k)) = 0 then (f_X_holds_l x n (k + 1)) else 0) else 0)
theorem f_X_holds_l_s (x : XS) (n : Nat) (k : Nat) : f_X_holds_l x (n + 1) k = (if (nI (x.1 5)) ≤ (nI k) then 1 else (if (f_X_breaksFloor x ((x.2.2.2.1 2) (nI k).toNatClampNeg) ((x.2.2.2.1 4) (nI k).toNatClampNeg)) = 0 then (if (f_X_breaksRoom x (nI k)) = 0 then (f_X_holds_l x n (k + 1)) else 0) else 0)) := rfl
def f_X_holds (x : XS) : Int32 := f_X_holds_l x (x.1 5 + 1) 0
set_option maxHeartbeats 4000000 in
set_option maxRecDepth 100000 in
theorem c_X_holds (l : Launch) (D : va_G) (cI cL cQ : ClassId) (d : Nat → Nat) (κ : Nat → Option va_E) (x : XS) (hX : IsX cI cL cQ d κ x) (hB : XB x) (sz : Nat)   : Met l yX_holds wX_holds { frames := 5, cells := 0, slots := 0, locals := 111 } (va_Pc [.ref (d 18)] (kC D vCl (kT cI cL cQ) d κ sz)) (vp_Si (fun r => r = f_X_holds x)) 0 0 (fun _ => False) := by
  refine kMet (by decide) (Nat.le_of_ble_eq_true rfl) ?_
  intro p0 e0 s0 m0 below0 meth0 c0 hx hb hr hml hown hlocks hin hts hsz hP hK ls hl
  have hl : lv_has ls 2 [(0, .ref (d 18))] := hl
  have hB9 := hB
  obtain ⟨hb0, hb1, hb2, hb3, hb4, hb5, hb6, hb7, hb8⟩ := hB9
  refine lv_iconst (v := 0) hx hb dX_holds_0 (by decide) ?_
  refine lv_istore_n (lv' := [(1, .int (0)), (0, .ref (d 18))]) hx hb dX_holds_1 rfl hl (by decide) rfl (fun ls hl => ?_)
  refine k_rec (σ := Nat) (fun n z9 ls => z9 ≤ x.1 5 ∧ x.1 5 < z9 + n ∧ f_X_holds_l x n z9 = f_X_holds x ∧ lv_has ls 2 [(1, .int (nI z9)), (0, .ref (d 18))]) (x.1 5 + 1) (0) ⟨by omega, by omega, by rw [f_X_holds], lv_sub hl [0, 1] rfl⟩ ?_
  intro n z9 ls hI ih
  obtain ⟨k, rfl⟩ : ∃ z, z = z9 := ⟨_, rfl⟩
  obtain ⟨hk, hn, hE, hl⟩ := hI
  obtain ⟨n, rfl⟩ : ∃ q, n = q + 1 := ⟨n - 1, by omega⟩
  refine lv_iload_n hx hb dX_holds_2 rfl (lv_at hl 0 rfl) ?_
  refine lv_aload_n hx hb dX_holds_3 rfl (lv_at hl 1 rfl) ?_
  refine ka_get (ci := 3) (C := RX) (T := TX) (N := 10) hx hb hts inX hown hK hP (q := 18) hX.1 rfl 9 (by decide) (hts _ tw_108) (fun _ h9 => h9) rfl dX_holds_4 ?_
  refine ka_get (ci := 1) (C := RG) (T := TG) (N := 5) hx hb hts inG hown hK hP (q := 27) hX.2.2.2.2.2.2.2.2.2.1 rfl 4 (by decide) (hts _ tw_87) (fun _ h9 => h9) rfl dX_holds_7 ?_
  refine lv_icmp_ge (tgt := 54) hx hb dX_holds_10 (by decide) (fun c_10 => ?_) (fun c_10 => ?_)
  · refine lv_iconst (v := 1) hx hb dX_holds_54 (by decide) ?_
    exact W.zret (v := 1) hx hb hr k_nar1 (fun t ht hW => ⟨_, rfl, by rw [← hE, f_X_holds_l_s, if_pos c_10], ht⟩) (fun q h => by cases h) dX_holds_55
  · have hlt : k < x.1 5 := Nat.lt_of_not_le (fun q => c_10 (nI_le q (by omega)))
    refine lv_aload_n hx hb dX_holds_13 rfl (lv_at hl 1 rfl) ?_
    refine lv_aload_n hx hb dX_holds_14 rfl (lv_at hl 1 rfl) ?_
    refine ka_get (ci := 3) (C := RX) (T := TX) (N := 10) hx hb hts inX hown hK hP (q := 18) hX.1 rfl 9 (by decide) (hts _ tw_108) (fun _ h9 => h9) rfl dX_holds_15 ?_
    refine ka_get (ci := 1) (C := RG) (T := TG) (N := 5) hx hb hts inG hown hK hP (q := 27) hX.2.2.2.2.2.2.2.2.2.1 rfl 0 (by decide) (hts _ tw_79) (fun _ h9 => h9) rfl dX_holds_18 ?_
    refine lv_iload_n hx hb dX_holds_21 rfl (lv_at hl 0 rfl) ?_
    refine ka_iald hx hb hK hP 0 (q := 28) hX.2.2.2.2.2.2.2.2.2.2.1 rfl (by first | assumption | exact vp_in_nI (by omega) (by omega)) dX_holds_22 ?_
    refine lv_aload_n hx hb dX_holds_23 rfl (lv_at hl 1 rfl) ?_
    refine ka_get (ci := 3) (C := RX) (T := TX) (N := 10) hx hb hts inX hown hK hP (q := 18) hX.1 rfl 9 (by decide) (hts _ tw_108) (fun _ h9 => h9) rfl dX_holds_24 ?_
    refine ka_get (ci := 1) (C := RG) (T := TG) (N := 5) hx hb hts inG hown hK hP (q := 27) hX.2.2.2.2.2.2.2.2.2.1 rfl 2 (by decide) (hts _ tw_83) (fun _ h9 => h9) rfl dX_holds_27 ?_
    refine lv_iload_n hx hb dX_holds_30 rfl (lv_at hl 0 rfl) ?_
    refine ka_iald hx hb hK hP 0 (q := 30) hX.2.2.2.2.2.2.2.2.2.2.2.2.1 rfl (by first | assumption | exact vp_in_nI (by omega) (by omega)) dX_holds_31 ?_
    refine vp_callSi (W.runV (C := RX) (As := [.int ((x.2.2.2.1 2) (nI k).toNatClampNeg), .int ((x.2.2.2.1 4) (nI k).toNatClampNeg)]) (rest := []) ⟨hx, hb, hml, hown, hts⟩ (c_X_breaksFloor l D cI cL cQ d κ x hX hB _ ((x.2.2.2.1 2) (nI k).toNatClampNeg) ((x.2.2.2.1 4) (nI k).toNatClampNeg) (by rw [nI_clamp (by omega)]; exact (hb8 k hlt).1)) (cwV 2 hts (k_gV tw_301 tw_303 tw_14 tw_38 tw_304) rfl rfl rfl (by decide +kernel) ⟨Nat.le_of_ble_eq_true rfl, Nat.le_of_ble_eq_true rfl⟩) (kPreV hP hK (q := 18) hX.1 rfl) rfl rfl hl.1 rfl (lv_room (Nat.le_of_ble_eq_true rfl)) dX_holds_32 ⟨Nat.le_of_ble_eq_true rfl, Nat.le_of_ble_eq_true rfl⟩) (fun r_32 e_32 => ?_)
    subst e_32
    refine lv_if_ne (tgt := 46) hx hb dX_holds_35 (by decide) (fun c_35 => ?_) (fun c_35 => ?_)
    · refine lv_iconst (v := 0) hx hb dX_holds_46 (by decide) ?_
      exact W.zret (v := 0) hx hb hr k_nar0 (fun t ht hW => ⟨_, rfl, by rw [← hE, f_X_holds_l_s, if_neg c_10, if_neg c_35], ht⟩) (fun q h => by cases h) dX_holds_47
    · refine lv_aload_n hx hb dX_holds_38 rfl (lv_at hl 1 rfl) ?_
      refine lv_iload_n hx hb dX_holds_39 rfl (lv_at hl 0 rfl) ?_
      refine vp_callSi (W.runV (C := RX) (As := [.int (nI k)]) (rest := []) ⟨hx, hb, hml, hown, hts⟩ (c_X_breaksRoom l D cI cL cQ d κ x hX hB _ (nI k) (vp_in_nI (by omega) (by omega))) (cwV 1 hts (k_gV tw_309 tw_311 tw_15 tw_38 tw_312) rfl rfl rfl (by decide +kernel) ⟨Nat.le_of_ble_eq_true rfl, Nat.le_of_ble_eq_true rfl⟩) (kPreV hP hK (q := 18) hX.1 rfl) rfl rfl hl.1 rfl (lv_room (Nat.le_of_ble_eq_true rfl)) dX_holds_40 ⟨Nat.le_of_ble_eq_true rfl, Nat.le_of_ble_eq_true rfl⟩) (fun r_40 e_40 => ?_)
      subst e_40
      refine lv_if_eq (tgt := 48) hx hb dX_holds_43 (by decide) (fun c_43 => ?_) (fun c_43 => ?_)
      · refine lv_iinc (v := nI (k + 1)) (lv' := [(1, .int (nI (k + 1))), (0, .ref (d 18))]) hx hb dX_holds_48 hl (k := 0) rfl (nI_add k 1) (by decide) rfl (fun ls hl => ?_)
        refine lv_goto (tgt := 2) hx hb dX_holds_51 (by decide) ?_
        exact ih n (k + 1) ls (by omega) ⟨by omega, by omega, by rw [← hE, f_X_holds_l_s, if_neg c_10, if_pos c_35, if_pos c_43], lv_sub hl [0, 1] rfl⟩
      · refine lv_iconst (v := 0) hx hb dX_holds_46 (by decide) ?_
        exact W.zret (v := 0) hx hb hr k_nar0 (fun t ht hW => ⟨_, rfl, by rw [← hE, f_X_holds_l_s, if_neg c_10, if_pos c_35, if_neg c_43], ht⟩) (fun q h => by cases h) dX_holds_47

theorem dX_isThere_0 : decode prog_1_method_19_code 0 = .ok (.aload_n 0, 1) := by decide +kernel
theorem dX_isThere_1 : decode prog_1_method_19_code 1 = .ok (.iload_n 1, 1) := by decide +kernel
theorem dX_isThere_2 : decode prog_1_method_19_code 2 = .ok (.invokevirtual 164, 3) := by decide +kernel
theorem dX_isThere_5 : decode prog_1_method_19_code 5 = .ok (.ifCond .eq 21, 3) := by decide +kernel
theorem dX_isThere_8 : decode prog_1_method_19_code 8 = .ok (.aload_n 0, 1) := by decide +kernel
theorem dX_isThere_9 : decode prog_1_method_19_code 9 = .ok (.aload_n 0, 1) := by decide +kernel
theorem dX_isThere_10 : decode prog_1_method_19_code 10 = .ok (.iload_n 1, 1) := by decide +kernel
theorem dX_isThere_11 : decode prog_1_method_19_code 11 = .ok (.invokevirtual 171, 3) := by decide +kernel
theorem dX_isThere_14 : decode prog_1_method_19_code 14 = .ok (.invokevirtual 79, 3) := by decide +kernel
theorem dX_isThere_17 : decode prog_1_method_19_code 17 = .ok (.ifnull 7, 3) := by decide +kernel
theorem dX_isThere_20 : decode prog_1_method_19_code 20 = .ok (.iconst 1, 1) := by decide +kernel
theorem dX_isThere_21 : decode prog_1_method_19_code 21 = .ok (.goto 4, 3) := by decide +kernel
theorem dX_isThere_24 : decode prog_1_method_19_code 24 = .ok (.iconst 0, 1) := by decide +kernel
theorem dX_isThere_25 : decode prog_1_method_19_code 25 = .ok (.ireturn, 1) := by decide +kernel
theorem dX_isThere_26 : decode prog_1_method_19_code 26 = .ok (.iload_n 1, 1) := by decide +kernel
theorem dX_isThere_27 : decode prog_1_method_19_code 27 = .ok (.aload_n 0, 1) := by decide +kernel
theorem dX_isThere_28 : decode prog_1_method_19_code 28 = .ok (.getfield 19, 3) := by decide +kernel
theorem dX_isThere_31 : decode prog_1_method_19_code 31 = .ok (.if_icmp .lt 23, 3) := by decide +kernel
theorem dX_isThere_34 : decode prog_1_method_19_code 34 = .ok (.aload_n 0, 1) := by decide +kernel
theorem dX_isThere_35 : decode prog_1_method_19_code 35 = .ok (.getfield 41, 3) := by decide +kernel
theorem dX_isThere_38 : decode prog_1_method_19_code 38 = .ok (.iload_n 1, 1) := by decide +kernel
theorem dX_isThere_39 : decode prog_1_method_19_code 39 = .ok (.aload_n 0, 1) := by decide +kernel
theorem dX_isThere_40 : decode prog_1_method_19_code 40 = .ok (.getfield 19, 3) := by decide +kernel
theorem dX_isThere_43 : decode prog_1_method_19_code 43 = .ok (.isub, 1) := by decide +kernel
theorem dX_isThere_44 : decode prog_1_method_19_code 44 = .ok (.invokevirtual 184, 3) := by decide +kernel
theorem dX_isThere_47 : decode prog_1_method_19_code 47 = .ok (.ifCond .eq 7, 3) := by decide +kernel
theorem dX_isThere_50 : decode prog_1_method_19_code 50 = .ok (.iconst 1, 1) := by decide +kernel
theorem dX_isThere_51 : decode prog_1_method_19_code 51 = .ok (.goto 4, 3) := by decide +kernel
theorem dX_isThere_54 : decode prog_1_method_19_code 54 = .ok (.iconst 0, 1) := by decide +kernel
theorem dX_isThere_55 : decode prog_1_method_19_code 55 = .ok (.ireturn, 1) := by decide +kernel
def f_X_isThere (x : XS) (pos : Int32) : Int32 := if (f_X_isPosition x pos) = 0 then (if pos < (nI (x.1 0 * x.1 1)) then 0 else (if (f_P_has (x.1 3) (x.2.2.2.1 0) (x.2.2.2.2.1 1) (pos - (nI (x.1 0 * x.1 1)))) = 0 then 0 else 1)) else (if xIs x (f_X_assetOf x pos) then 1 else 0)
theorem b_X_isThere (x : XS) (pos : Int32) : f_X_isThere x pos = 0 ∨ f_X_isThere x pos = 1 := by
  unfold f_X_isThere
  repeat' (first | split | exact Or.inl rfl | exact Or.inr rfl)
set_option maxHeartbeats 4000000 in
set_option maxRecDepth 100000 in
theorem c_X_isThere (l : Launch) (D : va_G) (cI cL cQ : ClassId) (d : Nat → Nat) (κ : Nat → Option va_E) (x : XS) (hX : IsX cI cL cQ d κ x) (hB : XB x) (sz : Nat) (pos : Int32)  : Met l yX_isThere wX_isThere { frames := 2, cells := 0, slots := 0, locals := 43 } (va_Pc [.ref (d 18), .int (pos)] (kC D vCl (kT cI cL cQ) d κ sz)) (vp_Si (fun r => r = f_X_isThere x pos)) 0 0 (fun _ => False) := by
  refine kMet (by decide) (Nat.le_of_ble_eq_true rfl) ?_
  intro p0 e0 s0 m0 below0 meth0 c0 hx hb hr hml hown hlocks hin hts hsz hP hK ls hl
  have hl : lv_has ls 2 [(0, .ref (d 18)), (1, .int (pos))] := hl
  have hB9 := hB
  obtain ⟨hb0, hb1, hb2, hb3, hb4, hb5, hb6, hb7, hb8⟩ := hB9
  refine lv_aload_n hx hb dX_isThere_0 rfl (lv_at hl 0 rfl) ?_
  refine lv_iload_n hx hb dX_isThere_1 rfl (lv_at hl 1 rfl) ?_
  refine vp_callSi (W.runV (C := RX) (As := [.int (pos)]) (rest := []) ⟨hx, hb, hml, hown, hts⟩ (c_X_isPosition l D cI cL cQ d κ x hX hB _ pos) (cwV 1 hts (k_gV tw_350 tw_352 tw_19 tw_38 tw_353) rfl rfl rfl (by decide +kernel) ⟨Nat.le_of_ble_eq_true rfl, Nat.le_of_ble_eq_true rfl⟩) (kPreV hP hK (q := 18) hX.1 rfl) rfl rfl hl.1 rfl (lv_room (Nat.le_of_ble_eq_true rfl)) dX_isThere_2 ⟨Nat.le_of_ble_eq_true rfl, Nat.le_of_ble_eq_true rfl⟩) (fun r_2 e_2 => ?_)
  subst e_2
  refine lv_if_eq (tgt := 26) hx hb dX_isThere_5 (by decide) (fun c_5 => ?_) (fun c_5 => ?_)
  · refine lv_iload_n hx hb dX_isThere_26 rfl (lv_at hl 1 rfl) ?_
    refine lv_aload_n hx hb dX_isThere_27 rfl (lv_at hl 0 rfl) ?_
    refine ka_get (ci := 3) (C := RX) (T := TX) (N := 10) hx hb hts inX hown hK hP (q := 18) hX.1 rfl 1 (by decide) (hts _ tw_100) (fun _ h9 => h9) rfl dX_isThere_28 ?_
    refine lv_icmp_lt (tgt := 54) hx hb dX_isThere_31 (by decide) (fun c_31 => ?_) (fun c_31 => ?_)
    · refine lv_iconst (v := 0) hx hb dX_isThere_54 (by decide) ?_
      exact W.zret (v := 0) hx hb hr k_nar0 (fun t ht hW => ⟨_, rfl, by rw [f_X_isThere, if_pos c_5, if_pos c_31], ht⟩) (fun q h => by cases h) dX_isThere_55
    · refine lv_aload_n hx hb dX_isThere_34 rfl (lv_at hl 0 rfl) ?_
      refine ka_get (ci := 3) (C := RX) (T := TX) (N := 10) hx hb hts inX hown hK hP (q := 18) hX.1 rfl 7 (by decide) (hts _ tw_106) (fun _ h9 => h9) rfl dX_isThere_35 ?_
      refine lv_iload_n hx hb dX_isThere_38 rfl (lv_at hl 1 rfl) ?_
      refine lv_aload_n hx hb dX_isThere_39 rfl (lv_at hl 0 rfl) ?_
      refine ka_get (ci := 3) (C := RX) (T := TX) (N := 10) hx hb hts inX hown hK hP (q := 18) hX.1 rfl 1 (by decide) (hts _ tw_100) (fun _ h9 => h9) rfl dX_isThere_40 ?_
      refine lv_isub hx hb dX_isThere_43 ?_
      refine vp_callSi (W.runV (C := RP) (As := [.int (pos - (nI (x.1 0 * x.1 1)))]) (rest := []) ⟨hx, hb, hml, hown, hts⟩ (c_P_has l D cI cL cQ d κ 21 40 (x.1 3) (x.2.2.2.1 0) (x.2.2.2.2.1 1) ⟨hX.2.2.2.1, hX.2.2.2.2.1, hX.2.2.2.2.2.1⟩ (by omega) (by decide) _ (pos - (nI (x.1 0 * x.1 1)))) (cwV 1 hts (k_gV tw_317 tw_318 tw_319 tw_39 tw_320) rfl rfl rfl (by decide +kernel) ⟨Nat.le_of_ble_eq_true rfl, Nat.le_of_ble_eq_true rfl⟩) (kPreV hP hK (q := 21) hX.2.2.2.1 rfl) rfl rfl hl.1 rfl (lv_room (Nat.le_of_ble_eq_true rfl)) dX_isThere_44 ⟨Nat.le_of_ble_eq_true rfl, Nat.le_of_ble_eq_true rfl⟩) (fun r_44 e_44 => ?_)
      subst e_44
      refine lv_if_eq (tgt := 54) hx hb dX_isThere_47 (by decide) (fun c_47 => ?_) (fun c_47 => ?_)
      · refine lv_iconst (v := 0) hx hb dX_isThere_54 (by decide) ?_
        exact W.zret (v := 0) hx hb hr k_nar0 (fun t ht hW => ⟨_, rfl, by rw [f_X_isThere, if_pos c_5, if_neg c_31, if_pos c_47], ht⟩) (fun q h => by cases h) dX_isThere_55
      · refine lv_iconst (v := 1) hx hb dX_isThere_50 (by decide) ?_
        refine lv_goto (tgt := 55) hx hb dX_isThere_51 (by decide) ?_
        exact W.zret (v := 1) hx hb hr k_nar1 (fun t ht hW => ⟨_, rfl, by rw [f_X_isThere, if_pos c_5, if_neg c_31, if_neg c_47], ht⟩) (fun q h => by cases h) dX_isThere_55
  · refine lv_aload_n hx hb dX_isThere_8 rfl (lv_at hl 0 rfl) ?_
    refine lv_aload_n hx hb dX_isThere_9 rfl (lv_at hl 0 rfl) ?_
    refine lv_iload_n hx hb dX_isThere_10 rfl (lv_at hl 1 rfl) ?_
    refine vp_callSi (W.runV (C := RX) (As := [.int (pos)]) (rest := [.ref (d 18)]) ⟨hx, hb, hml, hown, hts⟩ (c_X_assetOf l D cI cL cQ d κ x hX hB _ pos) (cwV 1 hts (k_gV tw_354 tw_356 tw_20 tw_38 tw_357) rfl rfl rfl (by decide +kernel) ⟨Nat.le_of_ble_eq_true rfl, Nat.le_of_ble_eq_true rfl⟩) (kPreV hP hK (q := 18) hX.1 rfl) rfl rfl hl.1 rfl (lv_room (Nat.le_of_ble_eq_true rfl)) dX_isThere_11 ⟨Nat.le_of_ble_eq_true rfl, Nat.le_of_ble_eq_true rfl⟩) (fun r_11 e_11 => ?_)
    subst e_11
    refine va_csq (W.runV (C := RX) (As := [.int (f_X_assetOf x pos)]) (rest := []) ⟨hx, hb, hml, hown, hts⟩ (c_X_assetAt l D cI cL cQ d κ x hX hB _ (f_X_assetOf x pos)) (cwV 1 hts (k_gV tw_179 tw_181 tw_2 tw_38 tw_182) rfl rfl rfl (by decide +kernel) ⟨Nat.le_of_ble_eq_true rfl, Nat.le_of_ble_eq_true rfl⟩) (kPreV hP hK (q := 18) hX.1 rfl) rfl rfl hl.1 rfl (lv_room (Nat.le_of_ble_eq_true rfl)) dX_isThere_14 ⟨Nat.le_of_ble_eq_true rfl, Nat.le_of_ble_eq_true rfl⟩) (fun r_14 e_14 => ?_)
    subst e_14
    by_cases hA_14 : xIs x (f_X_assetOf x pos)
    · rw [if_pos hA_14]
      have hi_14 : (f_X_assetOf x pos).toNatClampNeg < x.1 2 := (xIs_in hB hA_14).2
      refine lv_ifnull hx hb dX_isThere_17 ?_
      refine lv_iconst (v := 1) hx hb dX_isThere_20 (by decide) ?_
      refine lv_goto (tgt := 25) hx hb dX_isThere_21 (by decide) ?_
      exact W.zret (v := 1) hx hb hr k_nar1 (fun t ht hW => ⟨_, rfl, by rw [f_X_isThere, if_neg c_5, if_pos hA_14], ht⟩) (fun q h => by cases h) dX_isThere_25
    · rw [if_neg hA_14]
      refine lv_ifnullN (tgt := 24) hx hb dX_isThere_17 (by decide) ?_
      refine lv_iconst (v := 0) hx hb dX_isThere_24 (by decide) ?_
      exact W.zret (v := 0) hx hb hr k_nar0 (fun t ht hW => ⟨_, rfl, by rw [f_X_isThere, if_neg c_5, if_neg hA_14], ht⟩) (fun q h => by cases h) dX_isThere_25

theorem dX_net_0 : decode prog_1_method_16_code 0 = .ok (.aload_n 0, 1) := by decide +kernel
theorem dX_net_1 : decode prog_1_method_16_code 1 = .ok (.iload_n 1, 1) := by decide +kernel
theorem dX_net_2 : decode prog_1_method_16_code 2 = .ok (.invokevirtual 161, 3) := by decide +kernel
theorem dX_net_5 : decode prog_1_method_16_code 5 = .ok (.ifCond .ne 5, 3) := by decide +kernel
theorem dX_net_8 : decode prog_1_method_16_code 8 = .ok (.lconst 0, 1) := by decide +kernel
theorem dX_net_9 : decode prog_1_method_16_code 9 = .ok (.lreturn, 1) := by decide +kernel
theorem dX_net_10 : decode prog_1_method_16_code 10 = .ok (.aload_n 0, 1) := by decide +kernel
theorem dX_net_11 : decode prog_1_method_16_code 11 = .ok (.iload_n 1, 1) := by decide +kernel
theorem dX_net_12 : decode prog_1_method_16_code 12 = .ok (.invokevirtual 164, 3) := by decide +kernel
theorem dX_net_15 : decode prog_1_method_16_code 15 = .ok (.ifCond .eq 21, 3) := by decide +kernel
theorem dX_net_18 : decode prog_1_method_16_code 18 = .ok (.aload_n 0, 1) := by decide +kernel
theorem dX_net_19 : decode prog_1_method_16_code 19 = .ok (.getfield 51, 3) := by decide +kernel
theorem dX_net_22 : decode prog_1_method_16_code 22 = .ok (.aload_n 0, 1) := by decide +kernel
theorem dX_net_23 : decode prog_1_method_16_code 23 = .ok (.iload_n 1, 1) := by decide +kernel
theorem dX_net_24 : decode prog_1_method_16_code 24 = .ok (.invokevirtual 167, 3) := by decide +kernel
theorem dX_net_27 : decode prog_1_method_16_code 27 = .ok (.aload_n 0, 1) := by decide +kernel
theorem dX_net_28 : decode prog_1_method_16_code 28 = .ok (.iload_n 1, 1) := by decide +kernel
theorem dX_net_29 : decode prog_1_method_16_code 29 = .ok (.invokevirtual 171, 3) := by decide +kernel
theorem dX_net_32 : decode prog_1_method_16_code 32 = .ok (.invokevirtual 174, 3) := by decide +kernel
theorem dX_net_35 : decode prog_1_method_16_code 35 = .ok (.lreturn, 1) := by decide +kernel
theorem dX_net_36 : decode prog_1_method_16_code 36 = .ok (.iload_n 1, 1) := by decide +kernel
theorem dX_net_37 : decode prog_1_method_16_code 37 = .ok (.aload_n 0, 1) := by decide +kernel
theorem dX_net_38 : decode prog_1_method_16_code 38 = .ok (.getfield 19, 3) := by decide +kernel
theorem dX_net_41 : decode prog_1_method_16_code 41 = .ok (.isub, 1) := by decide +kernel
theorem dX_net_42 : decode prog_1_method_16_code 42 = .ok (.istore_n 2, 1) := by decide +kernel
theorem dX_net_43 : decode prog_1_method_16_code 43 = .ok (.aload_n 0, 1) := by decide +kernel
theorem dX_net_44 : decode prog_1_method_16_code 44 = .ok (.getfield 51, 3) := by decide +kernel
theorem dX_net_47 : decode prog_1_method_16_code 47 = .ok (.iload_n 2, 1) := by decide +kernel
theorem dX_net_48 : decode prog_1_method_16_code 48 = .ok (.aload_n 0, 1) := by decide +kernel
theorem dX_net_49 : decode prog_1_method_16_code 49 = .ok (.getfield 9, 3) := by decide +kernel
theorem dX_net_52 : decode prog_1_method_16_code 52 = .ok (.idiv, 1) := by decide +kernel
theorem dX_net_53 : decode prog_1_method_16_code 53 = .ok (.iload_n 2, 1) := by decide +kernel
theorem dX_net_54 : decode prog_1_method_16_code 54 = .ok (.aload_n 0, 1) := by decide +kernel
theorem dX_net_55 : decode prog_1_method_16_code 55 = .ok (.getfield 9, 3) := by decide +kernel
theorem dX_net_58 : decode prog_1_method_16_code 58 = .ok (.irem, 1) := by decide +kernel
theorem dX_net_59 : decode prog_1_method_16_code 59 = .ok (.aload_n 0, 1) := by decide +kernel
theorem dX_net_60 : decode prog_1_method_16_code 60 = .ok (.getfield 25, 3) := by decide +kernel
theorem dX_net_63 : decode prog_1_method_16_code 63 = .ok (.invokevirtual 177, 3) := by decide +kernel
theorem dX_net_66 : decode prog_1_method_16_code 66 = .ok (.lneg, 1) := by decide +kernel
theorem dX_net_67 : decode prog_1_method_16_code 67 = .ok (.lreturn, 1) := by decide +kernel
def f_X_net (x : XS) (pos : Int32) : Int64 := if (f_X_isThere x pos) = 0 then 0 else (if (f_X_isPosition x pos) = 0 then (-(f_G_paidFrom x ((pos - (nI (x.1 0 * x.1 1))) / (nI (x.1 0))) ((pos - (nI (x.1 0 * x.1 1))) - (pos - (nI (x.1 0 * x.1 1))) / (nI (x.1 0)) * (nI (x.1 0))) x.2.1)) else (f_G_netOf x (f_X_ownerOf x pos) (f_X_assetOf x pos)))
set_option maxHeartbeats 4000000 in
set_option maxRecDepth 100000 in
theorem c_X_net (l : Launch) (D : va_G) (cI cL cQ : ClassId) (d : Nat → Nat) (κ : Nat → Option va_E) (x : XS) (hX : IsX cI cL cQ d κ x) (hB : XB x) (sz : Nat) (pos : Int32)  : Met l yX_net wX_net { frames := 3, cells := 0, slots := 0, locals := 64 } (va_Pc [.ref (d 18), .int (pos)] (kC D vCl (kT cI cL cQ) d κ sz)) (vp_Sl (fun r => r = f_X_net x pos)) 0 0 (fun _ => False) := by
  refine kMet (by decide) (Nat.le_of_ble_eq_true rfl) ?_
  intro p0 e0 s0 m0 below0 meth0 c0 hx hb hr hml hown hlocks hin hts hsz hP hK ls hl
  have hl : lv_has ls 3 [(0, .ref (d 18)), (1, .int (pos))] := hl
  have hB9 := hB
  obtain ⟨hb0, hb1, hb2, hb3, hb4, hb5, hb6, hb7, hb8⟩ := hB9
  refine lv_aload_n hx hb dX_net_0 rfl (lv_at hl 0 rfl) ?_
  refine lv_iload_n hx hb dX_net_1 rfl (lv_at hl 1 rfl) ?_
  refine vp_callSi (W.runV (C := RX) (As := [.int (pos)]) (rest := []) ⟨hx, hb, hml, hown, hts⟩ (c_X_isThere l D cI cL cQ d κ x hX hB _ pos) (cwV 1 hts (k_gV tw_346 tw_347 tw_348 tw_38 tw_349) rfl rfl rfl (by decide +kernel) ⟨Nat.le_of_ble_eq_true rfl, Nat.le_of_ble_eq_true rfl⟩) (kPreV hP hK (q := 18) hX.1 rfl) rfl rfl hl.1 rfl (lv_room (Nat.le_of_ble_eq_true rfl)) dX_net_2 ⟨Nat.le_of_ble_eq_true rfl, Nat.le_of_ble_eq_true rfl⟩) (fun r_2 e_2 => ?_)
  subst e_2
  refine lv_if_ne (tgt := 10) hx hb dX_net_5 (by decide) (fun c_5 => ?_) (fun c_5 => ?_)
  · refine lv_aload_n hx hb dX_net_10 rfl (lv_at hl 0 rfl) ?_
    refine lv_iload_n hx hb dX_net_11 rfl (lv_at hl 1 rfl) ?_
    refine vp_callSi (W.runV (C := RX) (As := [.int (pos)]) (rest := []) ⟨hx, hb, hml, hown, hts⟩ (c_X_isPosition l D cI cL cQ d κ x hX hB _ pos) (cwV 1 hts (k_gV tw_350 tw_352 tw_19 tw_38 tw_353) rfl rfl rfl (by decide +kernel) ⟨Nat.le_of_ble_eq_true rfl, Nat.le_of_ble_eq_true rfl⟩) (kPreV hP hK (q := 18) hX.1 rfl) rfl rfl hl.1 rfl (lv_room (Nat.le_of_ble_eq_true rfl)) dX_net_12 ⟨Nat.le_of_ble_eq_true rfl, Nat.le_of_ble_eq_true rfl⟩) (fun r_12 e_12 => ?_)
    subst e_12
    refine lv_if_eq (tgt := 36) hx hb dX_net_15 (by decide) (fun c_15 => ?_) (fun c_15 => ?_)
    · refine lv_iload_n hx hb dX_net_36 rfl (lv_at hl 1 rfl) ?_
      refine lv_aload_n hx hb dX_net_37 rfl (lv_at hl 0 rfl) ?_
      refine ka_get (ci := 3) (C := RX) (T := TX) (N := 10) hx hb hts inX hown hK hP (q := 18) hX.1 rfl 1 (by decide) (hts _ tw_100) (fun _ h9 => h9) rfl dX_net_38 ?_
      refine lv_isub hx hb dX_net_41 ?_
      refine lv_istore_n (lv' := [(2, .int (pos - (nI (x.1 0 * x.1 1)))), (0, .ref (d 18)), (1, .int (pos))]) hx hb dX_net_42 rfl hl (by decide) rfl (fun ls hl => ?_)
      refine lv_aload_n hx hb dX_net_43 rfl (lv_at hl 1 rfl) ?_
      refine ka_get (ci := 3) (C := RX) (T := TX) (N := 10) hx hb hts inX hown hK hP (q := 18) hX.1 rfl 9 (by decide) (hts _ tw_108) (fun _ h9 => h9) rfl dX_net_44 ?_
      refine lv_iload_n hx hb dX_net_47 rfl (lv_at hl 0 rfl) ?_
      refine lv_aload_n hx hb dX_net_48 rfl (lv_at hl 1 rfl) ?_
      refine ka_get (ci := 3) (C := RX) (T := TX) (N := 10) hx hb hts inX hown hK hP (q := 18) hX.1 rfl 0 (by decide) (hts _ tw_99) (fun _ h9 => h9) rfl dX_net_49 ?_
      refine lv_idiv hx hb dX_net_52 (nI_ne0 (by omega) (by omega)) ?_
      refine lv_iload_n hx hb dX_net_53 rfl (lv_at hl 0 rfl) ?_
      refine lv_aload_n hx hb dX_net_54 rfl (lv_at hl 1 rfl) ?_
      refine ka_get (ci := 3) (C := RX) (T := TX) (N := 10) hx hb hts inX hown hK hP (q := 18) hX.1 rfl 0 (by decide) (hts _ tw_99) (fun _ h9 => h9) rfl dX_net_55 ?_
      refine lv_irem hx hb dX_net_58 (nI_ne0 (by omega) (by omega)) ?_
      refine lv_aload_n hx hb dX_net_59 rfl (lv_at hl 1 rfl) ?_
      refine ka_get (ci := 3) (C := RX) (T := TX) (N := 10) hx hb hts inX hown hK hP (q := 18) hX.1 rfl 4 (by decide) (hts _ tw_103) (fun _ h9 => h9) rfl dX_net_60 ?_
      refine vp_callSl (W.runV (C := RG) (As := [.int ((pos - (nI (x.1 0 * x.1 1))) / (nI (x.1 0))), .int ((pos - (nI (x.1 0 * x.1 1))) - (pos - (nI (x.1 0 * x.1 1))) / (nI (x.1 0)) * (nI (x.1 0))), .int (x.2.1)]) (rest := []) ⟨hx, hb, hml, hown, hts⟩ (c_G_paidFrom l D cI cL cQ d κ x hX hB _ ((pos - (nI (x.1 0 * x.1 1))) / (nI (x.1 0))) ((pos - (nI (x.1 0 * x.1 1))) - (pos - (nI (x.1 0 * x.1 1))) / (nI (x.1 0)) * (nI (x.1 0))) x.2.1) (cwV 3 hts (k_gV tw_313 tw_314 tw_315 tw_40 tw_316) rfl rfl rfl (by decide +kernel) ⟨Nat.le_of_ble_eq_true rfl, Nat.le_of_ble_eq_true rfl⟩) (kPreV hP hK (q := 27) hX.2.2.2.2.2.2.2.2.2.1 rfl) rfl rfl hl.1 rfl (lv_room (Nat.le_of_ble_eq_true rfl)) dX_net_63 ⟨Nat.le_of_ble_eq_true rfl, Nat.le_of_ble_eq_true rfl⟩) (fun r_63 e_63 => ?_)
      subst e_63
      refine lv_lneg hx hb dX_net_66 ?_
      exact W.lret (v := -(f_G_paidFrom x ((pos - (nI (x.1 0 * x.1 1))) / (nI (x.1 0))) ((pos - (nI (x.1 0 * x.1 1))) - (pos - (nI (x.1 0 * x.1 1))) / (nI (x.1 0)) * (nI (x.1 0))) x.2.1)) hx hb hr (fun t ht hW => ⟨_, rfl, by rw [f_X_net, if_neg c_5, if_pos c_15], ht⟩) (fun q h => by cases h) dX_net_67
    · refine lv_aload_n hx hb dX_net_18 rfl (lv_at hl 0 rfl) ?_
      refine ka_get (ci := 3) (C := RX) (T := TX) (N := 10) hx hb hts inX hown hK hP (q := 18) hX.1 rfl 9 (by decide) (hts _ tw_108) (fun _ h9 => h9) rfl dX_net_19 ?_
      refine lv_aload_n hx hb dX_net_22 rfl (lv_at hl 0 rfl) ?_
      refine lv_iload_n hx hb dX_net_23 rfl (lv_at hl 1 rfl) ?_
      refine vp_callSi (W.runV (C := RX) (As := [.int (pos)]) (rest := [.ref (d 27)]) ⟨hx, hb, hml, hown, hts⟩ (c_X_ownerOf l D cI cL cQ d κ x hX hB _ pos) (cwV 1 hts (k_gV tw_358 tw_360 tw_21 tw_38 tw_361) rfl rfl rfl (by decide +kernel) ⟨Nat.le_of_ble_eq_true rfl, Nat.le_of_ble_eq_true rfl⟩) (kPreV hP hK (q := 18) hX.1 rfl) rfl rfl hl.1 rfl (lv_room (Nat.le_of_ble_eq_true rfl)) dX_net_24 ⟨Nat.le_of_ble_eq_true rfl, Nat.le_of_ble_eq_true rfl⟩) (fun r_24 e_24 => ?_)
      subst e_24
      refine lv_aload_n hx hb dX_net_27 rfl (lv_at hl 0 rfl) ?_
      refine lv_iload_n hx hb dX_net_28 rfl (lv_at hl 1 rfl) ?_
      refine vp_callSi (W.runV (C := RX) (As := [.int (pos)]) (rest := [.int (f_X_ownerOf x pos), .ref (d 27)]) ⟨hx, hb, hml, hown, hts⟩ (c_X_assetOf l D cI cL cQ d κ x hX hB _ pos) (cwV 1 hts (k_gV tw_354 tw_356 tw_20 tw_38 tw_357) rfl rfl rfl (by decide +kernel) ⟨Nat.le_of_ble_eq_true rfl, Nat.le_of_ble_eq_true rfl⟩) (kPreV hP hK (q := 18) hX.1 rfl) rfl rfl hl.1 rfl (lv_room (Nat.le_of_ble_eq_true rfl)) dX_net_29 ⟨Nat.le_of_ble_eq_true rfl, Nat.le_of_ble_eq_true rfl⟩) (fun r_29 e_29 => ?_)
      subst e_29
      refine vp_callSl (W.runV (C := RG) (As := [.int (f_X_ownerOf x pos), .int (f_X_assetOf x pos)]) (rest := []) ⟨hx, hb, hml, hown, hts⟩ (c_G_netOf l D cI cL cQ d κ x hX hB _ (f_X_ownerOf x pos) (f_X_assetOf x pos)) (cwV 2 hts (k_gV tw_305 tw_306 tw_307 tw_40 tw_308) rfl rfl rfl (by decide +kernel) ⟨Nat.le_of_ble_eq_true rfl, Nat.le_of_ble_eq_true rfl⟩) (kPreV hP hK (q := 27) hX.2.2.2.2.2.2.2.2.2.1 rfl) rfl rfl hl.1 rfl (lv_room (Nat.le_of_ble_eq_true rfl)) dX_net_32 ⟨Nat.le_of_ble_eq_true rfl, Nat.le_of_ble_eq_true rfl⟩) (fun r_32 e_32 => ?_)
      subst e_32
      exact W.lret (v := f_G_netOf x (f_X_ownerOf x pos) (f_X_assetOf x pos)) hx hb hr (fun t ht hW => ⟨_, rfl, by rw [f_X_net, if_neg c_5, if_neg c_15], ht⟩) (fun q h => by cases h) dX_net_35
  · refine lv_lconst (v := 0) hx hb dX_net_8 (by decide) ?_
    exact W.lret (v := 0) hx hb hr (fun t ht hW => ⟨_, rfl, by rw [f_X_net, if_pos c_5], ht⟩) (fun q h => by cases h) dX_net_9

theorem dX_value_0 : decode prog_1_method_17_code 0 = .ok (.aload_n 0, 1) := by decide +kernel
theorem dX_value_1 : decode prog_1_method_17_code 1 = .ok (.iload_n 1, 1) := by decide +kernel
theorem dX_value_2 : decode prog_1_method_17_code 2 = .ok (.invokevirtual 164, 3) := by decide +kernel
theorem dX_value_5 : decode prog_1_method_17_code 5 = .ok (.ifCond .ne 26, 3) := by decide +kernel
theorem dX_value_8 : decode prog_1_method_17_code 8 = .ok (.aload_n 0, 1) := by decide +kernel
theorem dX_value_9 : decode prog_1_method_17_code 9 = .ok (.iload_n 1, 1) := by decide +kernel
theorem dX_value_10 : decode prog_1_method_17_code 10 = .ok (.invokevirtual 161, 3) := by decide +kernel
theorem dX_value_13 : decode prog_1_method_17_code 13 = .ok (.ifCond .eq 16, 3) := by decide +kernel
theorem dX_value_16 : decode prog_1_method_17_code 16 = .ok (.aload_n 0, 1) := by decide +kernel
theorem dX_value_17 : decode prog_1_method_17_code 17 = .ok (.iload_n 1, 1) := by decide +kernel
theorem dX_value_18 : decode prog_1_method_17_code 18 = .ok (.aload_n 0, 1) := by decide +kernel
theorem dX_value_19 : decode prog_1_method_17_code 19 = .ok (.getfield 19, 3) := by decide +kernel
theorem dX_value_22 : decode prog_1_method_17_code 22 = .ok (.isub, 1) := by decide +kernel
theorem dX_value_23 : decode prog_1_method_17_code 23 = .ok (.invokevirtual 180, 3) := by decide +kernel
theorem dX_value_26 : decode prog_1_method_17_code 26 = .ok (.goto 4, 3) := by decide +kernel
theorem dX_value_29 : decode prog_1_method_17_code 29 = .ok (.lconst 0, 1) := by decide +kernel
theorem dX_value_30 : decode prog_1_method_17_code 30 = .ok (.lreturn, 1) := by decide +kernel
theorem dX_value_31 : decode prog_1_method_17_code 31 = .ok (.aload_n 0, 1) := by decide +kernel
theorem dX_value_32 : decode prog_1_method_17_code 32 = .ok (.aload_n 0, 1) := by decide +kernel
theorem dX_value_33 : decode prog_1_method_17_code 33 = .ok (.iload_n 1, 1) := by decide +kernel
theorem dX_value_34 : decode prog_1_method_17_code 34 = .ok (.invokevirtual 171, 3) := by decide +kernel
theorem dX_value_37 : decode prog_1_method_17_code 37 = .ok (.invokevirtual 79, 3) := by decide +kernel
theorem dX_value_40 : decode prog_1_method_17_code 40 = .ok (.astore_n 2, 1) := by decide +kernel
theorem dX_value_41 : decode prog_1_method_17_code 41 = .ok (.aload_n 2, 1) := by decide +kernel
theorem dX_value_42 : decode prog_1_method_17_code 42 = .ok (.ifnonnull 7, 3) := by decide +kernel
theorem dX_value_45 : decode prog_1_method_17_code 45 = .ok (.lconst 0, 1) := by decide +kernel
theorem dX_value_46 : decode prog_1_method_17_code 46 = .ok (.goto 13, 3) := by decide +kernel
theorem dX_value_49 : decode prog_1_method_17_code 49 = .ok (.aload_n 2, 1) := by decide +kernel
theorem dX_value_50 : decode prog_1_method_17_code 50 = .ok (.getfield 90, 3) := by decide +kernel
theorem dX_value_53 : decode prog_1_method_17_code 53 = .ok (.aload_n 0, 1) := by decide +kernel
theorem dX_value_54 : decode prog_1_method_17_code 54 = .ok (.iload_n 1, 1) := by decide +kernel
theorem dX_value_55 : decode prog_1_method_17_code 55 = .ok (.invokevirtual 167, 3) := by decide +kernel
theorem dX_value_58 : decode prog_1_method_17_code 58 = .ok (.laload, 1) := by decide +kernel
theorem dX_value_59 : decode prog_1_method_17_code 59 = .ok (.lreturn, 1) := by decide +kernel
def f_X_value (x : XS) (pos : Int32) : Int64 := if (f_X_isPosition x pos) = 0 then (if (f_X_isThere x pos) = 0 then 0 else (f_X_roomOf x (pos - (nI (x.1 0 * x.1 1))))) else (if xIs x (f_X_assetOf x pos) then ((xH x ((f_X_assetOf x pos).toNatClampNeg)) (f_X_ownerOf x pos).toNatClampNeg) else 0)
set_option maxHeartbeats 4000000 in
set_option maxRecDepth 100000 in
theorem c_X_value (l : Launch) (D : va_G) (cI cL cQ : ClassId) (d : Nat → Nat) (κ : Nat → Option va_E) (x : XS) (hX : IsX cI cL cQ d κ x) (hB : XB x) (sz : Nat) (pos : Int32)  : Met l yX_value wX_value { frames := 4, cells := 0, slots := 0, locals := 87 } (va_Pc [.ref (d 18), .int (pos)] (kC D vCl (kT cI cL cQ) d κ sz)) (vp_Sl (fun r => r = f_X_value x pos)) 0 0 (fun _ => False) := by
  refine kMet (by decide) (Nat.le_of_ble_eq_true rfl) ?_
  intro p0 e0 s0 m0 below0 meth0 c0 hx hb hr hml hown hlocks hin hts hsz hP hK ls hl
  have hl : lv_has ls 3 [(0, .ref (d 18)), (1, .int (pos))] := hl
  have hB9 := hB
  obtain ⟨hb0, hb1, hb2, hb3, hb4, hb5, hb6, hb7, hb8⟩ := hB9
  refine lv_aload_n hx hb dX_value_0 rfl (lv_at hl 0 rfl) ?_
  refine lv_iload_n hx hb dX_value_1 rfl (lv_at hl 1 rfl) ?_
  refine vp_callSi (W.runV (C := RX) (As := [.int (pos)]) (rest := []) ⟨hx, hb, hml, hown, hts⟩ (c_X_isPosition l D cI cL cQ d κ x hX hB _ pos) (cwV 1 hts (k_gV tw_350 tw_352 tw_19 tw_38 tw_353) rfl rfl rfl (by decide +kernel) ⟨Nat.le_of_ble_eq_true rfl, Nat.le_of_ble_eq_true rfl⟩) (kPreV hP hK (q := 18) hX.1 rfl) rfl rfl hl.1 rfl (lv_room (Nat.le_of_ble_eq_true rfl)) dX_value_2 ⟨Nat.le_of_ble_eq_true rfl, Nat.le_of_ble_eq_true rfl⟩) (fun r_2 e_2 => ?_)
  subst e_2
  refine lv_if_ne (tgt := 31) hx hb dX_value_5 (by decide) (fun c_5 => ?_) (fun c_5 => ?_)
  · refine lv_aload_n hx hb dX_value_31 rfl (lv_at hl 0 rfl) ?_
    refine lv_aload_n hx hb dX_value_32 rfl (lv_at hl 0 rfl) ?_
    refine lv_iload_n hx hb dX_value_33 rfl (lv_at hl 1 rfl) ?_
    refine vp_callSi (W.runV (C := RX) (As := [.int (pos)]) (rest := [.ref (d 18)]) ⟨hx, hb, hml, hown, hts⟩ (c_X_assetOf l D cI cL cQ d κ x hX hB _ pos) (cwV 1 hts (k_gV tw_354 tw_356 tw_20 tw_38 tw_357) rfl rfl rfl (by decide +kernel) ⟨Nat.le_of_ble_eq_true rfl, Nat.le_of_ble_eq_true rfl⟩) (kPreV hP hK (q := 18) hX.1 rfl) rfl rfl hl.1 rfl (lv_room (Nat.le_of_ble_eq_true rfl)) dX_value_34 ⟨Nat.le_of_ble_eq_true rfl, Nat.le_of_ble_eq_true rfl⟩) (fun r_34 e_34 => ?_)
    subst e_34
    refine va_csq (W.runV (C := RX) (As := [.int (f_X_assetOf x pos)]) (rest := []) ⟨hx, hb, hml, hown, hts⟩ (c_X_assetAt l D cI cL cQ d κ x hX hB _ (f_X_assetOf x pos)) (cwV 1 hts (k_gV tw_179 tw_181 tw_2 tw_38 tw_182) rfl rfl rfl (by decide +kernel) ⟨Nat.le_of_ble_eq_true rfl, Nat.le_of_ble_eq_true rfl⟩) (kPreV hP hK (q := 18) hX.1 rfl) rfl rfl hl.1 rfl (lv_room (Nat.le_of_ble_eq_true rfl)) dX_value_37 ⟨Nat.le_of_ble_eq_true rfl, Nat.le_of_ble_eq_true rfl⟩) (fun r_37 e_37 => ?_)
    subst e_37
    by_cases hA_37 : xIs x (f_X_assetOf x pos)
    · rw [if_pos hA_37]
      have hi_37 : (f_X_assetOf x pos).toNatClampNeg < x.1 2 := (xIs_in hB hA_37).2
      refine lv_astore_n (lv' := [(2, .ref (d (32 + 3 * (f_X_assetOf x pos).toNatClampNeg))), (0, .ref (d 18)), (1, .int (pos))]) hx hb dX_value_40 rfl hl (by decide) rfl (fun ls hl => ?_)
      refine lv_aload_n hx hb dX_value_41 rfl (lv_at hl 0 rfl) ?_
      refine lv_ifnonnull (tgt := 49) hx hb dX_value_42 (by decide) ?_
      refine lv_aload_n hx hb dX_value_49 rfl (lv_at hl 0 rfl) ?_
      refine ka_get (ci := 0) (C := RA) (T := TA) (N := 4) hx hb hts inA hown hK hP (q := (32 + 3 * (f_X_assetOf x pos).toNatClampNeg)) (hX.2.2.2.2.2.2.2.2.2.2.2.2.2.2.1 ((f_X_assetOf x pos).toNatClampNeg) hi_37).1 rfl 1 (by decide) (hts _ tw_146) (fun _ h9 => h9) rfl dX_value_50 ?_
      refine lv_aload_n hx hb dX_value_53 rfl (lv_at hl 1 rfl) ?_
      refine lv_iload_n hx hb dX_value_54 rfl (lv_at hl 2 rfl) ?_
      refine vp_callSi (W.runV (C := RX) (As := [.int (pos)]) (rest := [.ref (d (33 + 3 * (f_X_assetOf x pos).toNatClampNeg))]) ⟨hx, hb, hml, hown, hts⟩ (c_X_ownerOf l D cI cL cQ d κ x hX hB _ pos) (cwV 1 hts (k_gV tw_358 tw_360 tw_21 tw_38 tw_361) rfl rfl rfl (by decide +kernel) ⟨Nat.le_of_ble_eq_true rfl, Nat.le_of_ble_eq_true rfl⟩) (kPreV hP hK (q := 18) hX.1 rfl) rfl rfl hl.1 rfl (lv_room (Nat.le_of_ble_eq_true rfl)) dX_value_55 ⟨Nat.le_of_ble_eq_true rfl, Nat.le_of_ble_eq_true rfl⟩) (fun r_55 e_55 => ?_)
      subst e_55
      refine ka_lald hx hb hK hP 1 (q := (33 + 3 * (f_X_assetOf x pos).toNatClampNeg)) (hX.2.2.2.2.2.2.2.2.2.2.2.2.2.2.1 ((f_X_assetOf x pos).toNatClampNeg) hi_37).2.1 rfl (owner_in hB (by assumption)) dX_value_58 ?_
      exact W.lret (v := (xH x ((f_X_assetOf x pos).toNatClampNeg)) (f_X_ownerOf x pos).toNatClampNeg) hx hb hr (fun t ht hW => ⟨_, rfl, by rw [f_X_value, if_neg c_5, if_pos hA_37], ht⟩) (fun q h => by cases h) dX_value_59
    · rw [if_neg hA_37]
      refine lv_astore_nN (lv' := [(2, .null), (0, .ref (d 18)), (1, .int (pos))]) hx hb dX_value_40 rfl hl (by decide) rfl (fun ls hl => ?_)
      refine lv_aload_nN hx hb dX_value_41 rfl (lv_at hl 0 rfl) ?_
      refine lv_ifnonnullN hx hb dX_value_42 ?_
      refine lv_lconst (v := 0) hx hb dX_value_45 (by decide) ?_
      refine lv_goto (tgt := 59) hx hb dX_value_46 (by decide) ?_
      exact W.lret (v := 0) hx hb hr (fun t ht hW => ⟨_, rfl, by rw [f_X_value, if_neg c_5, if_neg hA_37], ht⟩) (fun q h => by cases h) dX_value_59
  · refine lv_aload_n hx hb dX_value_8 rfl (lv_at hl 0 rfl) ?_
    refine lv_iload_n hx hb dX_value_9 rfl (lv_at hl 1 rfl) ?_
    refine vp_callSi (W.runV (C := RX) (As := [.int (pos)]) (rest := []) ⟨hx, hb, hml, hown, hts⟩ (c_X_isThere l D cI cL cQ d κ x hX hB _ pos) (cwV 1 hts (k_gV tw_346 tw_347 tw_348 tw_38 tw_349) rfl rfl rfl (by decide +kernel) ⟨Nat.le_of_ble_eq_true rfl, Nat.le_of_ble_eq_true rfl⟩) (kPreV hP hK (q := 18) hX.1 rfl) rfl rfl hl.1 rfl (lv_room (Nat.le_of_ble_eq_true rfl)) dX_value_10 ⟨Nat.le_of_ble_eq_true rfl, Nat.le_of_ble_eq_true rfl⟩) (fun r_10 e_10 => ?_)
    subst e_10
    refine lv_if_eq (tgt := 29) hx hb dX_value_13 (by decide) (fun c_13 => ?_) (fun c_13 => ?_)
    · refine lv_lconst (v := 0) hx hb dX_value_29 (by decide) ?_
      exact W.lret (v := 0) hx hb hr (fun t ht hW => ⟨_, rfl, by rw [f_X_value, if_pos c_5, if_pos c_13], ht⟩) (fun q h => by cases h) dX_value_30
    · refine lv_aload_n hx hb dX_value_16 rfl (lv_at hl 0 rfl) ?_
      refine lv_iload_n hx hb dX_value_17 rfl (lv_at hl 1 rfl) ?_
      refine lv_aload_n hx hb dX_value_18 rfl (lv_at hl 0 rfl) ?_
      refine ka_get (ci := 3) (C := RX) (T := TX) (N := 10) hx hb hts inX hown hK hP (q := 18) hX.1 rfl 1 (by decide) (hts _ tw_100) (fun _ h9 => h9) rfl dX_value_19 ?_
      refine lv_isub hx hb dX_value_22 ?_
      refine vp_callSl (W.runV (C := RX) (As := [.int (pos - (nI (x.1 0 * x.1 1)))]) (rest := []) ⟨hx, hb, hml, hown, hts⟩ (c_X_roomOf l D cI cL cQ d κ x hX hB _ (pos - (nI (x.1 0 * x.1 1)))) (cwV 1 hts (k_gV tw_321 tw_323 tw_16 tw_38 tw_324) rfl rfl rfl (by decide +kernel) ⟨Nat.le_of_ble_eq_true rfl, Nat.le_of_ble_eq_true rfl⟩) (kPreV hP hK (q := 18) hX.1 rfl) rfl rfl hl.1 rfl (lv_room (Nat.le_of_ble_eq_true rfl)) dX_value_23 ⟨Nat.le_of_ble_eq_true rfl, Nat.le_of_ble_eq_true rfl⟩) (fun r_23 e_23 => ?_)
      subst e_23
      refine lv_goto (tgt := 30) hx hb dX_value_26 (by decide) ?_
      exact W.lret (v := f_X_roomOf x (pos - (nI (x.1 0 * x.1 1)))) hx hb hr (fun t ht hW => ⟨_, rfl, by rw [f_X_value, if_pos c_5, if_neg c_13], ht⟩) (fun q h => by cases h) dX_value_30

theorem dX_floor_0 : decode prog_1_method_18_code 0 = .ok (.aload_n 0, 1) := by decide +kernel
theorem dX_floor_1 : decode prog_1_method_18_code 1 = .ok (.iload_n 1, 1) := by decide +kernel
theorem dX_floor_2 : decode prog_1_method_18_code 2 = .ok (.invokevirtual 164, 3) := by decide +kernel
theorem dX_floor_5 : decode prog_1_method_18_code 5 = .ok (.ifCond .ne 5, 3) := by decide +kernel
theorem dX_floor_8 : decode prog_1_method_18_code 8 = .ok (.lconst 0, 1) := by decide +kernel
theorem dX_floor_9 : decode prog_1_method_18_code 9 = .ok (.lreturn, 1) := by decide +kernel
theorem dX_floor_10 : decode prog_1_method_18_code 10 = .ok (.aload_n 0, 1) := by decide +kernel
theorem dX_floor_11 : decode prog_1_method_18_code 11 = .ok (.aload_n 0, 1) := by decide +kernel
theorem dX_floor_12 : decode prog_1_method_18_code 12 = .ok (.iload_n 1, 1) := by decide +kernel
theorem dX_floor_13 : decode prog_1_method_18_code 13 = .ok (.invokevirtual 171, 3) := by decide +kernel
theorem dX_floor_16 : decode prog_1_method_18_code 16 = .ok (.invokevirtual 79, 3) := by decide +kernel
theorem dX_floor_19 : decode prog_1_method_18_code 19 = .ok (.astore_n 2, 1) := by decide +kernel
theorem dX_floor_20 : decode prog_1_method_18_code 20 = .ok (.aload_n 2, 1) := by decide +kernel
theorem dX_floor_21 : decode prog_1_method_18_code 21 = .ok (.ifnonnull 7, 3) := by decide +kernel
theorem dX_floor_24 : decode prog_1_method_18_code 24 = .ok (.lconst 0, 1) := by decide +kernel
theorem dX_floor_25 : decode prog_1_method_18_code 25 = .ok (.goto 13, 3) := by decide +kernel
theorem dX_floor_28 : decode prog_1_method_18_code 28 = .ok (.aload_n 0, 1) := by decide +kernel
theorem dX_floor_29 : decode prog_1_method_18_code 29 = .ok (.aload_n 2, 1) := by decide +kernel
theorem dX_floor_30 : decode prog_1_method_18_code 30 = .ok (.aload_n 0, 1) := by decide +kernel
theorem dX_floor_31 : decode prog_1_method_18_code 31 = .ok (.iload_n 1, 1) := by decide +kernel
theorem dX_floor_32 : decode prog_1_method_18_code 32 = .ok (.invokevirtual 167, 3) := by decide +kernel
theorem dX_floor_35 : decode prog_1_method_18_code 35 = .ok (.invokevirtual 99, 3) := by decide +kernel
theorem dX_floor_38 : decode prog_1_method_18_code 38 = .ok (.lreturn, 1) := by decide +kernel
def f_X_floor (x : XS) (pos : Int32) : Int64 := if (f_X_isPosition x pos) = 0 then 0 else (if xIs x (f_X_assetOf x pos) then (f_X_lowest x ((f_X_assetOf x pos).toNatClampNeg) (f_X_ownerOf x pos)) else 0)
set_option maxHeartbeats 4000000 in
set_option maxRecDepth 100000 in
theorem c_X_floor (l : Launch) (D : va_G) (cI cL cQ : ClassId) (d : Nat → Nat) (κ : Nat → Option va_E) (x : XS) (hX : IsX cI cL cQ d κ x) (hB : XB x) (sz : Nat) (pos : Int32)  : Met l yX_floor wX_floor { frames := 2, cells := 0, slots := 0, locals := 43 } (va_Pc [.ref (d 18), .int (pos)] (kC D vCl (kT cI cL cQ) d κ sz)) (vp_Sl (fun r => r = f_X_floor x pos)) 0 0 (fun _ => False) := by
  refine kMet (by decide) (Nat.le_of_ble_eq_true rfl) ?_
  intro p0 e0 s0 m0 below0 meth0 c0 hx hb hr hml hown hlocks hin hts hsz hP hK ls hl
  have hl : lv_has ls 3 [(0, .ref (d 18)), (1, .int (pos))] := hl
  have hB9 := hB
  obtain ⟨hb0, hb1, hb2, hb3, hb4, hb5, hb6, hb7, hb8⟩ := hB9
  refine lv_aload_n hx hb dX_floor_0 rfl (lv_at hl 0 rfl) ?_
  refine lv_iload_n hx hb dX_floor_1 rfl (lv_at hl 1 rfl) ?_
  refine vp_callSi (W.runV (C := RX) (As := [.int (pos)]) (rest := []) ⟨hx, hb, hml, hown, hts⟩ (c_X_isPosition l D cI cL cQ d κ x hX hB _ pos) (cwV 1 hts (k_gV tw_350 tw_352 tw_19 tw_38 tw_353) rfl rfl rfl (by decide +kernel) ⟨Nat.le_of_ble_eq_true rfl, Nat.le_of_ble_eq_true rfl⟩) (kPreV hP hK (q := 18) hX.1 rfl) rfl rfl hl.1 rfl (lv_room (Nat.le_of_ble_eq_true rfl)) dX_floor_2 ⟨Nat.le_of_ble_eq_true rfl, Nat.le_of_ble_eq_true rfl⟩) (fun r_2 e_2 => ?_)
  subst e_2
  refine lv_if_ne (tgt := 10) hx hb dX_floor_5 (by decide) (fun c_5 => ?_) (fun c_5 => ?_)
  · refine lv_aload_n hx hb dX_floor_10 rfl (lv_at hl 0 rfl) ?_
    refine lv_aload_n hx hb dX_floor_11 rfl (lv_at hl 0 rfl) ?_
    refine lv_iload_n hx hb dX_floor_12 rfl (lv_at hl 1 rfl) ?_
    refine vp_callSi (W.runV (C := RX) (As := [.int (pos)]) (rest := [.ref (d 18)]) ⟨hx, hb, hml, hown, hts⟩ (c_X_assetOf l D cI cL cQ d κ x hX hB _ pos) (cwV 1 hts (k_gV tw_354 tw_356 tw_20 tw_38 tw_357) rfl rfl rfl (by decide +kernel) ⟨Nat.le_of_ble_eq_true rfl, Nat.le_of_ble_eq_true rfl⟩) (kPreV hP hK (q := 18) hX.1 rfl) rfl rfl hl.1 rfl (lv_room (Nat.le_of_ble_eq_true rfl)) dX_floor_13 ⟨Nat.le_of_ble_eq_true rfl, Nat.le_of_ble_eq_true rfl⟩) (fun r_13 e_13 => ?_)
    subst e_13
    refine va_csq (W.runV (C := RX) (As := [.int (f_X_assetOf x pos)]) (rest := []) ⟨hx, hb, hml, hown, hts⟩ (c_X_assetAt l D cI cL cQ d κ x hX hB _ (f_X_assetOf x pos)) (cwV 1 hts (k_gV tw_179 tw_181 tw_2 tw_38 tw_182) rfl rfl rfl (by decide +kernel) ⟨Nat.le_of_ble_eq_true rfl, Nat.le_of_ble_eq_true rfl⟩) (kPreV hP hK (q := 18) hX.1 rfl) rfl rfl hl.1 rfl (lv_room (Nat.le_of_ble_eq_true rfl)) dX_floor_16 ⟨Nat.le_of_ble_eq_true rfl, Nat.le_of_ble_eq_true rfl⟩) (fun r_16 e_16 => ?_)
    subst e_16
    by_cases hA_16 : xIs x (f_X_assetOf x pos)
    · rw [if_pos hA_16]
      have hi_16 : (f_X_assetOf x pos).toNatClampNeg < x.1 2 := (xIs_in hB hA_16).2
      refine lv_astore_n (lv' := [(2, .ref (d (32 + 3 * (f_X_assetOf x pos).toNatClampNeg))), (0, .ref (d 18)), (1, .int (pos))]) hx hb dX_floor_19 rfl hl (by decide) rfl (fun ls hl => ?_)
      refine lv_aload_n hx hb dX_floor_20 rfl (lv_at hl 0 rfl) ?_
      refine lv_ifnonnull (tgt := 28) hx hb dX_floor_21 (by decide) ?_
      refine lv_aload_n hx hb dX_floor_28 rfl (lv_at hl 1 rfl) ?_
      refine lv_aload_n hx hb dX_floor_29 rfl (lv_at hl 0 rfl) ?_
      refine lv_aload_n hx hb dX_floor_30 rfl (lv_at hl 1 rfl) ?_
      refine lv_iload_n hx hb dX_floor_31 rfl (lv_at hl 2 rfl) ?_
      refine vp_callSi (W.runV (C := RX) (As := [.int (pos)]) (rest := [.ref (d (32 + 3 * (f_X_assetOf x pos).toNatClampNeg)), .ref (d 18)]) ⟨hx, hb, hml, hown, hts⟩ (c_X_ownerOf l D cI cL cQ d κ x hX hB _ pos) (cwV 1 hts (k_gV tw_358 tw_360 tw_21 tw_38 tw_361) rfl rfl rfl (by decide +kernel) ⟨Nat.le_of_ble_eq_true rfl, Nat.le_of_ble_eq_true rfl⟩) (kPreV hP hK (q := 18) hX.1 rfl) rfl rfl hl.1 rfl (lv_room (Nat.le_of_ble_eq_true rfl)) dX_floor_32 ⟨Nat.le_of_ble_eq_true rfl, Nat.le_of_ble_eq_true rfl⟩) (fun r_32 e_32 => ?_)
      subst e_32
      refine vp_callSl (W.runV (C := RX) (As := [.ref (d (32 + 3 * (f_X_assetOf x pos).toNatClampNeg)), .int (f_X_ownerOf x pos)]) (rest := []) ⟨hx, hb, hml, hown, hts⟩ (c_X_lowest l D cI cL cQ d κ x hX hB _ ((f_X_assetOf x pos).toNatClampNeg) hi_16 (f_X_ownerOf x pos) (owner_in hB (by assumption))) (cwV 2 hts (k_gV tw_228 tw_230 tw_8 tw_38 tw_231) rfl rfl rfl (by decide +kernel) ⟨Nat.le_of_ble_eq_true rfl, Nat.le_of_ble_eq_true rfl⟩) (kPreV hP hK (q := 18) hX.1 rfl) rfl rfl hl.1 rfl (lv_room (Nat.le_of_ble_eq_true rfl)) dX_floor_35 ⟨Nat.le_of_ble_eq_true rfl, Nat.le_of_ble_eq_true rfl⟩) (fun r_35 e_35 => ?_)
      subst e_35
      exact W.lret (v := f_X_lowest x ((f_X_assetOf x pos).toNatClampNeg) (f_X_ownerOf x pos)) hx hb hr (fun t ht hW => ⟨_, rfl, by rw [f_X_floor, if_neg c_5, if_pos hA_16], ht⟩) (fun q h => by cases h) dX_floor_38
    · rw [if_neg hA_16]
      refine lv_astore_nN (lv' := [(2, .null), (0, .ref (d 18)), (1, .int (pos))]) hx hb dX_floor_19 rfl hl (by decide) rfl (fun ls hl => ?_)
      refine lv_aload_nN hx hb dX_floor_20 rfl (lv_at hl 0 rfl) ?_
      refine lv_ifnonnullN hx hb dX_floor_21 ?_
      refine lv_lconst (v := 0) hx hb dX_floor_24 (by decide) ?_
      refine lv_goto (tgt := 38) hx hb dX_floor_25 (by decide) ?_
      exact W.lret (v := 0) hx hb hr (fun t ht hW => ⟨_, rfl, by rw [f_X_floor, if_neg c_5, if_neg hA_16], ht⟩) (fun q h => by cases h) dX_floor_38
  · refine lv_lconst (v := 0) hx hb dX_floor_8 (by decide) ?_
    exact W.lret (v := 0) hx hb hr (fun t ht hW => ⟨_, rfl, by rw [f_X_floor, if_pos c_5], ht⟩) (fun q h => by cases h) dX_floor_9

theorem dX_credit_0 : decode prog_1_method_20_code 0 = .ok (.aload_n 0, 1) := by decide +kernel
theorem dX_credit_1 : decode prog_1_method_20_code 1 = .ok (.iload_n 1, 1) := by decide +kernel
theorem dX_credit_2 : decode prog_1_method_20_code 2 = .ok (.invokevirtual 82, 3) := by decide +kernel
theorem dX_credit_5 : decode prog_1_method_20_code 5 = .ok (.ifCond .eq 12, 3) := by decide +kernel
theorem dX_credit_8 : decode prog_1_method_20_code 8 = .ok (.aload_n 0, 1) := by decide +kernel
theorem dX_credit_9 : decode prog_1_method_20_code 9 = .ok (.getfield 28, 3) := by decide +kernel
theorem dX_credit_12 : decode prog_1_method_20_code 12 = .ok (.iload_n 1, 1) := by decide +kernel
theorem dX_credit_13 : decode prog_1_method_20_code 13 = .ok (.laload, 1) := by decide +kernel
theorem dX_credit_14 : decode prog_1_method_20_code 14 = .ok (.goto 4, 3) := by decide +kernel
theorem dX_credit_17 : decode prog_1_method_20_code 17 = .ok (.lconst 0, 1) := by decide +kernel
theorem dX_credit_18 : decode prog_1_method_20_code 18 = .ok (.lreturn, 1) := by decide +kernel
def f_X_credit (x : XS) (p : Int32) : Int64 := if (f_X_isClient x p) = 0 then 0 else ((x.2.2.2.2.1 0) (p).toNatClampNeg)
set_option maxHeartbeats 4000000 in
set_option maxRecDepth 100000 in
theorem c_X_credit (l : Launch) (D : va_G) (cI cL cQ : ClassId) (d : Nat → Nat) (κ : Nat → Option va_E) (x : XS) (hX : IsX cI cL cQ d κ x) (hB : XB x) (sz : Nat) (p : Int32)  : Met l yX_credit wX_credit { frames := 1, cells := 0, slots := 0, locals := 21 } (va_Pc [.ref (d 18), .int (p)] (kC D vCl (kT cI cL cQ) d κ sz)) (vp_Sl (fun r => r = f_X_credit x p)) 0 0 (fun _ => False) := by
  refine kMet (by decide) (Nat.le_of_ble_eq_true rfl) ?_
  intro p0 e0 s0 m0 below0 meth0 c0 hx hb hr hml hown hlocks hin hts hsz hP hK ls hl
  have hl : lv_has ls 2 [(0, .ref (d 18)), (1, .int (p))] := hl
  have hB9 := hB
  obtain ⟨hb0, hb1, hb2, hb3, hb4, hb5, hb6, hb7, hb8⟩ := hB9
  refine lv_aload_n hx hb dX_credit_0 rfl (lv_at hl 0 rfl) ?_
  refine lv_iload_n hx hb dX_credit_1 rfl (lv_at hl 1 rfl) ?_
  refine vp_callSi (W.runV (C := RX) (As := [.int (p)]) (rest := []) ⟨hx, hb, hml, hown, hts⟩ (c_X_isClient l D cI cL cQ d κ x hX hB _ p) (cwV 1 hts (k_gV tw_212 tw_214 tw_7 tw_38 tw_215) rfl rfl rfl (by decide +kernel) ⟨Nat.le_of_ble_eq_true rfl, Nat.le_of_ble_eq_true rfl⟩) (kPreV hP hK (q := 18) hX.1 rfl) rfl rfl hl.1 rfl (lv_room (Nat.le_of_ble_eq_true rfl)) dX_credit_2 ⟨Nat.le_of_ble_eq_true rfl, Nat.le_of_ble_eq_true rfl⟩) (fun r_2 e_2 => ?_)
  subst e_2
  refine lv_if_eq (tgt := 17) hx hb dX_credit_5 (by decide) (fun c_5 => ?_) (fun c_5 => ?_)
  · refine lv_lconst (v := 0) hx hb dX_credit_17 (by decide) ?_
    exact W.lret (v := 0) hx hb hr (fun t ht hW => ⟨_, rfl, by rw [f_X_credit, if_pos c_5], ht⟩) (fun q h => by cases h) dX_credit_18
  · refine lv_aload_n hx hb dX_credit_8 rfl (lv_at hl 0 rfl) ?_
    refine ka_get (ci := 3) (C := RX) (T := TX) (N := 10) hx hb hts inX hown hK hP (q := 18) hX.1 rfl 5 (by decide) (hts _ tw_104) (fun _ h9 => h9) rfl dX_credit_9 ?_
    refine lv_iload_n hx hb dX_credit_12 rfl (lv_at hl 1 rfl) ?_
    refine ka_lald hx hb hK hP 1 (q := 20) hX.2.2.1 rfl (client_in hB (by assumption)) dX_credit_13 ?_
    refine lv_goto (tgt := 18) hx hb dX_credit_14 (by decide) ?_
    exact W.lret (v := (x.2.2.2.2.1 0) (p).toNatClampNeg) hx hb hr (fun t ht hW => ⟨_, rfl, by rw [f_X_credit, if_neg c_5], ht⟩) (fun q h => by cases h) dX_credit_18
