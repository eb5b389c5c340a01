theorem dX_isAmount_0 : decode prog_1_method_23_code 0 = .ok (.lload_n 0, 1) := by decide +kernel
theorem dX_isAmount_1 : decode prog_1_method_23_code 1 = .ok (.lconst 1, 1) := by decide +kernel
theorem dX_isAmount_2 : decode prog_1_method_23_code 2 = .ok (.lcmp, 1) := by decide +kernel
theorem dX_isAmount_3 : decode prog_1_method_23_code 3 = .ok (.ifCond .lt 15, 3) := by decide +kernel
theorem dX_isAmount_6 : decode prog_1_method_23_code 6 = .ok (.lload_n 0, 1) := by decide +kernel
theorem dX_isAmount_7 : decode prog_1_method_23_code 7 = .ok (.ldc2_w 114, 3) := by decide +kernel
theorem dX_isAmount_10 : decode prog_1_method_23_code 10 = .ok (.lcmp, 1) := by decide +kernel
theorem dX_isAmount_11 : decode prog_1_method_23_code 11 = .ok (.ifCond .gt 7, 3) := by decide +kernel
theorem dX_isAmount_14 : decode prog_1_method_23_code 14 = .ok (.iconst 1, 1) := by decide +kernel
theorem dX_isAmount_15 : decode prog_1_method_23_code 15 = .ok (.goto 4, 3) := by decide +kernel
theorem dX_isAmount_18 : decode prog_1_method_23_code 18 = .ok (.iconst 0, 1) := by decide +kernel
theorem dX_isAmount_19 : decode prog_1_method_23_code 19 = .ok (.ireturn, 1) := by decide +kernel
def f_X_isAmount (v : Int64) : Int32 := if v < 1 then 0 else (if 999999999999999 < v then 0 else 1)
theorem b_X_isAmount (v : Int64) : f_X_isAmount v = 0 ∨ f_X_isAmount v = 1 := by
  unfold f_X_isAmount
  repeat' (first | split | exact Or.inl rfl | exact Or.inr rfl)
set_option maxHeartbeats 4000000 in
set_option maxRecDepth 100000 in
theorem c_X_isAmount (l : Launch) (D : va_G) (cI cL cQ : ClassId) (d : Nat → Nat) (κ : Nat → Option va_E) (sz : Nat) (v : Int64)  : Met l yX_isAmount wX_isAmount { frames := 0, cells := 0, slots := 0, locals := 0 } (va_Pc [.long (v)] (kC D vCl (kT cI cL cQ) d κ sz)) (vp_Si (fun r => r = f_X_isAmount v)) 0 0 (fun _ => False) := by
  refine kMet (by decide) (Nat.le_of_ble_eq_true rfl) ?_
  intro p0 e0 s0 m0 below0 meth0 c0 hx hb hr hml hown hlocks hin hts hsz hP hK ls hl
  have hl : lv_has ls 2 [(0, .long (v))] := hl
  refine lv_lload_n hx hb dX_isAmount_0 rfl (lv_at hl 0 rfl) ?_
  refine lv_lconst (v := 1) hx hb dX_isAmount_1 (by decide) ?_
  refine kl_lt (tgt := 18) hx hb dX_isAmount_2 dX_isAmount_3 (by decide) (fun c_2 => ?_) (fun c_2 => ?_)
  · refine lv_iconst (v := 0) hx hb dX_isAmount_18 (by decide) ?_
    exact W.zret (v := 0) hx hb hr k_nar0 (fun t ht hW => ⟨_, rfl, by rw [f_X_isAmount, if_pos c_2], ht⟩) (fun q h => by cases h) dX_isAmount_19
  · refine lv_lload_n hx hb dX_isAmount_6 rfl (lv_at hl 0 rfl) ?_
    refine lv_ldc2 (v := 999999999999999) hx hb hown (hts _ tw_167) dX_isAmount_7 ?_
    refine kl_gt (tgt := 18) hx hb dX_isAmount_10 dX_isAmount_11 (by decide) (fun c_10 => ?_) (fun c_10 => ?_)
    · refine lv_iconst (v := 0) hx hb dX_isAmount_18 (by decide) ?_
      exact W.zret (v := 0) hx hb hr k_nar0 (fun t ht hW => ⟨_, rfl, by rw [f_X_isAmount, if_neg c_2, if_pos c_10], ht⟩) (fun q h => by cases h) dX_isAmount_19
    · refine lv_iconst (v := 1) hx hb dX_isAmount_14 (by decide) ?_
      refine lv_goto (tgt := 19) hx hb dX_isAmount_15 (by decide) ?_
      exact W.zret (v := 1) hx hb hr k_nar1 (fun t ht hW => ⟨_, rfl, by rw [f_X_isAmount, if_neg c_2, if_neg c_10], ht⟩) (fun q h => by cases h) dX_isAmount_19

theorem dX_isPriced_0 : decode prog_1_method_24_code 0 = .ok (.lload_n 0, 1) := by decide +kernel
theorem dX_isPriced_1 : decode prog_1_method_24_code 1 = .ok (.lconst 0, 1) := by decide +kernel
theorem dX_isPriced_2 : decode prog_1_method_24_code 2 = .ok (.lcmp, 1) := by decide +kernel
theorem dX_isPriced_3 : decode prog_1_method_24_code 3 = .ok (.ifCond .lt 25, 3) := by decide +kernel
theorem dX_isPriced_6 : decode prog_1_method_24_code 6 = .ok (.lload_n 0, 1) := by decide +kernel
theorem dX_isPriced_7 : decode prog_1_method_24_code 7 = .ok (.ldc2_w 114, 3) := by decide +kernel
theorem dX_isPriced_10 : decode prog_1_method_24_code 10 = .ok (.lcmp, 1) := by decide +kernel
theorem dX_isPriced_11 : decode prog_1_method_24_code 11 = .ok (.ifCond .gt 17, 3) := by decide +kernel
theorem dX_isPriced_14 : decode prog_1_method_24_code 14 = .ok (.iload_n 2, 1) := by decide +kernel
theorem dX_isPriced_15 : decode prog_1_method_24_code 15 = .ok (.ifCond .lt 13, 3) := by decide +kernel
theorem dX_isPriced_18 : decode prog_1_method_24_code 18 = .ok (.iload_n 2, 1) := by decide +kernel
theorem dX_isPriced_19 : decode prog_1_method_24_code 19 = .ok (.bipush 99, 2) := by decide +kernel
theorem dX_isPriced_21 : decode prog_1_method_24_code 21 = .ok (.if_icmp .gt 7, 3) := by decide +kernel
theorem dX_isPriced_24 : decode prog_1_method_24_code 24 = .ok (.iconst 1, 1) := by decide +kernel
theorem dX_isPriced_25 : decode prog_1_method_24_code 25 = .ok (.goto 4, 3) := by decide +kernel
theorem dX_isPriced_28 : decode prog_1_method_24_code 28 = .ok (.iconst 0, 1) := by decide +kernel
theorem dX_isPriced_29 : decode prog_1_method_24_code 29 = .ok (.ireturn, 1) := by decide +kernel
def f_X_isPriced (price : Int64) (haircut : Int32) : Int32 := if price < 0 then 0 else (if 999999999999999 < price then 0 else (if haircut < 0 then 0 else (if 99 < haircut then 0 else 1)))
theorem b_X_isPriced (price : Int64) (haircut : Int32) : f_X_isPriced price haircut = 0 ∨ f_X_isPriced price haircut = 1 := by
  unfold f_X_isPriced
  repeat' (first | split | exact Or.inl rfl | exact Or.inr rfl)
set_option maxHeartbeats 4000000 in
set_option maxRecDepth 100000 in
theorem c_X_isPriced (l : Launch) (D : va_G) (cI cL cQ : ClassId) (d : Nat → Nat) (κ : Nat → Option va_E) (sz : Nat) (price : Int64) (haircut : Int32)  : Met l yX_isPriced wX_isPriced { frames := 0, cells := 0, slots := 0, locals := 0 } (va_Pc [.long (price), .int (haircut)] (kC D vCl (kT cI cL cQ) d κ sz)) (vp_Si (fun r => r = f_X_isPriced price haircut)) 0 0 (fun _ => False) := by
  refine kMet (by decide) (Nat.le_of_ble_eq_true rfl) ?_
  intro p0 e0 s0 m0 below0 meth0 c0 hx hb hr hml hown hlocks hin hts hsz hP hK ls hl
  have hl : lv_has ls 3 [(0, .long (price)), (2, .int (haircut))] := hl
  refine lv_lload_n hx hb dX_isPriced_0 rfl (lv_at hl 0 rfl) ?_
  refine lv_lconst (v := 0) hx hb dX_isPriced_1 (by decide) ?_
  refine kl_lt (tgt := 28) hx hb dX_isPriced_2 dX_isPriced_3 (by decide) (fun c_2 => ?_) (fun c_2 => ?_)
  · refine lv_iconst (v := 0) hx hb dX_isPriced_28 (by decide) ?_
    exact W.zret (v := 0) hx hb hr k_nar0 (fun t ht hW => ⟨_, rfl, by rw [f_X_isPriced, if_pos c_2], ht⟩) (fun q h => by cases h) dX_isPriced_29
  · refine lv_lload_n hx hb dX_isPriced_6 rfl (lv_at hl 0 rfl) ?_
    refine lv_ldc2 (v := 999999999999999) hx hb hown (hts _ tw_167) dX_isPriced_7 ?_
    refine kl_gt (tgt := 28) hx hb dX_isPriced_10 dX_isPriced_11 (by decide) (fun c_10 => ?_) (fun c_10 => ?_)
    · refine lv_iconst (v := 0) hx hb dX_isPriced_28 (by decide) ?_
      exact W.zret (v := 0) hx hb hr k_nar0 (fun t ht hW => ⟨_, rfl, by rw [f_X_isPriced, if_neg c_2, if_pos c_10], ht⟩) (fun q h => by cases h) dX_isPriced_29
    · refine lv_iload_n hx hb dX_isPriced_14 rfl (lv_at hl 1 rfl) ?_
      refine lv_if_lt (tgt := 28) hx hb dX_isPriced_15 (by decide) (fun c_15 => ?_) (fun c_15 => ?_)
      · refine lv_iconst (v := 0) hx hb dX_isPriced_28 (by decide) ?_
        exact W.zret (v := 0) hx hb hr k_nar0 (fun t ht hW => ⟨_, rfl, by rw [f_X_isPriced, if_neg c_2, if_neg c_10, if_pos c_15], ht⟩) (fun q h => by cases h) dX_isPriced_29
      · refine lv_iload_n hx hb dX_isPriced_18 rfl (lv_at hl 1 rfl) ?_
        refine lv_bipush (v := 99) hx hb dX_isPriced_19 (by decide) ?_
        refine lv_icmp_gt (tgt := 28) hx hb dX_isPriced_21 (by decide) (fun c_21 => ?_) (fun c_21 => ?_)
        · refine lv_iconst (v := 0) hx hb dX_isPriced_28 (by decide) ?_
          exact W.zret (v := 0) hx hb hr k_nar0 (fun t ht hW => ⟨_, rfl, by rw [f_X_isPriced, if_neg c_2, if_neg c_10, if_neg c_15, if_pos c_21], ht⟩) (fun q h => by cases h) dX_isPriced_29
        · refine lv_iconst (v := 1) hx hb dX_isPriced_24 (by decide) ?_
          refine lv_goto (tgt := 29) hx hb dX_isPriced_25 (by decide) ?_
          exact W.zret (v := 1) hx hb hr k_nar1 (fun t ht hW => ⟨_, rfl, by rw [f_X_isPriced, if_neg c_2, if_neg c_10, if_neg c_15, if_neg c_21], ht⟩) (fun q h => by cases h) dX_isPriced_29

theorem dX_rateOf_0 : decode prog_1_method_32_code 0 = .ok (.lload_n 0, 1) := by decide +kernel
theorem dX_rateOf_1 : decode prog_1_method_32_code 1 = .ok (.bipush 100, 2) := by decide +kernel
theorem dX_rateOf_3 : decode prog_1_method_32_code 3 = .ok (.iload_n 2, 1) := by decide +kernel
theorem dX_rateOf_4 : decode prog_1_method_32_code 4 = .ok (.isub, 1) := by decide +kernel
theorem dX_rateOf_5 : decode prog_1_method_32_code 5 = .ok (.i2l, 1) := by decide +kernel
theorem dX_rateOf_6 : decode prog_1_method_32_code 6 = .ok (.lmul, 1) := by decide +kernel
theorem dX_rateOf_7 : decode prog_1_method_32_code 7 = .ok (.lreturn, 1) := by decide +kernel
def f_X_rateOf (price : Int64) (haircut : Int32) : Int64 := price * ((100 - haircut).toInt64)
set_option maxHeartbeats 4000000 in
set_option maxRecDepth 100000 in
theorem c_X_rateOf (l : Launch) (D : va_G) (cI cL cQ : ClassId) (d : Nat → Nat) (κ : Nat → Option va_E) (sz : Nat) (price : Int64) (haircut : Int32)  : Met l yX_rateOf wX_rateOf { frames := 0, cells := 0, slots := 0, locals := 0 } (va_Pc [.long (price), .int (haircut)] (kC D vCl (kT cI cL cQ) d κ sz)) (vp_Sl (fun r => r = f_X_rateOf price haircut)) 0 0 (fun _ => False) := by
  refine kMet (by decide) (Nat.le_of_ble_eq_true rfl) ?_
  intro p0 e0 s0 m0 below0 meth0 c0 hx hb hr hml hown hlocks hin hts hsz hP hK ls hl
  have hl : lv_has ls 3 [(0, .long (price)), (2, .int (haircut))] := hl
  refine lv_lload_n hx hb dX_rateOf_0 rfl (lv_at hl 0 rfl) ?_
  refine lv_bipush (v := 100) hx hb dX_rateOf_1 (by decide) ?_
  refine lv_iload_n hx hb dX_rateOf_3 rfl (lv_at hl 1 rfl) ?_
  refine lv_isub hx hb dX_rateOf_4 ?_
  refine lv_i2l hx hb dX_rateOf_5 rfl ?_
  refine lv_lmul hx hb dX_rateOf_6 ?_
  exact W.lret (v := price * ((100 - haircut).toInt64)) hx hb hr (fun t ht hW => ⟨_, rfl, by rw [f_X_rateOf], ht⟩) (fun q h => by cases h) dX_rateOf_7

theorem dX_worth_0 : decode prog_1_method_35_code 0 = .ok (.lload_n 2, 1) := by decide +kernel
theorem dX_worth_1 : decode prog_1_method_35_code 1 = .ok (.ldc2_w 210, 3) := by decide +kernel
theorem dX_worth_4 : decode prog_1_method_35_code 4 = .ok (.ldiv, 1) := by decide +kernel
theorem dX_worth_5 : decode prog_1_method_35_code 5 = .ok (.lstore 4, 2) := by decide +kernel
theorem dX_worth_7 : decode prog_1_method_35_code 7 = .ok (.lload_n 2, 1) := by decide +kernel
theorem dX_worth_8 : decode prog_1_method_35_code 8 = .ok (.ldc2_w 210, 3) := by decide +kernel
theorem dX_worth_11 : decode prog_1_method_35_code 11 = .ok (.lrem, 1) := by decide +kernel
theorem dX_worth_12 : decode prog_1_method_35_code 12 = .ok (.lstore 6, 2) := by decide +kernel
theorem dX_worth_14 : decode prog_1_method_35_code 14 = .ok (.lload 4, 2) := by decide +kernel
theorem dX_worth_16 : decode prog_1_method_35_code 16 = .ok (.lconst 0, 1) := by decide +kernel
theorem dX_worth_17 : decode prog_1_method_35_code 17 = .ok (.lcmp, 1) := by decide +kernel
theorem dX_worth_18 : decode prog_1_method_35_code 18 = .ok (.ifCond .le 18, 3) := by decide +kernel
theorem dX_worth_21 : decode prog_1_method_35_code 21 = .ok (.lload_n 0, 1) := by decide +kernel
theorem dX_worth_22 : decode prog_1_method_35_code 22 = .ok (.ldc2_w 212, 3) := by decide +kernel
theorem dX_worth_25 : decode prog_1_method_35_code 25 = .ok (.lload 4, 2) := by decide +kernel
theorem dX_worth_27 : decode prog_1_method_35_code 27 = .ok (.ldiv, 1) := by decide +kernel
theorem dX_worth_28 : decode prog_1_method_35_code 28 = .ok (.lcmp, 1) := by decide +kernel
theorem dX_worth_29 : decode prog_1_method_35_code 29 = .ok (.ifCond .le 7, 3) := by decide +kernel
theorem dX_worth_32 : decode prog_1_method_35_code 32 = .ok (.ldc2_w 203, 3) := by decide +kernel
theorem dX_worth_35 : decode prog_1_method_35_code 35 = .ok (.lreturn, 1) := by decide +kernel
theorem dX_worth_36 : decode prog_1_method_35_code 36 = .ok (.lload_n 0, 1) := by decide +kernel
theorem dX_worth_37 : decode prog_1_method_35_code 37 = .ok (.lload 4, 2) := by decide +kernel
theorem dX_worth_39 : decode prog_1_method_35_code 39 = .ok (.lmul, 1) := by decide +kernel
theorem dX_worth_40 : decode prog_1_method_35_code 40 = .ok (.lload_n 0, 1) := by decide +kernel
theorem dX_worth_41 : decode prog_1_method_35_code 41 = .ok (.ldc2_w 210, 3) := by decide +kernel
theorem dX_worth_44 : decode prog_1_method_35_code 44 = .ok (.ldiv, 1) := by decide +kernel
theorem dX_worth_45 : decode prog_1_method_35_code 45 = .ok (.lload 6, 2) := by decide +kernel
theorem dX_worth_47 : decode prog_1_method_35_code 47 = .ok (.lmul, 1) := by decide +kernel
theorem dX_worth_48 : decode prog_1_method_35_code 48 = .ok (.ladd, 1) := by decide +kernel
theorem dX_worth_49 : decode prog_1_method_35_code 49 = .ok (.lload_n 0, 1) := by decide +kernel
theorem dX_worth_50 : decode prog_1_method_35_code 50 = .ok (.ldc2_w 210, 3) := by decide +kernel
theorem dX_worth_53 : decode prog_1_method_35_code 53 = .ok (.lrem, 1) := by decide +kernel
theorem dX_worth_54 : decode prog_1_method_35_code 54 = .ok (.lload 6, 2) := by decide +kernel
theorem dX_worth_56 : decode prog_1_method_35_code 56 = .ok (.lmul, 1) := by decide +kernel
theorem dX_worth_57 : decode prog_1_method_35_code 57 = .ok (.ldc2_w 210, 3) := by decide +kernel
theorem dX_worth_60 : decode prog_1_method_35_code 60 = .ok (.ldiv, 1) := by decide +kernel
theorem dX_worth_61 : decode prog_1_method_35_code 61 = .ok (.ladd, 1) := by decide +kernel
theorem dX_worth_62 : decode prog_1_method_35_code 62 = .ok (.lstore 8, 2) := by decide +kernel
theorem dX_worth_64 : decode prog_1_method_35_code 64 = .ok (.lload 8, 2) := by decide +kernel
theorem dX_worth_66 : decode prog_1_method_35_code 66 = .ok (.ldc2_w 203, 3) := by decide +kernel
theorem dX_worth_69 : decode prog_1_method_35_code 69 = .ok (.invokestatic 205, 3) := by decide +kernel
theorem dX_worth_72 : decode prog_1_method_35_code 72 = .ok (.lreturn, 1) := by decide +kernel
def f_X_worth (pledged : Int64) (rate : Int64) : Int64 := if 0 < (rate / 100) then (if (4000000000000000000 / (rate / 100)) < pledged then 4000000000000000001 else (if 4000000000000000001 < (((pledged * (rate / 100)) + ((pledged / 100) * (rate - rate / 100 * 100))) + (((pledged - pledged / 100 * 100) * (rate - rate / 100 * 100)) / 100)) then 4000000000000000001 else ((pledged * (rate / 100)) + ((pledged / 100) * (rate - rate / 100 * 100))) + (((pledged - pledged / 100 * 100) * (rate - rate / 100 * 100)) / 100))) else (if 4000000000000000001 < (((pledged * (rate / 100)) + ((pledged / 100) * (rate - rate / 100 * 100))) + (((pledged - pledged / 100 * 100) * (rate - rate / 100 * 100)) / 100)) then 4000000000000000001 else ((pledged * (rate / 100)) + ((pledged / 100) * (rate - rate / 100 * 100))) + (((pledged - pledged / 100 * 100) * (rate - rate / 100 * 100)) / 100))
set_option maxHeartbeats 4000000 in
set_option maxRecDepth 100000 in
theorem c_X_worth (l : Launch) (D : va_G) (cI cL cQ : ClassId) (d : Nat → Nat) (κ : Nat → Option va_E) (sz : Nat) (pledged : Int64) (rate : Int64)  : Met l yX_worth wX_worth { frames := 1, cells := 0, slots := 0, locals := 23 } (va_Pc [.long (pledged), .long (rate)] (kC D vCl (kT cI cL cQ) d κ sz)) (vp_Sl (fun r => r = f_X_worth pledged rate)) 0 0 (fun _ => False) := by
  refine kMet (by decide) (Nat.le_of_ble_eq_true rfl) ?_
  intro p0 e0 s0 m0 below0 meth0 c0 hx hb hr hml hown hlocks hin hts hsz hP hK ls hl
  have hl : lv_has ls 10 [(0, .long (pledged)), (2, .long (rate))] := hl
  refine lv_lload_n hx hb dX_worth_0 rfl (lv_at hl 1 rfl) ?_
  refine lv_ldc2 (v := 100) hx hb hown (hts _ tw_194) dX_worth_1 ?_
  refine lv_ldiv hx hb dX_worth_4 (by decide) ?_
  refine lv_lstore (lv' := [(4, .long (rate / 100)), (0, .long (pledged)), (2, .long (rate))]) hx hb dX_worth_5 hl (by decide) rfl (fun ls hl => ?_)
  refine lv_lload_n hx hb dX_worth_7 rfl (lv_at hl 2 rfl) ?_
  refine lv_ldc2 (v := 100) hx hb hown (hts _ tw_194) dX_worth_8 ?_
  refine lv_lrem hx hb dX_worth_11 (by decide) ?_
  refine lv_lstore (lv' := [(6, .long (rate - rate / 100 * 100)), (4, .long (rate / 100)), (0, .long (pledged)), (2, .long (rate))]) hx hb dX_worth_12 hl (by decide) rfl (fun ls hl => ?_)
  refine lv_lload hx hb dX_worth_14 (lv_at hl 1 rfl) ?_
  refine lv_lconst (v := 0) hx hb dX_worth_16 (by decide) ?_
  refine kl_le (tgt := 36) hx hb dX_worth_17 dX_worth_18 (by decide) (fun c_17 => ?_) (fun c_17 => ?_)
  · refine lv_lload_n hx hb dX_worth_36 rfl (lv_at hl 2 rfl) ?_
    refine lv_lload hx hb dX_worth_37 (lv_at hl 1 rfl) ?_
    refine lv_lmul hx hb dX_worth_39 ?_
    refine lv_lload_n hx hb dX_worth_40 rfl (lv_at hl 2 rfl) ?_
    refine lv_ldc2 (v := 100) hx hb hown (hts _ tw_194) dX_worth_41 ?_
    refine lv_ldiv hx hb dX_worth_44 (by decide) ?_
    refine lv_lload hx hb dX_worth_45 (lv_at hl 0 rfl) ?_
    refine lv_lmul hx hb dX_worth_47 ?_
    refine lv_ladd hx hb dX_worth_48 ?_
    refine lv_lload_n hx hb dX_worth_49 rfl (lv_at hl 2 rfl) ?_
    refine lv_ldc2 (v := 100) hx hb hown (hts _ tw_194) dX_worth_50 ?_
    refine lv_lrem hx hb dX_worth_53 (by decide) ?_
    refine lv_lload hx hb dX_worth_54 (lv_at hl 0 rfl) ?_
    refine lv_lmul hx hb dX_worth_56 ?_
    refine lv_ldc2 (v := 100) hx hb hown (hts _ tw_194) dX_worth_57 ?_
    refine lv_ldiv hx hb dX_worth_60 (by decide) ?_
    refine lv_ladd hx hb dX_worth_61 ?_
    refine lv_lstore (lv' := [(8, .long (((pledged * (rate / 100)) + ((pledged / 100) * (rate - rate / 100 * 100))) + (((pledged - pledged / 100 * 100) * (rate - rate / 100 * 100)) / 100))), (6, .long (rate - rate / 100 * 100)), (4, .long (rate / 100)), (0, .long (pledged)), (2, .long (rate))]) hx hb dX_worth_62 hl (by decide) rfl (fun ls hl => ?_)
    refine lv_lload hx hb dX_worth_64 (lv_at hl 0 rfl) ?_
    refine lv_ldc2 (v := 4000000000000000001) hx hb hown (hts _ tw_196) dX_worth_66 ?_
    refine va_mmin_long hx hb (hml.trans hl.1.symm) hown (hts _ tw_197) (hts _ tw_198) (hts _ tw_43) (hts _ tw_199) (by decide) (by decide) (Nat.zero_le _) (Nat.zero_le _) dX_worth_69 ?_
    exact W.lret (v := if 4000000000000000001 < (((pledged * (rate / 100)) + ((pledged / 100) * (rate - rate / 100 * 100))) + (((pledged - pledged / 100 * 100) * (rate - rate / 100 * 100)) / 100)) then 4000000000000000001 else ((pledged * (rate / 100)) + ((pledged / 100) * (rate - rate / 100 * 100))) + (((pledged - pledged / 100 * 100) * (rate - rate / 100 * 100)) / 100)) hx hb hr (fun t ht hW => ⟨_, rfl, by rw [f_X_worth, if_neg c_17], ht⟩) (fun q h => by cases h) dX_worth_72
  · refine lv_lload_n hx hb dX_worth_21 rfl (lv_at hl 2 rfl) ?_
    refine lv_ldc2 (v := 4000000000000000000) hx hb hown (hts _ tw_195) dX_worth_22 ?_
    refine lv_lload hx hb dX_worth_25 (lv_at hl 1 rfl) ?_
    refine lv_ldiv hx hb dX_worth_27 (fun q => absurd c_17 (by rw [q]; decide)) ?_
    refine kl_le (tgt := 36) hx hb dX_worth_28 dX_worth_29 (by decide) (fun c_28 => ?_) (fun c_28 => ?_)
    · refine lv_lload_n hx hb dX_worth_36 rfl (lv_at hl 2 rfl) ?_
      refine lv_lload hx hb dX_worth_37 (lv_at hl 1 rfl) ?_
      refine lv_lmul hx hb dX_worth_39 ?_
      refine lv_lload_n hx hb dX_worth_40 rfl (lv_at hl 2 rfl) ?_
      refine lv_ldc2 (v := 100) hx hb hown (hts _ tw_194) dX_worth_41 ?_
      refine lv_ldiv hx hb dX_worth_44 (by decide) ?_
      refine lv_lload hx hb dX_worth_45 (lv_at hl 0 rfl) ?_
      refine lv_lmul hx hb dX_worth_47 ?_
      refine lv_ladd hx hb dX_worth_48 ?_
      refine lv_lload_n hx hb dX_worth_49 rfl (lv_at hl 2 rfl) ?_
      refine lv_ldc2 (v := 100) hx hb hown (hts _ tw_194) dX_worth_50 ?_
      refine lv_lrem hx hb dX_worth_53 (by decide) ?_
      refine lv_lload hx hb dX_worth_54 (lv_at hl 0 rfl) ?_
      refine lv_lmul hx hb dX_worth_56 ?_
      refine lv_ldc2 (v := 100) hx hb hown (hts _ tw_194) dX_worth_57 ?_
      refine lv_ldiv hx hb dX_worth_60 (by decide) ?_
      refine lv_ladd hx hb dX_worth_61 ?_
      refine lv_lstore (lv' := [(8, .long (((pledged * (rate / 100)) + ((pledged / 100) * (rate - rate / 100 * 100))) + (((pledged - pledged / 100 * 100) * (rate - rate / 100 * 100)) / 100))), (6, .long (rate - rate / 100 * 100)), (4, .long (rate / 100)), (0, .long (pledged)), (2, .long (rate))]) hx hb dX_worth_62 hl (by decide) rfl (fun ls hl => ?_)
      refine lv_lload hx hb dX_worth_64 (lv_at hl 0 rfl) ?_
      refine lv_ldc2 (v := 4000000000000000001) hx hb hown (hts _ tw_196) dX_worth_66 ?_
      refine va_mmin_long hx hb (hml.trans hl.1.symm) hown (hts _ tw_197) (hts _ tw_198) (hts _ tw_43) (hts _ tw_199) (by decide) (by decide) (Nat.zero_le _) (Nat.zero_le _) dX_worth_69 ?_
      exact W.lret (v := if 4000000000000000001 < (((pledged * (rate / 100)) + ((pledged / 100) * (rate - rate / 100 * 100))) + (((pledged - pledged / 100 * 100) * (rate - rate / 100 * 100)) / 100)) then 4000000000000000001 else ((pledged * (rate / 100)) + ((pledged / 100) * (rate - rate / 100 * 100))) + (((pledged - pledged / 100 * 100) * (rate - rate / 100 * 100)) / 100)) hx hb hr (fun t ht hW => ⟨_, rfl, by rw [f_X_worth, if_pos c_17, if_neg c_28], ht⟩) (fun q h => by cases h) dX_worth_72
    · refine lv_ldc2 (v := 4000000000000000001) hx hb hown (hts _ tw_196) dX_worth_32 ?_
      exact W.lret (v := 4000000000000000001) hx hb hr (fun t ht hW => ⟨_, rfl, by rw [f_X_worth, if_pos c_17, if_pos c_28], ht⟩) (fun q h => by cases h) dX_worth_35

theorem dX_isClient_0 : decode prog_1_method_21_code 0 = .ok (.iload_n 1, 1) := by decide +kernel
theorem dX_isClient_1 : decode prog_1_method_21_code 1 = .ok (.ifCond .le 15, 3) := by decide +kernel
theorem dX_isClient_4 : decode prog_1_method_21_code 4 = .ok (.iload_n 1, 1) := by decide +kernel
theorem dX_isClient_5 : decode prog_1_method_21_code 5 = .ok (.aload_n 0, 1) := by decide +kernel
theorem dX_isClient_6 : decode prog_1_method_21_code 6 = .ok (.getfield 9, 3) := by decide +kernel
theorem dX_isClient_9 : decode prog_1_method_21_code 9 = .ok (.if_icmp .ge 7, 3) := by decide +kernel
theorem dX_isClient_12 : decode prog_1_method_21_code 12 = .ok (.iconst 1, 1) := by decide +kernel
theorem dX_isClient_13 : decode prog_1_method_21_code 13 = .ok (.goto 4, 3) := by decide +kernel
theorem dX_isClient_16 : decode prog_1_method_21_code 16 = .ok (.iconst 0, 1) := by decide +kernel
theorem dX_isClient_17 : decode prog_1_method_21_code 17 = .ok (.ireturn, 1) := by decide +kernel
def f_X_isClient (x : XS) (p : Int32) : Int32 := if p ≤ 0 then 0 else (if (nI (x.1 0)) ≤ p then 0 else 1)
theorem b_X_isClient (x : XS) (p : Int32) : f_X_isClient x p = 0 ∨ f_X_isClient x p = 1 := by
  unfold f_X_isClient
  repeat' (first | split | exact Or.inl rfl | exact Or.inr rfl)
set_option maxHeartbeats 4000000 in
set_option maxRecDepth 100000 in
theorem c_X_isClient (l : Launch) (D : va_G) (cI cL cQ : ClassId) (d : Nat → Nat) (κ : Nat → Option va_E) (x : XS) (hX : IsX cI cL cQ d κ x) (hB : XB x) (sz : Nat) (p : Int32)  : Met l yX_isClient wX_isClient { frames := 0, cells := 0, slots := 0, locals := 0 } (va_Pc [.ref (d 18), .int (p)] (kC D vCl (kT cI cL cQ) d κ sz)) (vp_Si (fun r => r = f_X_isClient x p)) 0 0 (fun _ => False) := by
  refine kMet (by decide) (Nat.le_of_ble_eq_true rfl) ?_
  intro p0 e0 s0 m0 below0 meth0 c0 hx hb hr hml hown hlocks hin hts hsz hP hK ls hl
  have hl : lv_has ls 2 [(0, .ref (d 18)), (1, .int (p))] := hl
  have hB9 := hB
  obtain ⟨hb0, hb1, hb2, hb3, hb4, hb5, hb6, hb7, hb8⟩ := hB9
  refine lv_iload_n hx hb dX_isClient_0 rfl (lv_at hl 1 rfl) ?_
  refine lv_if_le (tgt := 16) hx hb dX_isClient_1 (by decide) (fun c_1 => ?_) (fun c_1 => ?_)
  · refine lv_iconst (v := 0) hx hb dX_isClient_16 (by decide) ?_
    exact W.zret (v := 0) hx hb hr k_nar0 (fun t ht hW => ⟨_, rfl, by rw [f_X_isClient, if_pos c_1], ht⟩) (fun q h => by cases h) dX_isClient_17
  · refine lv_iload_n hx hb dX_isClient_4 rfl (lv_at hl 1 rfl) ?_
    refine lv_aload_n hx hb dX_isClient_5 rfl (lv_at hl 0 rfl) ?_
    refine ka_get (ci := 3) (C := RX) (T := TX) (N := 10) hx hb hts inX hown hK hP (q := 18) hX.1 rfl 0 (by decide) (hts _ tw_99) (fun _ h9 => h9) rfl dX_isClient_6 ?_
    refine lv_icmp_ge (tgt := 16) hx hb dX_isClient_9 (by decide) (fun c_9 => ?_) (fun c_9 => ?_)
    · refine lv_iconst (v := 0) hx hb dX_isClient_16 (by decide) ?_
      exact W.zret (v := 0) hx hb hr k_nar0 (fun t ht hW => ⟨_, rfl, by rw [f_X_isClient, if_neg c_1, if_pos c_9], ht⟩) (fun q h => by cases h) dX_isClient_17
    · refine lv_iconst (v := 1) hx hb dX_isClient_12 (by decide) ?_
      refine lv_goto (tgt := 17) hx hb dX_isClient_13 (by decide) ?_
      exact W.zret (v := 1) hx hb hr k_nar1 (fun t ht hW => ⟨_, rfl, by rw [f_X_isClient, if_neg c_1, if_neg c_9], ht⟩) (fun q h => by cases h) dX_isClient_17

theorem dX_areTwoClients_0 : decode prog_1_method_22_code 0 = .ok (.aload_n 0, 1) := by decide +kernel
theorem dX_areTwoClients_1 : decode prog_1_method_22_code 1 = .ok (.iload_n 1, 1) := by decide +kernel
theorem dX_areTwoClients_2 : decode prog_1_method_22_code 2 = .ok (.invokevirtual 82, 3) := by decide +kernel
theorem dX_areTwoClients_5 : decode prog_1_method_22_code 5 = .ok (.ifCond .eq 20, 3) := by decide +kernel
theorem dX_areTwoClients_8 : decode prog_1_method_22_code 8 = .ok (.aload_n 0, 1) := by decide +kernel
theorem dX_areTwoClients_9 : decode prog_1_method_22_code 9 = .ok (.iload_n 2, 1) := by decide +kernel
theorem dX_areTwoClients_10 : decode prog_1_method_22_code 10 = .ok (.invokevirtual 82, 3) := by decide +kernel
theorem dX_areTwoClients_13 : decode prog_1_method_22_code 13 = .ok (.ifCond .eq 12, 3) := by decide +kernel
theorem dX_areTwoClients_16 : decode prog_1_method_22_code 16 = .ok (.iload_n 1, 1) := by decide +kernel
theorem dX_areTwoClients_17 : decode prog_1_method_22_code 17 = .ok (.iload_n 2, 1) := by decide +kernel
theorem dX_areTwoClients_18 : decode prog_1_method_22_code 18 = .ok (.if_icmp .eq 7, 3) := by decide +kernel
theorem dX_areTwoClients_21 : decode prog_1_method_22_code 21 = .ok (.iconst 1, 1) := by decide +kernel
theorem dX_areTwoClients_22 : decode prog_1_method_22_code 22 = .ok (.goto 4, 3) := by decide +kernel
theorem dX_areTwoClients_25 : decode prog_1_method_22_code 25 = .ok (.iconst 0, 1) := by decide +kernel
theorem dX_areTwoClients_26 : decode prog_1_method_22_code 26 = .ok (.ireturn, 1) := by decide +kernel
def f_X_areTwoClients (x : XS) (p : Int32) (q : Int32) : Int32 := if (f_X_isClient x p) = 0 then 0 else (if (f_X_isClient x q) = 0 then 0 else (if p = q then 0 else 1))
theorem b_X_areTwoClients (x : XS) (p : Int32) (q : Int32) : f_X_areTwoClients x p q = 0 ∨ f_X_areTwoClients x p q = 1 := by
  unfold f_X_areTwoClients
  repeat' (first | split | exact Or.inl rfl | exact Or.inr rfl)
set_option maxHeartbeats 4000000 in
set_option maxRecDepth 100000 in
theorem c_X_areTwoClients (l : Launch) (D : va_G) (cI cL cQ : ClassId) (d : Nat → Nat) (κ : Nat → Option va_E) (x : XS) (hX : IsX cI cL cQ d κ x) (hB : XB x) (sz : Nat) (p : Int32) (q : Int32)  : Met l yX_areTwoClients wX_areTwoClients { frames := 1, cells := 0, slots := 0, locals := 21 } (va_Pc [.ref (d 18), .int (p), .int (q)] (kC D vCl (kT cI cL cQ) d κ sz)) (vp_Si (fun r => r = f_X_areTwoClients x p q)) 0 0 (fun _ => False) := by
  refine kMet (by decide) (Nat.le_of_ble_eq_true rfl) ?_
  intro p0 e0 s0 m0 below0 meth0 c0 hx hb hr hml hown hlocks hin hts hsz hP hK ls hl
  have hl : lv_has ls 3 [(0, .ref (d 18)), (1, .int (p)), (2, .int (q))] := hl
  have hB9 := hB
  obtain ⟨hb0, hb1, hb2, hb3, hb4, hb5, hb6, hb7, hb8⟩ := hB9
  refine lv_aload_n hx hb dX_areTwoClients_0 rfl (lv_at hl 0 rfl) ?_
  refine lv_iload_n hx hb dX_areTwoClients_1 rfl (lv_at hl 1 rfl) ?_
  refine vp_callSi (W.runV (C := RX) (As := [.int (p)]) (rest := []) ⟨hx, hb, hml, hown, hts⟩ (c_X_isClient l D cI cL cQ d κ x hX hB _ p) (cwV 1 hts (k_gV tw_212 tw_214 tw_7 tw_38 tw_215) rfl rfl rfl (by decide +kernel) ⟨Nat.le_of_ble_eq_true rfl, Nat.le_of_ble_eq_true rfl⟩) (kPreV hP hK (q := 18) hX.1 rfl) rfl rfl hl.1 rfl (lv_room (Nat.le_of_ble_eq_true rfl)) dX_areTwoClients_2 ⟨Nat.le_of_ble_eq_true rfl, Nat.le_of_ble_eq_true rfl⟩) (fun r_2 e_2 => ?_)
  subst e_2
  refine lv_if_eq (tgt := 25) hx hb dX_areTwoClients_5 (by decide) (fun c_5 => ?_) (fun c_5 => ?_)
  · refine lv_iconst (v := 0) hx hb dX_areTwoClients_25 (by decide) ?_
    exact W.zret (v := 0) hx hb hr k_nar0 (fun t ht hW => ⟨_, rfl, by rw [f_X_areTwoClients, if_pos c_5], ht⟩) (fun q h => by cases h) dX_areTwoClients_26
  · refine lv_aload_n hx hb dX_areTwoClients_8 rfl (lv_at hl 0 rfl) ?_
    refine lv_iload_n hx hb dX_areTwoClients_9 rfl (lv_at hl 2 rfl) ?_
    refine vp_callSi (W.runV (C := RX) (As := [.int (q)]) (rest := []) ⟨hx, hb, hml, hown, hts⟩ (c_X_isClient l D cI cL cQ d κ x hX hB _ q) (cwV 1 hts (k_gV tw_212 tw_214 tw_7 tw_38 tw_215) rfl rfl rfl (by decide +kernel) ⟨Nat.le_of_ble_eq_true rfl, Nat.le_of_ble_eq_true rfl⟩) (kPreV hP hK (q := 18) hX.1 rfl) rfl rfl hl.1 rfl (lv_room (Nat.le_of_ble_eq_true rfl)) dX_areTwoClients_10 ⟨Nat.le_of_ble_eq_true rfl, Nat.le_of_ble_eq_true rfl⟩) (fun r_10 e_10 => ?_)
    subst e_10
    refine lv_if_eq (tgt := 25) hx hb dX_areTwoClients_13 (by decide) (fun c_13 => ?_) (fun c_13 => ?_)
    · refine lv_iconst (v := 0) hx hb dX_areTwoClients_25 (by decide) ?_
      exact W.zret (v := 0) hx hb hr k_nar0 (fun t ht hW => ⟨_, rfl, by rw [f_X_areTwoClients, if_neg c_5, if_pos c_13], ht⟩) (fun q h => by cases h) dX_areTwoClients_26
    · refine lv_iload_n hx hb dX_areTwoClients_16 rfl (lv_at hl 1 rfl) ?_
      refine lv_iload_n hx hb dX_areTwoClients_17 rfl (lv_at hl 2 rfl) ?_
      refine lv_icmp_eq (tgt := 25) hx hb dX_areTwoClients_18 (by decide) (fun c_18 => ?_) (fun c_18 => ?_)
      · refine lv_iconst (v := 0) hx hb dX_areTwoClients_25 (by decide) ?_
        exact W.zret (v := 0) hx hb hr k_nar0 (fun t ht hW => ⟨_, rfl, by rw [f_X_areTwoClients, if_neg c_5, if_neg c_13, if_pos c_18], ht⟩) (fun q h => by cases h) dX_areTwoClients_26
      · refine lv_iconst (v := 1) hx hb dX_areTwoClients_21 (by decide) ?_
        refine lv_goto (tgt := 26) hx hb dX_areTwoClients_22 (by decide) ?_
        exact W.zret (v := 1) hx hb hr k_nar1 (fun t ht hW => ⟨_, rfl, by rw [f_X_areTwoClients, if_neg c_5, if_neg c_13, if_neg c_18], ht⟩) (fun q h => by cases h) dX_areTwoClients_26

theorem dX_isPosition_0 : decode prog_1_method_25_code 0 = .ok (.iload_n 1, 1) := by decide +kernel
theorem dX_isPosition_1 : decode prog_1_method_25_code 1 = .ok (.ifCond .lt 15, 3) := by decide +kernel
theorem dX_isPosition_4 : decode prog_1_method_25_code 4 = .ok (.iload_n 1, 1) := by decide +kernel
theorem dX_isPosition_5 : decode prog_1_method_25_code 5 = .ok (.aload_n 0, 1) := by decide +kernel
theorem dX_isPosition_6 : decode prog_1_method_25_code 6 = .ok (.getfield 19, 3) := by decide +kernel
theorem dX_isPosition_9 : decode prog_1_method_25_code 9 = .ok (.if_icmp .ge 7, 3) := by decide +kernel
theorem dX_isPosition_12 : decode prog_1_method_25_code 12 = .ok (.iconst 1, 1) := by decide +kernel
theorem dX_isPosition_13 : decode prog_1_method_25_code 13 = .ok (.goto 4, 3) := by decide +kernel
theorem dX_isPosition_16 : decode prog_1_method_25_code 16 = .ok (.iconst 0, 1) := by decide +kernel
theorem dX_isPosition_17 : decode prog_1_method_25_code 17 = .ok (.ireturn, 1) := by decide +kernel
def f_X_isPosition (x : XS) (pos : Int32) : Int32 := if pos < 0 then 0 else (if (nI (x.1 0 * x.1 1)) ≤ pos then 0 else 1)
theorem b_X_isPosition (x : XS) (pos : Int32) : f_X_isPosition x pos = 0 ∨ f_X_isPosition x pos = 1 := by
  unfold f_X_isPosition
  repeat' (first | split | exact Or.inl rfl | exact Or.inr rfl)
set_option maxHeartbeats 4000000 in
set_option maxRecDepth 100000 in
theorem c_X_isPosition (l : Launch) (D : va_G) (cI cL cQ : ClassId) (d : Nat → Nat) (κ : Nat → Option va_E) (x : XS) (hX : IsX cI cL cQ d κ x) (hB : XB x) (sz : Nat) (pos : Int32)  : Met l yX_isPosition wX_isPosition { frames := 0, cells := 0, slots := 0, locals := 0 } (va_Pc [.ref (d 18), .int (pos)] (kC D vCl (kT cI cL cQ) d κ sz)) (vp_Si (fun r => r = f_X_isPosition x pos)) 0 0 (fun _ => False) := by
  refine kMet (by decide) (Nat.le_of_ble_eq_true rfl) ?_
  intro p0 e0 s0 m0 below0 meth0 c0 hx hb hr hml hown hlocks hin hts hsz hP hK ls hl
  have hl : lv_has ls 2 [(0, .ref (d 18)), (1, .int (pos))] := hl
  have hB9 := hB
  obtain ⟨hb0, hb1, hb2, hb3, hb4, hb5, hb6, hb7, hb8⟩ := hB9
  refine lv_iload_n hx hb dX_isPosition_0 rfl (lv_at hl 1 rfl) ?_
  refine lv_if_lt (tgt := 16) hx hb dX_isPosition_1 (by decide) (fun c_1 => ?_) (fun c_1 => ?_)
  · refine lv_iconst (v := 0) hx hb dX_isPosition_16 (by decide) ?_
    exact W.zret (v := 0) hx hb hr k_nar0 (fun t ht hW => ⟨_, rfl, by rw [f_X_isPosition, if_pos c_1], ht⟩) (fun q h => by cases h) dX_isPosition_17
  · refine lv_iload_n hx hb dX_isPosition_4 rfl (lv_at hl 1 rfl) ?_
    refine lv_aload_n hx hb dX_isPosition_5 rfl (lv_at hl 0 rfl) ?_
    refine ka_get (ci := 3) (C := RX) (T := TX) (N := 10) hx hb hts inX hown hK hP (q := 18) hX.1 rfl 1 (by decide) (hts _ tw_100) (fun _ h9 => h9) rfl dX_isPosition_6 ?_
    refine lv_icmp_ge (tgt := 16) hx hb dX_isPosition_9 (by decide) (fun c_9 => ?_) (fun c_9 => ?_)
    · refine lv_iconst (v := 0) hx hb dX_isPosition_16 (by decide) ?_
      exact W.zret (v := 0) hx hb hr k_nar0 (fun t ht hW => ⟨_, rfl, by rw [f_X_isPosition, if_neg c_1, if_pos c_9], ht⟩) (fun q h => by cases h) dX_isPosition_17
    · refine lv_iconst (v := 1) hx hb dX_isPosition_12 (by decide) ?_
      refine lv_goto (tgt := 17) hx hb dX_isPosition_13 (by decide) ?_
      exact W.zret (v := 1) hx hb hr k_nar1 (fun t ht hW => ⟨_, rfl, by rw [f_X_isPosition, if_neg c_1, if_neg c_9], ht⟩) (fun q h => by cases h) dX_isPosition_17

theorem dX_ownerOf_0 : decode prog_1_method_26_code 0 = .ok (.iload_n 1, 1) := by decide +kernel
theorem dX_ownerOf_1 : decode prog_1_method_26_code 1 = .ok (.aload_n 0, 1) := by decide +kernel
theorem dX_ownerOf_2 : decode prog_1_method_26_code 2 = .ok (.getfield 15, 3) := by decide +kernel
theorem dX_ownerOf_5 : decode prog_1_method_26_code 5 = .ok (.arraylength, 1) := by decide +kernel
theorem dX_ownerOf_6 : decode prog_1_method_26_code 6 = .ok (.idiv, 1) := by decide +kernel
theorem dX_ownerOf_7 : decode prog_1_method_26_code 7 = .ok (.ireturn, 1) := by decide +kernel
def f_X_ownerOf (x : XS) (pos : Int32) : Int32 := pos / (nI (x.1 1))
set_option maxHeartbeats 4000000 in
set_option maxRecDepth 100000 in
theorem c_X_ownerOf (l : Launch) (D : va_G) (cI cL cQ : ClassId) (d : Nat → Nat) (κ : Nat → Option va_E) (x : XS) (hX : IsX cI cL cQ d κ x) (hB : XB x) (sz : Nat) (pos : Int32)  : Met l yX_ownerOf wX_ownerOf { frames := 0, cells := 0, slots := 0, locals := 0 } (va_Pc [.ref (d 18), .int (pos)] (kC D vCl (kT cI cL cQ) d κ sz)) (vp_Si (fun r => r = f_X_ownerOf x pos)) 0 0 (fun _ => False) := by
  refine kMet (by decide) (Nat.le_of_ble_eq_true rfl) ?_
  intro p0 e0 s0 m0 below0 meth0 c0 hx hb hr hml hown hlocks hin hts hsz hP hK ls hl
  have hl : lv_has ls 2 [(0, .ref (d 18)), (1, .int (pos))] := hl
  have hB9 := hB
  obtain ⟨hb0, hb1, hb2, hb3, hb4, hb5, hb6, hb7, hb8⟩ := hB9
  refine lv_iload_n hx hb dX_ownerOf_0 rfl (lv_at hl 1 rfl) ?_
  refine lv_aload_n hx hb dX_ownerOf_1 rfl (lv_at hl 0 rfl) ?_
  refine ka_get (ci := 3) (C := RX) (T := TX) (N := 10) hx hb hts inX hown hK hP (q := 18) hX.1 rfl 2 (by decide) (hts _ tw_101) (fun _ h9 => h9) rfl dX_ownerOf_2 ?_
  refine ka_alen hx hb hK hP 2 (q := 19) hX.2.1 rfl (v := nI (x.1 1)) rfl dX_ownerOf_5 ?_
  refine lv_idiv hx hb dX_ownerOf_6 (nI_ne0 (by omega) (by omega)) ?_
  exact W.iret (v := pos / (nI (x.1 1))) hx hb hr (fun t ht hW => ⟨_, rfl, by rw [f_X_ownerOf], ht⟩) (fun q h => by cases h) dX_ownerOf_7

theorem dX_assetOf_0 : decode prog_1_method_27_code 0 = .ok (.iload_n 1, 1) := by decide +kernel
theorem dX_assetOf_1 : decode prog_1_method_27_code 1 = .ok (.aload_n 0, 1) := by decide +kernel
theorem dX_assetOf_2 : decode prog_1_method_27_code 2 = .ok (.getfield 15, 3) := by decide +kernel
theorem dX_assetOf_5 : decode prog_1_method_27_code 5 = .ok (.arraylength, 1) := by decide +kernel
theorem dX_assetOf_6 : decode prog_1_method_27_code 6 = .ok (.irem, 1) := by decide +kernel
theorem dX_assetOf_7 : decode prog_1_method_27_code 7 = .ok (.ireturn, 1) := by decide +kernel
def f_X_assetOf (x : XS) (pos : Int32) : Int32 := pos - pos / (nI (x.1 1)) * (nI (x.1 1))
set_option maxHeartbeats 4000000 in
set_option maxRecDepth 100000 in
theorem c_X_assetOf (l : Launch) (D : va_G) (cI cL cQ : ClassId) (d : Nat → Nat) (κ : Nat → Option va_E) (x : XS) (hX : IsX cI cL cQ d κ x) (hB : XB x) (sz : Nat) (pos : Int32)  : Met l yX_assetOf wX_assetOf { frames := 0, cells := 0, slots := 0, locals := 0 } (va_Pc [.ref (d 18), .int (pos)] (kC D vCl (kT cI cL cQ) d κ sz)) (vp_Si (fun r => r = f_X_assetOf x pos)) 0 0 (fun _ => False) := by
  refine kMet (by decide) (Nat.le_of_ble_eq_true rfl) ?_
  intro p0 e0 s0 m0 below0 meth0 c0 hx hb hr hml hown hlocks hin hts hsz hP hK ls hl
  have hl : lv_has ls 2 [(0, .ref (d 18)), (1, .int (pos))] := hl
  have hB9 := hB
  obtain ⟨hb0, hb1, hb2, hb3, hb4, hb5, hb6, hb7, hb8⟩ := hB9
  refine lv_iload_n hx hb dX_assetOf_0 rfl (lv_at hl 1 rfl) ?_
  refine lv_aload_n hx hb dX_assetOf_1 rfl (lv_at hl 0 rfl) ?_
  refine ka_get (ci := 3) (C := RX) (T := TX) (N := 10) hx hb hts inX hown hK hP (q := 18) hX.1 rfl 2 (by decide) (hts _ tw_101) (fun _ h9 => h9) rfl dX_assetOf_2 ?_
  refine ka_alen hx hb hK hP 2 (q := 19) hX.2.1 rfl (v := nI (x.1 1)) rfl dX_assetOf_5 ?_
  refine lv_irem hx hb dX_assetOf_6 (nI_ne0 (by omega) (by omega)) ?_
  exact W.iret (v := pos - pos / (nI (x.1 1)) * (nI (x.1 1))) hx hb hr (fun t ht hW => ⟨_, rfl, by rw [f_X_assetOf], ht⟩) (fun q h => by cases h) dX_assetOf_7

theorem dX_pairOf_0 : decode prog_1_method_28_code 0 = .ok (.iload_n 1, 1) := by decide +kernel
theorem dX_pairOf_1 : decode prog_1_method_28_code 1 = .ok (.aload_n 0, 1) := by decide +kernel
theorem dX_pairOf_2 : decode prog_1_method_28_code 2 = .ok (.getfield 9, 3) := by decide +kernel
theorem dX_pairOf_5 : decode prog_1_method_28_code 5 = .ok (.imul, 1) := by decide +kernel
theorem dX_pairOf_6 : decode prog_1_method_28_code 6 = .ok (.iload_n 2, 1) := by decide +kernel
theorem dX_pairOf_7 : decode prog_1_method_28_code 7 = .ok (.iadd, 1) := by decide +kernel
theorem dX_pairOf_8 : decode prog_1_method_28_code 8 = .ok (.ireturn, 1) := by decide +kernel
def f_X_pairOf (x : XS) (p : Int32) (q : Int32) : Int32 := (p * (nI (x.1 0))) + q
set_option maxHeartbeats 4000000 in
set_option maxRecDepth 100000 in
theorem c_X_pairOf (l : Launch) (D : va_G) (cI cL cQ : ClassId) (d : Nat → Nat) (κ : Nat → Option va_E) (x : XS) (hX : IsX cI cL cQ d κ x) (hB : XB x) (sz : Nat) (p : Int32) (q : Int32)  : Met l yX_pairOf wX_pairOf { frames := 0, cells := 0, slots := 0, locals := 0 } (va_Pc [.ref (d 18), .int (p), .int (q)] (kC D vCl (kT cI cL cQ) d κ sz)) (vp_Si (fun r => r = f_X_pairOf x p q)) 0 0 (fun _ => False) := by
  refine kMet (by decide) (Nat.le_of_ble_eq_true rfl) ?_
  intro p0 e0 s0 m0 below0 meth0 c0 hx hb hr hml hown hlocks hin hts hsz hP hK ls hl
  have hl : lv_has ls 3 [(0, .ref (d 18)), (1, .int (p)), (2, .int (q))] := hl
  have hB9 := hB
  obtain ⟨hb0, hb1, hb2, hb3, hb4, hb5, hb6, hb7, hb8⟩ := hB9
  refine lv_iload_n hx hb dX_pairOf_0 rfl (lv_at hl 1 rfl) ?_
  refine lv_aload_n hx hb dX_pairOf_1 rfl (lv_at hl 0 rfl) ?_
  refine ka_get (ci := 3) (C := RX) (T := TX) (N := 10) hx hb hts inX hown hK hP (q := 18) hX.1 rfl 0 (by decide) (hts _ tw_99) (fun _ h9 => h9) rfl dX_pairOf_2 ?_
  refine lv_imul hx hb dX_pairOf_5 ?_
  refine lv_iload_n hx hb dX_pairOf_6 rfl (lv_at hl 2 rfl) ?_
  refine lv_iadd hx hb dX_pairOf_7 ?_
  exact W.iret (v := (p * (nI (x.1 0))) + q) hx hb hr (fun t ht hW => ⟨_, rfl, by rw [f_X_pairOf], ht⟩) (fun q h => by cases h) dX_pairOf_8

theorem dX_assetAt_0 : decode prog_1_method_29_code 0 = .ok (.iload_n 1, 1) := by decide +kernel
theorem dX_assetAt_1 : decode prog_1_method_29_code 1 = .ok (.ifCond .lt 20, 3) := by decide +kernel
theorem dX_assetAt_4 : decode prog_1_method_29_code 4 = .ok (.iload_n 1, 1) := by decide +kernel
theorem dX_assetAt_5 : decode prog_1_method_29_code 5 = .ok (.aload_n 0, 1) := by decide +kernel
theorem dX_assetAt_6 : decode prog_1_method_29_code 6 = .ok (.getfield 22, 3) := by decide +kernel
theorem dX_assetAt_9 : decode prog_1_method_29_code 9 = .ok (.if_icmp .ge 12, 3) := by decide +kernel
theorem dX_assetAt_12 : decode prog_1_method_29_code 12 = .ok (.aload_n 0, 1) := by decide +kernel
theorem dX_assetAt_13 : decode prog_1_method_29_code 13 = .ok (.getfield 15, 3) := by decide +kernel
theorem dX_assetAt_16 : decode prog_1_method_29_code 16 = .ok (.iload_n 1, 1) := by decide +kernel
theorem dX_assetAt_17 : decode prog_1_method_29_code 17 = .ok (.aaload, 1) := by decide +kernel
theorem dX_assetAt_18 : decode prog_1_method_29_code 18 = .ok (.goto 4, 3) := by decide +kernel
theorem dX_assetAt_21 : decode prog_1_method_29_code 21 = .ok (.aconst_null, 1) := by decide +kernel
theorem dX_assetAt_22 : decode prog_1_method_29_code 22 = .ok (.areturn, 1) := by decide +kernel
set_option maxHeartbeats 4000000 in
set_option maxRecDepth 100000 in
theorem c_X_assetAt (l : Launch) (D : va_G) (cI cL cQ : ClassId) (d : Nat → Nat) (κ : Nat → Option va_E) (x : XS) (hX : IsX cI cL cQ d κ x) (hB : XB x) (sz : Nat) (a : Int32)  : Met l yX_assetAt wX_assetAt { frames := 0, cells := 0, slots := 0, locals := 0 } (va_Pc [.ref (d 18), .int (a)] (kC D vCl (kT cI cL cQ) d κ sz)) (va_Sq (fun r => r = if xIs x a then some (d (32 + 3 * (a).toNatClampNeg)) else none)) 0 0 (fun _ => False) := by
  refine kMet (by decide) (Nat.le_of_ble_eq_true rfl) ?_
  intro p0 e0 s0 m0 below0 meth0 c0 hx hb hr hml hown hlocks hin hts hsz hP hK ls hl
  have hl : lv_has ls 2 [(0, .ref (d 18)), (1, .int (a))] := hl
  have hB9 := hB
  obtain ⟨hb0, hb1, hb2, hb3, hb4, hb5, hb6, hb7, hb8⟩ := hB9
  refine lv_iload_n hx hb dX_assetAt_0 rfl (lv_at hl 1 rfl) ?_
  refine lv_if_lt (tgt := 21) hx hb dX_assetAt_1 (by decide) (fun c_1 => ?_) (fun c_1 => ?_)
  · refine lv_null hx hb dX_assetAt_21 ?_
    exact W.aret (v := va_rf (none)) hx hb hr (Or.inl ⟨_, rfl⟩) (va_rf_or _) (fun t ht hW => ⟨none, rfl, (if_neg (fun q => q.1 c_1)).symm, ht⟩) (fun q h => by cases h) dX_assetAt_22
  · refine lv_iload_n hx hb dX_assetAt_4 rfl (lv_at hl 1 rfl) ?_
    refine lv_aload_n hx hb dX_assetAt_5 rfl (lv_at hl 0 rfl) ?_
    refine ka_get (ci := 3) (C := RX) (T := TX) (N := 10) hx hb hts inX hown hK hP (q := 18) hX.1 rfl 3 (by decide) (hts _ tw_102) (fun _ h9 => h9) rfl dX_assetAt_6 ?_
    refine lv_icmp_ge (tgt := 21) hx hb dX_assetAt_9 (by decide) (fun c_9 => ?_) (fun c_9 => ?_)
    · refine lv_null hx hb dX_assetAt_21 ?_
      exact W.aret (v := va_rf (none)) hx hb hr (Or.inl ⟨_, rfl⟩) (va_rf_or _) (fun t ht hW => ⟨none, rfl, (if_neg (fun q => q.2 c_9)).symm, ht⟩) (fun q h => by cases h) dX_assetAt_22
    · refine lv_aload_n hx hb dX_assetAt_12 rfl (lv_at hl 0 rfl) ?_
      refine ka_get (ci := 3) (C := RX) (T := TX) (N := 10) hx hb hts inX hown hK hP (q := 18) hX.1 rfl 2 (by decide) (hts _ tw_101) (fun _ h9 => h9) rfl dX_assetAt_13 ?_
      refine lv_iload_n hx hb dX_assetAt_16 rfl (lv_at hl 1 rfl) ?_
      refine ka_aldq hx hb hK hP 2 (q := 19) hX.2.1 rfl (xIs_in hB ⟨c_1, c_9⟩).1 dX_assetAt_17 ?_
      refine lv_goto (tgt := 22) hx hb dX_assetAt_18 (by decide) ?_
      exact W.aret (v := va_rf ((xRef d (x.1 2)) (a).toNatClampNeg)) hx hb hr (Or.inl ⟨_, rfl⟩) (va_rf_or _) (fun t ht hW => ⟨(xRef d (x.1 2)) (a).toNatClampNeg, rfl, (by rw [if_pos ⟨c_1, c_9⟩]; exact if_pos (xIs_in hB ⟨c_1, c_9⟩).2), ht⟩) (fun q h => by cases h) dX_assetAt_22

theorem dX_securityAt_0 : decode prog_1_method_30_code 0 = .ok (.aload_n 0, 1) := by decide +kernel
theorem dX_securityAt_1 : decode prog_1_method_30_code 1 = .ok (.iload_n 1, 1) := by decide +kernel
theorem dX_securityAt_2 : decode prog_1_method_30_code 2 = .ok (.invokevirtual 79, 3) := by decide +kernel
theorem dX_securityAt_5 : decode prog_1_method_30_code 5 = .ok (.astore_n 2, 1) := by decide +kernel
theorem dX_securityAt_6 : decode prog_1_method_30_code 6 = .ok (.aload_n 2, 1) := by decide +kernel
theorem dX_securityAt_7 : decode prog_1_method_30_code 7 = .ok (.ifnull 14, 3) := by decide +kernel
theorem dX_securityAt_10 : decode prog_1_method_30_code 10 = .ok (.aload_n 2, 1) := by decide +kernel
theorem dX_securityAt_11 : decode prog_1_method_30_code 11 = .ok (.getfield 187, 3) := by decide +kernel
theorem dX_securityAt_14 : decode prog_1_method_30_code 14 = .ok (.ifCond .eq 7, 3) := by decide +kernel
theorem dX_securityAt_17 : decode prog_1_method_30_code 17 = .ok (.aload_n 2, 1) := by decide +kernel
theorem dX_securityAt_18 : decode prog_1_method_30_code 18 = .ok (.goto 4, 3) := by decide +kernel
theorem dX_securityAt_21 : decode prog_1_method_30_code 21 = .ok (.aconst_null, 1) := by decide +kernel
theorem dX_securityAt_22 : decode prog_1_method_30_code 22 = .ok (.areturn, 1) := by decide +kernel
set_option maxHeartbeats 4000000 in
set_option maxRecDepth 100000 in
theorem c_X_securityAt (l : Launch) (D : va_G) (cI cL cQ : ClassId) (d : Nat → Nat) (κ : Nat → Option va_E) (x : XS) (hX : IsX cI cL cQ d κ x) (hB : XB x) (sz : Nat) (a : Int32)  : Met l yX_securityAt wX_securityAt { frames := 1, cells := 0, slots := 0, locals := 21 } (va_Pc [.ref (d 18), .int (a)] (kC D vCl (kT cI cL cQ) d κ sz)) (va_Sq (fun r => r = if xSec x a then some (d (32 + 3 * (a).toNatClampNeg)) else none)) 0 0 (fun _ => False) := by
  refine kMet (by decide) (Nat.le_of_ble_eq_true rfl) ?_
  intro p0 e0 s0 m0 below0 meth0 c0 hx hb hr hml hown hlocks hin hts hsz hP hK ls hl
  have hl : lv_has ls 3 [(0, .ref (d 18)), (1, .int (a))] := hl
  have hB9 := hB
  obtain ⟨hb0, hb1, hb2, hb3, hb4, hb5, hb6, hb7, hb8⟩ := hB9
  refine lv_aload_n hx hb dX_securityAt_0 rfl (lv_at hl 0 rfl) ?_
  refine lv_iload_n hx hb dX_securityAt_1 rfl (lv_at hl 1 rfl) ?_
  refine va_csq (W.runV (C := RX) (As := [.int (a)]) (rest := []) ⟨hx, hb, hml, hown, hts⟩ (c_X_assetAt l D cI cL cQ d κ x hX hB _ a) (cwV 1 hts (k_gV tw_179 tw_181 tw_2 tw_38 tw_182) rfl rfl rfl (by decide +kernel) ⟨Nat.le_of_ble_eq_true rfl, Nat.le_of_ble_eq_true rfl⟩) (kPreV hP hK (q := 18) hX.1 rfl) rfl rfl hl.1 rfl (lv_room (Nat.le_of_ble_eq_true rfl)) dX_securityAt_2 ⟨Nat.le_of_ble_eq_true rfl, Nat.le_of_ble_eq_true rfl⟩) (fun r_2 e_2 => ?_)
  subst e_2
  by_cases hA_2 : xIs x a
  · rw [if_pos hA_2]
    have hi_2 : (a).toNatClampNeg < x.1 2 := (xIs_in hB hA_2).2
    refine lv_astore_n (lv' := [(2, .ref (d (32 + 3 * (a).toNatClampNeg))), (0, .ref (d 18)), (1, .int (a))]) hx hb dX_securityAt_5 rfl hl (by decide) rfl (fun ls hl => ?_)
    refine lv_aload_n hx hb dX_securityAt_6 rfl (lv_at hl 0 rfl) ?_
    refine lv_ifnull hx hb dX_securityAt_7 ?_
    refine lv_aload_n hx hb dX_securityAt_10 rfl (lv_at hl 0 rfl) ?_
    refine ka_get (ci := 0) (C := RA) (T := TA) (N := 4) hx hb hts inA hown hK hP (q := (32 + 3 * (a).toNatClampNeg)) (hX.2.2.2.2.2.2.2.2.2.2.2.2.2.2.1 ((a).toNatClampNeg) hi_2).1 rfl 0 (by decide) (hts _ tw_144) (fun _ h9 => h9) rfl dX_securityAt_11 ?_
    refine lv_if_eq (tgt := 21) hx hb dX_securityAt_14 (by decide) (fun c_14 => ?_) (fun c_14 => ?_)
    · refine lv_null hx hb dX_securityAt_21 ?_
      exact W.aret (v := va_rf (none)) hx hb hr (Or.inl ⟨_, rfl⟩) (va_rf_or _) (fun t ht hW => ⟨none, rfl, (if_neg (fun q => q.2 c_14)).symm, ht⟩) (fun q h => by cases h) dX_securityAt_22
    · refine lv_aload_n hx hb dX_securityAt_17 rfl (lv_at hl 0 rfl) ?_
      refine lv_goto (tgt := 22) hx hb dX_securityAt_18 (by decide) ?_
      exact W.aret (v := va_rf (some (d (32 + 3 * (a).toNatClampNeg)))) hx hb hr (Or.inl ⟨_, rfl⟩) (va_rf_or _) (fun t ht hW => ⟨some (d (32 + 3 * (a).toNatClampNeg)), rfl, (if_pos ⟨hA_2, c_14⟩).symm, ht⟩) (fun q h => by cases h) dX_securityAt_22
  · rw [if_neg hA_2]
    refine lv_astore_nN (lv' := [(2, .null), (0, .ref (d 18)), (1, .int (a))]) hx hb dX_securityAt_5 rfl hl (by decide) rfl (fun ls hl => ?_)
    refine lv_aload_nN hx hb dX_securityAt_6 rfl (lv_at hl 0 rfl) ?_
    refine lv_ifnullN (tgt := 21) hx hb dX_securityAt_7 (by decide) ?_
    refine lv_null hx hb dX_securityAt_21 ?_
    exact W.aret (v := va_rf (none)) hx hb hr (Or.inl ⟨_, rfl⟩) (va_rf_or _) (fun t ht hW => ⟨none, rfl, (if_neg (fun q => hA_2 q.1)).symm, ht⟩) (fun q h => by cases h) dX_securityAt_22

theorem dP_indexOf_0 : decode prog_4_method_2_code 0 = .ok (.iconst 0, 1) := by decide +kernel
theorem dP_indexOf_1 : decode prog_4_method_2_code 1 = .ok (.istore_n 2, 1) := by decide +kernel
theorem dP_indexOf_2 : decode prog_4_method_2_code 2 = .ok (.iload_n 2, 1) := by decide +kernel
theorem dP_indexOf_3 : decode prog_4_method_2_code 3 = .ok (.aload_n 0, 1) := by decide +kernel
theorem dP_indexOf_4 : decode prog_4_method_2_code 4 = .ok (.getfield 19, 3) := by decide +kernel
theorem dP_indexOf_7 : decode prog_4_method_2_code 7 = .ok (.if_icmp .ge 21, 3) := by decide +kernel
theorem dP_indexOf_10 : decode prog_4_method_2_code 10 = .ok (.aload_n 0, 1) := by decide +kernel
theorem dP_indexOf_11 : decode prog_4_method_2_code 11 = .ok (.getfield 9, 3) := by decide +kernel
theorem dP_indexOf_14 : decode prog_4_method_2_code 14 = .ok (.iload_n 2, 1) := by decide +kernel
theorem dP_indexOf_15 : decode prog_4_method_2_code 15 = .ok (.iaload, 1) := by decide +kernel
theorem dP_indexOf_16 : decode prog_4_method_2_code 16 = .ok (.iload_n 1, 1) := by decide +kernel
theorem dP_indexOf_17 : decode prog_4_method_2_code 17 = .ok (.if_icmp .ne 5, 3) := by decide +kernel
theorem dP_indexOf_20 : decode prog_4_method_2_code 20 = .ok (.iload_n 2, 1) := by decide +kernel
theorem dP_indexOf_21 : decode prog_4_method_2_code 21 = .ok (.ireturn, 1) := by decide +kernel
theorem dP_indexOf_22 : decode prog_4_method_2_code 22 = .ok (.iinc 2 1, 3) := by decide +kernel
theorem dP_indexOf_25 : decode prog_4_method_2_code 25 = .ok (.goto (-23), 3) := by decide +kernel
theorem dP_indexOf_28 : decode prog_4_method_2_code 28 = .ok (.iconst (-1), 1) := by decide +kernel
theorem dP_indexOf_29 : decode prog_4_method_2_code 29 = .ok (.ireturn, 1) := by decide +kernel
def f_P_indexOf_l (cnt : Nat) (f : Nat → Int32) (g : Nat → Int64) (pair : Int32) : Nat → Nat → Int32
  | 0, _ => 0
  | n + 1, k => if (nI cnt) ≤ (nI k) then (-1) else (if (f (nI k).toNatClampNeg) = pair then (nI k) else (f_P_indexOf_l cnt f g pair n (k + 1)))
theorem f_P_indexOf_l_s (cnt : Nat) (f : Nat → Int32) (g : Nat → Int64) (pair : Int32) (n : Nat) (k : Nat) : f_P_indexOf_l cnt f g pair (n + 1) k = (if (nI cnt) ≤ (nI k) then (-1) else (if (f (nI k).toNatClampNeg) = pair then (nI k) else (f_P_indexOf_l cnt f g pair n (k + 1)))) := rfl
def f_P_indexOf (cnt : Nat) (f : Nat → Int32) (g : Nat → Int64) (pair : Int32) : Int32 := f_P_indexOf_l cnt f g pair (cnt + 1) 0
set_option maxHeartbeats 4000000 in
set_option maxRecDepth 100000 in
theorem c_P_indexOf (l : Launch) (D : va_G) (cI cL cQ : ClassId) (d : Nat → Nat) (κ : Nat → Option va_E) (q len cnt : Nat) (f : Nat → Int32) (g : Nat → Int64) (hp : IsP cI cL d κ q len cnt f g) (hc : cnt ≤ len) (hlen : len ≤ 512) (sz : Nat) (pair : Int32)  : Met l yP_indexOf wP_indexOf { frames := 0, cells := 0, slots := 0, locals := 0 } (va_Pc [.ref (d q), .int (pair)] (kC D vCl (kT cI cL cQ) d κ sz)) (vp_Si (fun r => r = f_P_indexOf cnt f g pair)) 0 0 (fun _ => False) := by
  refine kMet (by decide) (Nat.le_of_ble_eq_true rfl) ?_
  intro p0 e0 s0 m0 below0 meth0 c0 hx hb hr hml hown hlocks hin hts hsz hP hK ls hl
  have hl : lv_has ls 3 [(0, .ref (d q)), (1, .int (pair))] := hl
  refine lv_iconst (v := 0) hx hb dP_indexOf_0 (by decide) ?_
  refine lv_istore_n (lv' := [(2, .int (0)), (0, .ref (d q)), (1, .int (pair))]) hx hb dP_indexOf_1 rfl hl (by decide) rfl (fun ls hl => ?_)
  refine k_rec (σ := Nat) (fun n z9 ls => z9 ≤ cnt ∧ cnt < z9 + n ∧ f_P_indexOf_l cnt f g pair n z9 = f_P_indexOf cnt f g pair ∧ lv_has ls 3 [(2, .int (nI z9)), (0, .ref (d q)), (1, .int (pair))]) (cnt + 1) (0) ⟨by omega, by omega, by rw [f_P_indexOf], lv_sub hl [0, 1, 2] rfl⟩ ?_
  intro n z9 ls hI ih
  obtain ⟨k, rfl⟩ : ∃ z, z = z9 := ⟨_, rfl⟩
  obtain ⟨hk, hn, hE, hl⟩ := hI
  obtain ⟨n, rfl⟩ : ∃ q, n = q + 1 := ⟨n - 1, by omega⟩
  refine lv_iload_n hx hb dP_indexOf_2 rfl (lv_at hl 0 rfl) ?_
  refine lv_aload_n hx hb dP_indexOf_3 rfl (lv_at hl 1 rfl) ?_
  refine ka_get (ci := 2) (C := RP) (T := TP) (N := 3) hx hb hts inP hown hK hP (q := q) hp.1 rfl 2 (by decide) (hts _ tw_62) (fun _ h9 => h9) rfl dP_indexOf_4 ?_
  refine lv_icmp_ge (tgt := 28) hx hb dP_indexOf_7 (by decide) (fun c_7 => ?_) (fun c_7 => ?_)
  · refine lv_iconst (v := -1) hx hb dP_indexOf_28 (by decide) ?_
    exact W.iret (v := -1) hx hb hr (fun t ht hW => ⟨_, rfl, by rw [← hE, f_P_indexOf_l_s, if_pos c_7], ht⟩) (fun q h => by cases h) dP_indexOf_29
  · have hlt : k < cnt := Nat.lt_of_not_le (fun q => c_7 (nI_le q (by omega)))
    refine lv_aload_n hx hb dP_indexOf_10 rfl (lv_at hl 1 rfl) ?_
    refine ka_get (ci := 2) (C := RP) (T := TP) (N := 3) hx hb hts inP hown hK hP (q := q) hp.1 rfl 0 (by decide) (hts _ tw_60) (fun _ h9 => h9) rfl dP_indexOf_11 ?_
    refine lv_iload_n hx hb dP_indexOf_14 rfl (lv_at hl 0 rfl) ?_
    refine ka_iald hx hb hK hP 0 (q := (q + 1)) hp.2.1 rfl (by first | assumption | exact vp_in_nI (by omega) (by omega)) dP_indexOf_15 ?_
    refine lv_iload_n hx hb dP_indexOf_16 rfl (lv_at hl 2 rfl) ?_
    refine lv_icmp_ne (tgt := 22) hx hb dP_indexOf_17 (by decide) (fun c_17 => ?_) (fun c_17 => ?_)
    · refine lv_iinc (v := nI (k + 1)) (lv' := [(2, .int (nI (k + 1))), (0, .ref (d q)), (1, .int (pair))]) hx hb dP_indexOf_22 hl (k := 0) rfl (nI_add k 1) (by decide) rfl (fun ls hl => ?_)
      refine lv_goto (tgt := 2) hx hb dP_indexOf_25 (by decide) ?_
      exact ih n (k + 1) ls (by omega) ⟨by omega, by omega, by rw [← hE, f_P_indexOf_l_s, if_neg c_7, if_neg c_17], lv_sub hl [0, 1, 2] rfl⟩
    · refine lv_iload_n hx hb dP_indexOf_20 rfl (lv_at hl 0 rfl) ?_
      exact W.iret (v := nI k) hx hb hr (fun t ht hW => ⟨_, rfl, by rw [← hE, f_P_indexOf_l_s, if_neg c_7, if_pos c_17], ht⟩) (fun q h => by cases h) dP_indexOf_21

theorem indexOf_l_in {cnt : Nat} {f : Nat → Int32} {g : Nat → Int64} {pair : Int32} (hcnt : cnt < 2 ^ 31) : ∀ (n k : Nat), k ≤ cnt → cnt < k + n → (f_P_indexOf_l cnt f g pair n k = -1 ∧ ∀ j, k ≤ j → j < cnt → ¬ f j = pair) ∨ ∃ j, k ≤ j ∧ j < cnt ∧ f_P_indexOf_l cnt f g pair n k = nI j ∧ f j = pair ∧ ∀ i, k ≤ i → i < j → ¬ f i = pair := by
  intro n
  induction n with
  | zero => intro k h1 h2; omega
  | succ n ih =>
    intro k h1 h2
    rw [f_P_indexOf_l_s]
    by_cases c : nI cnt ≤ nI k
    · rw [if_pos c]
      have hge : cnt ≤ k := Nat.le_of_not_lt (fun q => nI_ge q (by omega) c)
      exact Or.inl ⟨rfl, fun j h3 h4 => by omega⟩
    · have hlt : k < cnt := Nat.lt_of_not_le (fun q => c (nI_le q (by omega)))
      rw [if_neg c, nI_clamp (by omega)]
      by_cases c2 : f k = pair
      · rw [if_pos c2]
        exact Or.inr ⟨k, Nat.le_refl k, hlt, rfl, c2, fun i h3 h4 => by omega⟩
      · rw [if_neg c2]
        rcases ih (k + 1) (by omega) (by omega) with ⟨h3, h4⟩ | ⟨j, h3, h4, h5, h6, h7⟩
        · refine Or.inl ⟨h3, fun j h5 h6 => ?_⟩
          by_cases e : j = k
          · rw [e]; exact c2
          · exact h4 j (by omega) h6
        · refine Or.inr ⟨j, by omega, h4, h5, h6, fun i h8 h9 => ?_⟩
          by_cases e : i = k
          · rw [e]; exact c2
          · exact h7 i (by omega) h9
/-- the first place of a pair, or -1 -/
theorem indexOf_spec {cnt : Nat} {f : Nat → Int32} {g : Nat → Int64} {pair : Int32} (hcnt : cnt < 2 ^ 31) : (f_P_indexOf cnt f g pair = -1 ∧ ∀ j, j < cnt → ¬ f j = pair) ∨ ∃ j, j < cnt ∧ f_P_indexOf cnt f g pair = nI j ∧ f j = pair ∧ ∀ i, i < j → ¬ f i = pair := by
  rcases indexOf_l_in (f := f) (g := g) (pair := pair) hcnt (cnt + 1) 0 (by omega) (by omega) with ⟨h3, h4⟩ | ⟨j, h3, h4, h5, h6, h7⟩
  · exact Or.inl ⟨h3, fun j h => h4 j (by omega) h⟩
  · exact Or.inr ⟨j, h4, h5, h6, fun i h => h7 i (by omega) h⟩
theorem indexOf_in {cnt len : Nat} {f : Nat → Int32} {g : Nat → Int64} {pair : Int32} (hc : cnt ≤ len) (hlen : len ≤ 512) (h : ¬ f_P_indexOf cnt f g pair = -1) : vp_in (f_P_indexOf cnt f g pair) len := by
  rcases indexOf_spec (f := f) (g := g) (pair := pair) (show cnt < 2 ^ 31 by omega) with ⟨h3, -⟩ | ⟨j, h4, h5, -⟩
  · exact absurd h3 h
  · rw [h5]; exact vp_in_nI (by omega) (by omega)

theorem dP_has_0 : decode prog_4_method_3_code 0 = .ok (.aload_n 0, 1) := by decide +kernel
theorem dP_has_1 : decode prog_4_method_3_code 1 = .ok (.iload_n 1, 1) := by decide +kernel
theorem dP_has_2 : decode prog_4_method_3_code 2 = .ok (.invokevirtual 23, 3) := by decide +kernel
theorem dP_has_5 : decode prog_4_method_3_code 5 = .ok (.iconst (-1), 1) := by decide +kernel
theorem dP_has_6 : decode prog_4_method_3_code 6 = .ok (.if_icmp .eq 7, 3) := by decide +kernel
theorem dP_has_9 : decode prog_4_method_3_code 9 = .ok (.iconst 1, 1) := by decide +kernel
theorem dP_has_10 : decode prog_4_method_3_code 10 = .ok (.goto 4, 3) := by decide +kernel
theorem dP_has_13 : decode prog_4_method_3_code 13 = .ok (.iconst 0, 1) := by decide +kernel
theorem dP_has_14 : decode prog_4_method_3_code 14 = .ok (.ireturn, 1) := by decide +kernel
def f_P_has (cnt : Nat) (f : Nat → Int32) (g : Nat → Int64) (pair : Int32) : Int32 := if (f_P_indexOf cnt f g pair) = (-1) then 0 else 1
theorem b_P_has (cnt : Nat) (f : Nat → Int32) (g : Nat → Int64) (pair : Int32) : f_P_has cnt f g pair = 0 ∨ f_P_has cnt f g pair = 1 := by
  unfold f_P_has
  repeat' (first | split | exact Or.inl rfl | exact Or.inr rfl)
set_option maxHeartbeats 4000000 in
set_option maxRecDepth 100000 in
theorem c_P_has (l : Launch) (D : va_G) (cI cL cQ : ClassId) (d : Nat → Nat) (κ : Nat → Option va_E) (q len cnt : Nat) (f : Nat → Int32) (g : Nat → Int64) (hp : IsP cI cL d κ q len cnt f g) (hc : cnt ≤ len) (hlen : len ≤ 512) (sz : Nat) (pair : Int32)  : Met l yP_has wP_has { frames := 1, cells := 0, slots := 0, locals := 22 } (va_Pc [.ref (d q), .int (pair)] (kC D vCl (kT cI cL cQ) d κ sz)) (vp_Si (fun r => r = f_P_has cnt f g pair)) 0 0 (fun _ => False) := by
  refine kMet (by decide) (Nat.le_of_ble_eq_true rfl) ?_
  intro p0 e0 s0 m0 below0 meth0 c0 hx hb hr hml hown hlocks hin hts hsz hP hK ls hl
  have hl : lv_has ls 2 [(0, .ref (d q)), (1, .int (pair))] := hl
  refine lv_aload_n hx hb dP_has_0 rfl (lv_at hl 0 rfl) ?_
  refine lv_iload_n hx hb dP_has_1 rfl (lv_at hl 1 rfl) ?_
  refine vp_callSi (W.runV (C := RP) (As := [.int (pair)]) (rest := []) ⟨hx, hb, hml, hown, hts⟩ (c_P_indexOf l D cI cL cQ d κ q len cnt f g hp hc hlen _ pair) (cwV 1 hts (k_gV tw_265 tw_267 tw_13 tw_39 tw_268) rfl rfl rfl (by decide +kernel) ⟨Nat.le_of_ble_eq_true rfl, Nat.le_of_ble_eq_true rfl⟩) (kPreV hP hK (q := q) hp.1 rfl) rfl rfl hl.1 rfl (lv_room (Nat.le_of_ble_eq_true rfl)) dP_has_2 ⟨Nat.le_of_ble_eq_true rfl, Nat.le_of_ble_eq_true rfl⟩) (fun r_2 e_2 => ?_)
  subst e_2
  refine lv_iconst (v := -1) hx hb dP_has_5 (by decide) ?_
  refine lv_icmp_eq (tgt := 13) hx hb dP_has_6 (by decide) (fun c_6 => ?_) (fun c_6 => ?_)
  · refine lv_iconst (v := 0) hx hb dP_has_13 (by decide) ?_
    exact W.zret (v := 0) hx hb hr k_nar0 (fun t ht hW => ⟨_, rfl, by rw [f_P_has, if_pos c_6], ht⟩) (fun q h => by cases h) dP_has_14
  · refine lv_iconst (v := 1) hx hb dP_has_9 (by decide) ?_
    refine lv_goto (tgt := 14) hx hb dP_has_10 (by decide) ?_
    exact W.zret (v := 1) hx hb hr k_nar1 (fun t ht hW => ⟨_, rfl, by rw [f_P_has, if_neg c_6], ht⟩) (fun q h => by cases h) dP_has_14

theorem dP_amountOf_0 : decode prog_4_method_4_code 0 = .ok (.aload_n 0, 1) := by decide +kernel
theorem dP_amountOf_1 : decode prog_4_method_4_code 1 = .ok (.iload_n 1, 1) := by decide +kernel
theorem dP_amountOf_2 : decode prog_4_method_4_code 2 = .ok (.invokevirtual 23, 3) := by decide +kernel
theorem dP_amountOf_5 : decode prog_4_method_4_code 5 = .ok (.istore_n 2, 1) := by decide +kernel
theorem dP_amountOf_6 : decode prog_4_method_4_code 6 = .ok (.iload_n 2, 1) := by decide +kernel
theorem dP_amountOf_7 : decode prog_4_method_4_code 7 = .ok (.iconst (-1), 1) := by decide +kernel
theorem dP_amountOf_8 : decode prog_4_method_4_code 8 = .ok (.if_icmp .ne 7, 3) := by decide +kernel
theorem dP_amountOf_11 : decode prog_4_method_4_code 11 = .ok (.lconst 0, 1) := by decide +kernel
theorem dP_amountOf_12 : decode prog_4_method_4_code 12 = .ok (.goto 9, 3) := by decide +kernel
theorem dP_amountOf_15 : decode prog_4_method_4_code 15 = .ok (.aload_n 0, 1) := by decide +kernel
theorem dP_amountOf_16 : decode prog_4_method_4_code 16 = .ok (.getfield 15, 3) := by decide +kernel
theorem dP_amountOf_19 : decode prog_4_method_4_code 19 = .ok (.iload_n 2, 1) := by decide +kernel
theorem dP_amountOf_20 : decode prog_4_method_4_code 20 = .ok (.laload, 1) := by decide +kernel
theorem dP_amountOf_21 : decode prog_4_method_4_code 21 = .ok (.lreturn, 1) := by decide +kernel
def f_P_amountOf (cnt : Nat) (f : Nat → Int32) (g : Nat → Int64) (pair : Int32) : Int64 := if (f_P_indexOf cnt f g pair) = (-1) then 0 else (g (f_P_indexOf cnt f g pair).toNatClampNeg)
set_option maxHeartbeats 4000000 in
set_option maxRecDepth 100000 in
theorem c_P_amountOf (l : Launch) (D : va_G) (cI cL cQ : ClassId) (d : Nat → Nat) (κ : Nat → Option va_E) (q len cnt : Nat) (f : Nat → Int32) (g : Nat → Int64) (hp : IsP cI cL d κ q len cnt f g) (hc : cnt ≤ len) (hlen : len ≤ 512) (sz : Nat) (pair : Int32)  : Met l yP_amountOf wP_amountOf { frames := 1, cells := 0, slots := 0, locals := 22 } (va_Pc [.ref (d q), .int (pair)] (kC D vCl (kT cI cL cQ) d κ sz)) (vp_Sl (fun r => r = f_P_amountOf cnt f g pair)) 0 0 (fun _ => False) := by
  refine kMet (by decide) (Nat.le_of_ble_eq_true rfl) ?_
  intro p0 e0 s0 m0 below0 meth0 c0 hx hb hr hml hown hlocks hin hts hsz hP hK ls hl
  have hl : lv_has ls 3 [(0, .ref (d q)), (1, .int (pair))] := hl
  refine lv_aload_n hx hb dP_amountOf_0 rfl (lv_at hl 0 rfl) ?_
  refine lv_iload_n hx hb dP_amountOf_1 rfl (lv_at hl 1 rfl) ?_
  refine vp_callSi (W.runV (C := RP) (As := [.int (pair)]) (rest := []) ⟨hx, hb, hml, hown, hts⟩ (c_P_indexOf l D cI cL cQ d κ q len cnt f g hp hc hlen _ pair) (cwV 1 hts (k_gV tw_265 tw_267 tw_13 tw_39 tw_268) rfl rfl rfl (by decide +kernel) ⟨Nat.le_of_ble_eq_true rfl, Nat.le_of_ble_eq_true rfl⟩) (kPreV hP hK (q := q) hp.1 rfl) rfl rfl hl.1 rfl (lv_room (Nat.le_of_ble_eq_true rfl)) dP_amountOf_2 ⟨Nat.le_of_ble_eq_true rfl, Nat.le_of_ble_eq_true rfl⟩) (fun r_2 e_2 => ?_)
  subst e_2
  refine lv_istore_n (lv' := [(2, .int (f_P_indexOf cnt f g pair)), (0, .ref (d q)), (1, .int (pair))]) hx hb dP_amountOf_5 rfl hl (by decide) rfl (fun ls hl => ?_)
  refine lv_iload_n hx hb dP_amountOf_6 rfl (lv_at hl 0 rfl) ?_
  refine lv_iconst (v := -1) hx hb dP_amountOf_7 (by decide) ?_
  refine lv_icmp_ne (tgt := 15) hx hb dP_amountOf_8 (by decide) (fun c_8 => ?_) (fun c_8 => ?_)
  · refine lv_aload_n hx hb dP_amountOf_15 rfl (lv_at hl 1 rfl) ?_
    refine ka_get (ci := 2) (C := RP) (T := TP) (N := 3) hx hb hts inP hown hK hP (q := q) hp.1 rfl 1 (by decide) (hts _ tw_61) (fun _ h9 => h9) rfl dP_amountOf_16 ?_
    refine lv_iload_n hx hb dP_amountOf_19 rfl (lv_at hl 0 rfl) ?_
    refine ka_lald hx hb hK hP 1 (q := (q + 2)) hp.2.2 rfl (indexOf_in hc hlen (by assumption)) dP_amountOf_20 ?_
    exact W.lret (v := g (f_P_indexOf cnt f g pair).toNatClampNeg) hx hb hr (fun t ht hW => ⟨_, rfl, by rw [f_P_amountOf, if_neg c_8], ht⟩) (fun q h => by cases h) dP_amountOf_21
  · refine lv_lconst (v := 0) hx hb dP_amountOf_11 (by decide) ?_
    refine lv_goto (tgt := 21) hx hb dP_amountOf_12 (by decide) ?_
    exact W.lret (v := 0) hx hb hr (fun t ht hW => ⟨_, rfl, by rw [f_P_amountOf, if_pos c_8], ht⟩) (fun q h => by cases h) dP_amountOf_21

theorem dG_netOf_0 : decode prog_3_method_3_code 0 = .ok (.lconst 0, 1) := by decide +kernel
theorem dG_netOf_1 : decode prog_3_method_3_code 1 = .ok (.lstore_n 3, 1) := by decide +kernel
theorem dG_netOf_2 : decode prog_3_method_3_code 2 = .ok (.iconst 0, 1) := by decide +kernel
theorem dG_netOf_3 : decode prog_3_method_3_code 3 = .ok (.istore 5, 2) := by decide +kernel
theorem dG_netOf_5 : decode prog_3_method_3_code 5 = .ok (.iload 5, 2) := by decide +kernel
theorem dG_netOf_7 : decode prog_3_method_3_code 7 = .ok (.aload_n 0, 1) := by decide +kernel
theorem dG_netOf_8 : decode prog_3_method_3_code 8 = .ok (.getfield 25, 3) := by decide +kernel
theorem dG_netOf_11 : decode prog_3_method_3_code 11 = .ok (.if_icmp .ge 73, 3) := by decide +kernel
theorem dG_netOf_14 : decode prog_3_method_3_code 14 = .ok (.aload_n 0, 1) := by decide +kernel
theorem dG_netOf_15 : decode prog_3_method_3_code 15 = .ok (.getfield 18, 3) := by decide +kernel
theorem dG_netOf_18 : decode prog_3_method_3_code 18 = .ok (.iload 5, 2) := by decide +kernel
theorem dG_netOf_20 : decode prog_3_method_3_code 20 = .ok (.iaload, 1) := by decide +kernel
theorem dG_netOf_21 : decode prog_3_method_3_code 21 = .ok (.iload_n 2, 1) := by decide +kernel
theorem dG_netOf_22 : decode prog_3_method_3_code 22 = .ok (.if_icmp .ne 24, 3) := by decide +kernel
theorem dG_netOf_25 : decode prog_3_method_3_code 25 = .ok (.aload_n 0, 1) := by decide +kernel
theorem dG_netOf_26 : decode prog_3_method_3_code 26 = .ok (.getfield 9, 3) := by decide +kernel
theorem dG_netOf_29 : decode prog_3_method_3_code 29 = .ok (.iload 5, 2) := by decide +kernel
theorem dG_netOf_31 : decode prog_3_method_3_code 31 = .ok (.iaload, 1) := by decide +kernel
theorem dG_netOf_32 : decode prog_3_method_3_code 32 = .ok (.iload_n 1, 1) := by decide +kernel
theorem dG_netOf_33 : decode prog_3_method_3_code 33 = .ok (.if_icmp .ne 13, 3) := by decide +kernel
theorem dG_netOf_36 : decode prog_3_method_3_code 36 = .ok (.lload_n 3, 1) := by decide +kernel
theorem dG_netOf_37 : decode prog_3_method_3_code 37 = .ok (.aload_n 0, 1) := by decide +kernel
theorem dG_netOf_38 : decode prog_3_method_3_code 38 = .ok (.getfield 21, 3) := by decide +kernel
theorem dG_netOf_41 : decode prog_3_method_3_code 41 = .ok (.iload 5, 2) := by decide +kernel
theorem dG_netOf_43 : decode prog_3_method_3_code 43 = .ok (.laload, 1) := by decide +kernel
theorem dG_netOf_44 : decode prog_3_method_3_code 44 = .ok (.lsub, 1) := by decide +kernel
theorem dG_netOf_45 : decode prog_3_method_3_code 45 = .ok (.lstore_n 3, 1) := by decide +kernel
theorem dG_netOf_46 : decode prog_3_method_3_code 46 = .ok (.aload_n 0, 1) := by decide +kernel
theorem dG_netOf_47 : decode prog_3_method_3_code 47 = .ok (.getfield 18, 3) := by decide +kernel
theorem dG_netOf_50 : decode prog_3_method_3_code 50 = .ok (.iload 5, 2) := by decide +kernel
theorem dG_netOf_52 : decode prog_3_method_3_code 52 = .ok (.iaload, 1) := by decide +kernel
theorem dG_netOf_53 : decode prog_3_method_3_code 53 = .ok (.iload_n 2, 1) := by decide +kernel
theorem dG_netOf_54 : decode prog_3_method_3_code 54 = .ok (.if_icmp .ne 24, 3) := by decide +kernel
theorem dG_netOf_57 : decode prog_3_method_3_code 57 = .ok (.aload_n 0, 1) := by decide +kernel
theorem dG_netOf_58 : decode prog_3_method_3_code 58 = .ok (.getfield 15, 3) := by decide +kernel
theorem dG_netOf_61 : decode prog_3_method_3_code 61 = .ok (.iload 5, 2) := by decide +kernel
theorem dG_netOf_63 : decode prog_3_method_3_code 63 = .ok (.iaload, 1) := by decide +kernel
theorem dG_netOf_64 : decode prog_3_method_3_code 64 = .ok (.iload_n 1, 1) := by decide +kernel
theorem dG_netOf_65 : decode prog_3_method_3_code 65 = .ok (.if_icmp .ne 13, 3) := by decide +kernel
theorem dG_netOf_68 : decode prog_3_method_3_code 68 = .ok (.lload_n 3, 1) := by decide +kernel
theorem dG_netOf_69 : decode prog_3_method_3_code 69 = .ok (.aload_n 0, 1) := by decide +kernel
theorem dG_netOf_70 : decode prog_3_method_3_code 70 = .ok (.getfield 21, 3) := by decide +kernel
theorem dG_netOf_73 : decode prog_3_method_3_code 73 = .ok (.iload 5, 2) := by decide +kernel
theorem dG_netOf_75 : decode prog_3_method_3_code 75 = .ok (.laload, 1) := by decide +kernel
theorem dG_netOf_76 : decode prog_3_method_3_code 76 = .ok (.ladd, 1) := by decide +kernel
theorem dG_netOf_77 : decode prog_3_method_3_code 77 = .ok (.lstore_n 3, 1) := by decide +kernel
theorem dG_netOf_78 : decode prog_3_method_3_code 78 = .ok (.iinc 5 1, 3) := by decide +kernel
theorem dG_netOf_81 : decode prog_3_method_3_code 81 = .ok (.goto (-76), 3) := by decide +kernel
theorem dG_netOf_84 : decode prog_3_method_3_code 84 = .ok (.lload_n 3, 1) := by decide +kernel
theorem dG_netOf_85 : decode prog_3_method_3_code 85 = .ok (.lreturn, 1) := by decide +kernel
def f_G_netOf_l (x : XS) (p : Int32) (a : Int32) : Nat → Nat → Int64 → Int64
  | 0, _, _ => 0
  | n + 1, k, v => if (nI (x.1 5)) ≤ (nI k) then v else (if ((x.2.2.2.1 4) (nI k).toNatClampNeg) = a then (if ((x.2.2.2.1 2) (nI k).toNatClampNeg) = p then (if ((x.2.2.2.1 3) (nI k).toNatClampNeg) = p then (f_G_netOf_l x p a n (k + 1) ((v - ((x.2.2.2.2.1 3) (nI k).toNatClampNeg)) + ((x.2.2.2.2.1 3) (nI k).toNatClampNeg))) else (f_G_netOf_l x p a n (k + 1) (v - ((x.2.2.2.2.1 3) (nI k).toNatClampNeg)))) else (if ((x.2.2.2.1 3) (nI k).toNatClampNeg) = p then (f_G_netOf_l x p a n (k + 1) (v + ((x.2.2.2.2.1 3) (nI k).toNatClampNeg))) else (f_G_netOf_l x p a n (k + 1) v))) else (f_G_netOf_l x p a n (k + 1) v))
theorem f_G_netOf_l_s (x : XS) (p : Int32) (a : Int32) (n : Nat) (k : Nat) (v : Int64) : f_G_netOf_l x p a (n + 1) k v = (if (nI (x.1 5)) ≤ (nI k) then v else (if ((x.2.2.2.1 4) (nI k).toNatClampNeg) = a then (if ((x.2.2.2.1 2) (nI k).toNatClampNeg) = p then (if ((x.2.2.2.1 3) (nI k).toNatClampNeg) = p then (f_G_netOf_l x p a n (k + 1) ((v - ((x.2.2.2.2.1 3) (nI k).toNatClampNeg)) + ((x.2.2.2.2.1 3) (nI k).toNatClampNeg))) else (f_G_netOf_l x p a n (k + 1) (v - ((x.2.2.2.2.1 3) (nI k).toNatClampNeg)))) else (if ((x.2.2.2.1 3) (nI k).toNatClampNeg) = p then (f_G_netOf_l x p a n (k + 1) (v + ((x.2.2.2.2.1 3) (nI k).toNatClampNeg))) else (f_G_netOf_l x p a n (k + 1) v))) else (f_G_netOf_l x p a n (k + 1) v))) := rfl
def f_G_netOf (x : XS) (p : Int32) (a : Int32) : Int64 := f_G_netOf_l x p a (x.1 5 + 1) 0 0
set_option maxHeartbeats 4000000 in
set_option maxRecDepth 100000 in
theorem c_G_netOf (l : Launch) (D : va_G) (cI cL cQ : ClassId) (d : Nat → Nat) (κ : Nat → Option va_E) (x : XS) (hX : IsX cI cL cQ d κ x) (hB : XB x) (sz : Nat) (p : Int32) (a : Int32)  : Met l yG_netOf wG_netOf { frames := 0, cells := 0, slots := 0, locals := 0 } (va_Pc [.ref (d 27), .int (p), .int (a)] (kC D vCl (kT cI cL cQ) d κ sz)) (vp_Sl (fun r => r = f_G_netOf x p a)) 0 0 (fun _ => False) := by
  refine kMet (by decide) (Nat.le_of_ble_eq_true rfl) ?_
  intro p0 e0 s0 m0 below0 meth0 c0 hx hb hr hml hown hlocks hin hts hsz hP hK ls hl
  have hl : lv_has ls 6 [(0, .ref (d 27)), (1, .int (p)), (2, .int (a))] := hl
  have hB9 := hB
  obtain ⟨hb0, hb1, hb2, hb3, hb4, hb5, hb6, hb7, hb8⟩ := hB9
  refine lv_lconst (v := 0) hx hb dG_netOf_0 (by decide) ?_
  refine lv_lstore_n (lv' := [(3, .long (0)), (0, .ref (d 27)), (1, .int (p)), (2, .int (a))]) hx hb dG_netOf_1 rfl hl (by decide) rfl (fun ls hl => ?_)
  refine lv_iconst (v := 0) hx hb dG_netOf_2 (by decide) ?_
  refine lv_istore (lv' := [(5, .int (0)), (3, .long (0)), (0, .ref (d 27)), (1, .int (p)), (2, .int (a))]) hx hb dG_netOf_3 hl (by decide) rfl (fun ls hl => ?_)
  refine k_rec (σ := Nat × Int64) (fun n z9 ls => z9.1 ≤ x.1 5 ∧ x.1 5 < z9.1 + n ∧ f_G_netOf_l x p a n z9.1 z9.2 = f_G_netOf x p a ∧ lv_has ls 6 [(5, .int (nI z9.1)), (3, .long z9.2), (0, .ref (d 27)), (1, .int (p)), (2, .int (a))]) (x.1 5 + 1) (0, 0) ⟨by omega, by omega, by rw [f_G_netOf], lv_sub hl [0, 1, 2, 3, 4] rfl⟩ ?_
  intro n z9 ls hI ih
  obtain ⟨k, v⟩ := z9
  obtain ⟨hk, hn, hE, hl⟩ := hI
  dsimp only at hk hn hE hl
  obtain ⟨n, rfl⟩ : ∃ q, n = q + 1 := ⟨n - 1, by omega⟩
  refine lv_iload hx hb dG_netOf_5 (lv_at hl 0 rfl) ?_
  refine lv_aload_n hx hb dG_netOf_7 rfl (lv_at hl 2 rfl) ?_
  refine ka_get (ci := 1) (C := RG) (T := TG) (N := 5) hx hb hts inG hown hK hP (q := 27) hX.2.2.2.2.2.2.2.2.2.1 rfl 4 (by decide) (hts _ tw_86) (fun _ h9 => h9) rfl dG_netOf_8 ?_
  refine lv_icmp_ge (tgt := 84) hx hb dG_netOf_11 (by decide) (fun c_11 => ?_) (fun c_11 => ?_)
  · refine lv_lload_n hx hb dG_netOf_84 rfl (lv_at hl 1 rfl) ?_
    exact W.lret (v := v) hx hb hr (fun t ht hW => ⟨_, rfl, by rw [← hE, f_G_netOf_l_s, if_pos c_11], ht⟩) (fun q h => by cases h) dG_netOf_85
  · have hlt : k < x.1 5 := Nat.lt_of_not_le (fun q => c_11 (nI_le q (by omega)))
    refine lv_aload_n hx hb dG_netOf_14 rfl (lv_at hl 2 rfl) ?_
    refine ka_get (ci := 1) (C := RG) (T := TG) (N := 5) hx hb hts inG hown hK hP (q := 27) hX.2.2.2.2.2.2.2.2.2.1 rfl 2 (by decide) (hts _ tw_82) (fun _ h9 => h9) rfl dG_netOf_15 ?_
    refine lv_iload hx hb dG_netOf_18 (lv_at hl 0 rfl) ?_
    refine ka_iald hx hb hK hP 0 (q := 30) hX.2.2.2.2.2.2.2.2.2.2.2.2.1 rfl (by first | assumption | exact vp_in_nI (by omega) (by omega)) dG_netOf_20 ?_
    refine lv_iload_n hx hb dG_netOf_21 rfl (lv_at hl 4 rfl) ?_
    refine lv_icmp_ne (tgt := 46) hx hb dG_netOf_22 (by decide) (fun c_22 => ?_) (fun c_22 => ?_)
    · refine lv_aload_n hx hb dG_netOf_46 rfl (lv_at hl 2 rfl) ?_
      refine ka_get (ci := 1) (C := RG) (T := TG) (N := 5) hx hb hts inG hown hK hP (q := 27) hX.2.2.2.2.2.2.2.2.2.1 rfl 2 (by decide) (hts _ tw_82) (fun _ h9 => h9) rfl dG_netOf_47 ?_
      refine lv_iload hx hb dG_netOf_50 (lv_at hl 0 rfl) ?_
      refine ka_iald hx hb hK hP 0 (q := 30) hX.2.2.2.2.2.2.2.2.2.2.2.2.1 rfl (by first | assumption | exact vp_in_nI (by omega) (by omega)) dG_netOf_52 ?_
      refine lv_iload_n hx hb dG_netOf_53 rfl (lv_at hl 4 rfl) ?_
      refine lv_icmp_ne (tgt := 78) hx hb dG_netOf_54 (by decide) (fun _ => ?_) (fun c => absurd c c_22)
      refine lv_iinc (v := nI (k + 1)) (lv' := [(5, .int (nI (k + 1))), (3, .long (v)), (0, .ref (d 27)), (1, .int (p)), (2, .int (a))]) hx hb dG_netOf_78 hl (k := 0) rfl (nI_add k 1) (by decide) rfl (fun ls hl => ?_)
      refine lv_goto (tgt := 5) hx hb dG_netOf_81 (by decide) ?_
      exact ih n (k + 1, v) ls (by omega) ⟨by omega, by omega, by rw [← hE, f_G_netOf_l_s, if_neg c_11, if_neg c_22], lv_sub hl [0, 1, 2, 3, 4] rfl⟩
    · refine lv_aload_n hx hb dG_netOf_25 rfl (lv_at hl 2 rfl) ?_
      refine ka_get (ci := 1) (C := RG) (T := TG) (N := 5) hx hb hts inG hown hK hP (q := 27) hX.2.2.2.2.2.2.2.2.2.1 rfl 0 (by decide) (hts _ tw_78) (fun _ h9 => h9) rfl dG_netOf_26 ?_
      refine lv_iload hx hb dG_netOf_29 (lv_at hl 0 rfl) ?_
      refine ka_iald hx hb hK hP 0 (q := 28) hX.2.2.2.2.2.2.2.2.2.2.1 rfl (by first | assumption | exact vp_in_nI (by omega) (by omega)) dG_netOf_31 ?_
      refine lv_iload_n hx hb dG_netOf_32 rfl (lv_at hl 3 rfl) ?_
      refine lv_icmp_ne (tgt := 46) hx hb dG_netOf_33 (by decide) (fun c_33 => ?_) (fun c_33 => ?_)
      · refine lv_aload_n hx hb dG_netOf_46 rfl (lv_at hl 2 rfl) ?_
        refine ka_get (ci := 1) (C := RG) (T := TG) (N := 5) hx hb hts inG hown hK hP (q := 27) hX.2.2.2.2.2.2.2.2.2.1 rfl 2 (by decide) (hts _ tw_82) (fun _ h9 => h9) rfl dG_netOf_47 ?_
        refine lv_iload hx hb dG_netOf_50 (lv_at hl 0 rfl) ?_
        refine ka_iald hx hb hK hP 0 (q := 30) hX.2.2.2.2.2.2.2.2.2.2.2.2.1 rfl (by first | assumption | exact vp_in_nI (by omega) (by omega)) dG_netOf_52 ?_
        refine lv_iload_n hx hb dG_netOf_53 rfl (lv_at hl 4 rfl) ?_
        refine lv_icmp_ne (tgt := 78) hx hb dG_netOf_54 (by decide) (fun c => absurd c_22 c) (fun _ => ?_)
        refine lv_aload_n hx hb dG_netOf_57 rfl (lv_at hl 2 rfl) ?_
        refine ka_get (ci := 1) (C := RG) (T := TG) (N := 5) hx hb hts inG hown hK hP (q := 27) hX.2.2.2.2.2.2.2.2.2.1 rfl 1 (by decide) (hts _ tw_80) (fun _ h9 => h9) rfl dG_netOf_58 ?_
        refine lv_iload hx hb dG_netOf_61 (lv_at hl 0 rfl) ?_
        refine ka_iald hx hb hK hP 0 (q := 29) hX.2.2.2.2.2.2.2.2.2.2.2.1 rfl (by first | assumption | exact vp_in_nI (by omega) (by omega)) dG_netOf_63 ?_
        refine lv_iload_n hx hb dG_netOf_64 rfl (lv_at hl 3 rfl) ?_
        refine lv_icmp_ne (tgt := 78) hx hb dG_netOf_65 (by decide) (fun c_65 => ?_) (fun c_65 => ?_)
        · refine lv_iinc (v := nI (k + 1)) (lv' := [(5, .int (nI (k + 1))), (3, .long (v)), (0, .ref (d 27)), (1, .int (p)), (2, .int (a))]) hx hb dG_netOf_78 hl (k := 0) rfl (nI_add k 1) (by decide) rfl (fun ls hl => ?_)
          refine lv_goto (tgt := 5) hx hb dG_netOf_81 (by decide) ?_
          exact ih n (k + 1, v) ls (by omega) ⟨by omega, by omega, by rw [← hE, f_G_netOf_l_s, if_neg c_11, if_pos c_22, if_neg c_33, if_neg c_65], lv_sub hl [0, 1, 2, 3, 4] rfl⟩
        · refine lv_lload_n hx hb dG_netOf_68 rfl (lv_at hl 1 rfl) ?_
          refine lv_aload_n hx hb dG_netOf_69 rfl (lv_at hl 2 rfl) ?_
          refine ka_get (ci := 1) (C := RG) (T := TG) (N := 5) hx hb hts inG hown hK hP (q := 27) hX.2.2.2.2.2.2.2.2.2.1 rfl 3 (by decide) (hts _ tw_84) (fun _ h9 => h9) rfl dG_netOf_70 ?_
          refine lv_iload hx hb dG_netOf_73 (lv_at hl 0 rfl) ?_
          refine ka_lald hx hb hK hP 1 (q := 31) hX.2.2.2.2.2.2.2.2.2.2.2.2.2.1 rfl (by first | assumption | exact vp_in_nI (by omega) (by omega)) dG_netOf_75 ?_
          refine lv_ladd hx hb dG_netOf_76 ?_
          refine lv_lstore_n (lv' := [(3, .long (v + ((x.2.2.2.2.1 3) (nI k).toNatClampNeg))), (5, .int (nI k)), (0, .ref (d 27)), (1, .int (p)), (2, .int (a))]) hx hb dG_netOf_77 rfl hl (by decide) rfl (fun ls hl => ?_)
          refine lv_iinc (v := nI (k + 1)) (lv' := [(5, .int (nI (k + 1))), (3, .long (v + ((x.2.2.2.2.1 3) (nI k).toNatClampNeg))), (0, .ref (d 27)), (1, .int (p)), (2, .int (a))]) hx hb dG_netOf_78 hl (k := 1) rfl (nI_add k 1) (by decide) rfl (fun ls hl => ?_)
          refine lv_goto (tgt := 5) hx hb dG_netOf_81 (by decide) ?_
          exact ih n (k + 1, v + ((x.2.2.2.2.1 3) (nI k).toNatClampNeg)) ls (by omega) ⟨by omega, by omega, by rw [← hE, f_G_netOf_l_s, if_neg c_11, if_pos c_22, if_neg c_33, if_pos c_65], lv_sub hl [0, 1, 2, 3, 4] rfl⟩
      · refine lv_lload_n hx hb dG_netOf_36 rfl (lv_at hl 1 rfl) ?_
        refine lv_aload_n hx hb dG_netOf_37 rfl (lv_at hl 2 rfl) ?_
        refine ka_get (ci := 1) (C := RG) (T := TG) (N := 5) hx hb hts inG hown hK hP (q := 27) hX.2.2.2.2.2.2.2.2.2.1 rfl 3 (by decide) (hts _ tw_84) (fun _ h9 => h9) rfl dG_netOf_38 ?_
        refine lv_iload hx hb dG_netOf_41 (lv_at hl 0 rfl) ?_
        refine ka_lald hx hb hK hP 1 (q := 31) hX.2.2.2.2.2.2.2.2.2.2.2.2.2.1 rfl (by first | assumption | exact vp_in_nI (by omega) (by omega)) dG_netOf_43 ?_
        refine lv_lsub hx hb dG_netOf_44 ?_
        refine lv_lstore_n (lv' := [(3, .long (v - ((x.2.2.2.2.1 3) (nI k).toNatClampNeg))), (5, .int (nI k)), (0, .ref (d 27)), (1, .int (p)), (2, .int (a))]) hx hb dG_netOf_45 rfl hl (by decide) rfl (fun ls hl => ?_)
        refine lv_aload_n hx hb dG_netOf_46 rfl (lv_at hl 2 rfl) ?_
        refine ka_get (ci := 1) (C := RG) (T := TG) (N := 5) hx hb hts inG hown hK hP (q := 27) hX.2.2.2.2.2.2.2.2.2.1 rfl 2 (by decide) (hts _ tw_82) (fun _ h9 => h9) rfl dG_netOf_47 ?_
        refine lv_iload hx hb dG_netOf_50 (lv_at hl 1 rfl) ?_
        refine ka_iald hx hb hK hP 0 (q := 30) hX.2.2.2.2.2.2.2.2.2.2.2.2.1 rfl (by first | assumption | exact vp_in_nI (by omega) (by omega)) dG_netOf_52 ?_
        refine lv_iload_n hx hb dG_netOf_53 rfl (lv_at hl 4 rfl) ?_
        refine lv_icmp_ne (tgt := 78) hx hb dG_netOf_54 (by decide) (fun c => absurd c_22 c) (fun _ => ?_)
        refine lv_aload_n hx hb dG_netOf_57 rfl (lv_at hl 2 rfl) ?_
        refine ka_get (ci := 1) (C := RG) (T := TG) (N := 5) hx hb hts inG hown hK hP (q := 27) hX.2.2.2.2.2.2.2.2.2.1 rfl 1 (by decide) (hts _ tw_80) (fun _ h9 => h9) rfl dG_netOf_58 ?_
        refine lv_iload hx hb dG_netOf_61 (lv_at hl 1 rfl) ?_
        refine ka_iald hx hb hK hP 0 (q := 29) hX.2.2.2.2.2.2.2.2.2.2.2.1 rfl (by first | assumption | exact vp_in_nI (by omega) (by omega)) dG_netOf_63 ?_
        refine lv_iload_n hx hb dG_netOf_64 rfl (lv_at hl 3 rfl) ?_
        refine lv_icmp_ne (tgt := 78) hx hb dG_netOf_65 (by decide) (fun c_65 => ?_) (fun c_65 => ?_)
        · refine lv_iinc (v := nI (k + 1)) (lv' := [(5, .int (nI (k + 1))), (3, .long (v - ((x.2.2.2.2.1 3) (nI k).toNatClampNeg))), (0, .ref (d 27)), (1, .int (p)), (2, .int (a))]) hx hb dG_netOf_78 hl (k := 1) rfl (nI_add k 1) (by decide) rfl (fun ls hl => ?_)
          refine lv_goto (tgt := 5) hx hb dG_netOf_81 (by decide) ?_
          exact ih n (k + 1, v - ((x.2.2.2.2.1 3) (nI k).toNatClampNeg)) ls (by omega) ⟨by omega, by omega, by rw [← hE, f_G_netOf_l_s, if_neg c_11, if_pos c_22, if_pos c_33, if_neg c_65], lv_sub hl [0, 1, 2, 3, 4] rfl⟩
        · refine lv_lload_n hx hb dG_netOf_68 rfl (lv_at hl 0 rfl) ?_
          refine lv_aload_n hx hb dG_netOf_69 rfl (lv_at hl 2 rfl) ?_
          refine ka_get (ci := 1) (C := RG) (T := TG) (N := 5) hx hb hts inG hown hK hP (q := 27) hX.2.2.2.2.2.2.2.2.2.1 rfl 3 (by decide) (hts _ tw_84) (fun _ h9 => h9) rfl dG_netOf_70 ?_
          refine lv_iload hx hb dG_netOf_73 (lv_at hl 1 rfl) ?_
          refine ka_lald hx hb hK hP 1 (q := 31) hX.2.2.2.2.2.2.2.2.2.2.2.2.2.1 rfl (by first | assumption | exact vp_in_nI (by omega) (by omega)) dG_netOf_75 ?_
          refine lv_ladd hx hb dG_netOf_76 ?_
          refine lv_lstore_n (lv' := [(3, .long ((v - ((x.2.2.2.2.1 3) (nI k).toNatClampNeg)) + ((x.2.2.2.2.1 3) (nI k).toNatClampNeg))), (5, .int (nI k)), (0, .ref (d 27)), (1, .int (p)), (2, .int (a))]) hx hb dG_netOf_77 rfl hl (by decide) rfl (fun ls hl => ?_)
          refine lv_iinc (v := nI (k + 1)) (lv' := [(5, .int (nI (k + 1))), (3, .long ((v - ((x.2.2.2.2.1 3) (nI k).toNatClampNeg)) + ((x.2.2.2.2.1 3) (nI k).toNatClampNeg))), (0, .ref (d 27)), (1, .int (p)), (2, .int (a))]) hx hb dG_netOf_78 hl (k := 1) rfl (nI_add k 1) (by decide) rfl (fun ls hl => ?_)
          refine lv_goto (tgt := 5) hx hb dG_netOf_81 (by decide) ?_
          exact ih n (k + 1, (v - ((x.2.2.2.2.1 3) (nI k).toNatClampNeg)) + ((x.2.2.2.2.1 3) (nI k).toNatClampNeg)) ls (by omega) ⟨by omega, by omega, by rw [← hE, f_G_netOf_l_s, if_neg c_11, if_pos c_22, if_pos c_33, if_pos c_65], lv_sub hl [0, 1, 2, 3, 4] rfl⟩

theorem dG_paidFrom_0 : decode prog_3_method_4_code 0 = .ok (.lconst 0, 1) := by decide +kernel
theorem dG_paidFrom_1 : decode prog_3_method_4_code 1 = .ok (.lstore 4, 2) := by decide +kernel
theorem dG_paidFrom_3 : decode prog_3_method_4_code 3 = .ok (.iconst 0, 1) := by decide +kernel
theorem dG_paidFrom_4 : decode prog_3_method_4_code 4 = .ok (.istore 6, 2) := by decide +kernel
theorem dG_paidFrom_6 : decode prog_3_method_4_code 6 = .ok (.iload 6, 2) := by decide +kernel
theorem dG_paidFrom_8 : decode prog_3_method_4_code 8 = .ok (.aload_n 0, 1) := by decide +kernel
theorem dG_paidFrom_9 : decode prog_3_method_4_code 9 = .ok (.getfield 25, 3) := by decide +kernel
theorem dG_paidFrom_12 : decode prog_3_method_4_code 12 = .ok (.if_icmp .ge 99, 3) := by decide +kernel
theorem dG_paidFrom_15 : decode prog_3_method_4_code 15 = .ok (.aload_n 0, 1) := by decide +kernel
theorem dG_paidFrom_16 : decode prog_3_method_4_code 16 = .ok (.getfield 18, 3) := by decide +kernel
theorem dG_paidFrom_19 : decode prog_3_method_4_code 19 = .ok (.iload 6, 2) := by decide +kernel
theorem dG_paidFrom_21 : decode prog_3_method_4_code 21 = .ok (.iaload, 1) := by decide +kernel
theorem dG_paidFrom_22 : decode prog_3_method_4_code 22 = .ok (.iload_n 3, 1) := by decide +kernel
theorem dG_paidFrom_23 : decode prog_3_method_4_code 23 = .ok (.if_icmp .ne 37, 3) := by decide +kernel
theorem dG_paidFrom_26 : decode prog_3_method_4_code 26 = .ok (.aload_n 0, 1) := by decide +kernel
theorem dG_paidFrom_27 : decode prog_3_method_4_code 27 = .ok (.getfield 9, 3) := by decide +kernel
theorem dG_paidFrom_30 : decode prog_3_method_4_code 30 = .ok (.iload 6, 2) := by decide +kernel
theorem dG_paidFrom_32 : decode prog_3_method_4_code 32 = .ok (.iaload, 1) := by decide +kernel
theorem dG_paidFrom_33 : decode prog_3_method_4_code 33 = .ok (.iload_n 1, 1) := by decide +kernel
theorem dG_paidFrom_34 : decode prog_3_method_4_code 34 = .ok (.if_icmp .ne 26, 3) := by decide +kernel
theorem dG_paidFrom_37 : decode prog_3_method_4_code 37 = .ok (.aload_n 0, 1) := by decide +kernel
theorem dG_paidFrom_38 : decode prog_3_method_4_code 38 = .ok (.getfield 15, 3) := by decide +kernel
theorem dG_paidFrom_41 : decode prog_3_method_4_code 41 = .ok (.iload 6, 2) := by decide +kernel
theorem dG_paidFrom_43 : decode prog_3_method_4_code 43 = .ok (.iaload, 1) := by decide +kernel
theorem dG_paidFrom_44 : decode prog_3_method_4_code 44 = .ok (.iload_n 2, 1) := by decide +kernel
theorem dG_paidFrom_45 : decode prog_3_method_4_code 45 = .ok (.if_icmp .ne 15, 3) := by decide +kernel
theorem dG_paidFrom_48 : decode prog_3_method_4_code 48 = .ok (.lload 4, 2) := by decide +kernel
theorem dG_paidFrom_50 : decode prog_3_method_4_code 50 = .ok (.aload_n 0, 1) := by decide +kernel
theorem dG_paidFrom_51 : decode prog_3_method_4_code 51 = .ok (.getfield 21, 3) := by decide +kernel
theorem dG_paidFrom_54 : decode prog_3_method_4_code 54 = .ok (.iload 6, 2) := by decide +kernel
theorem dG_paidFrom_56 : decode prog_3_method_4_code 56 = .ok (.laload, 1) := by decide +kernel
theorem dG_paidFrom_57 : decode prog_3_method_4_code 57 = .ok (.ladd, 1) := by decide +kernel
theorem dG_paidFrom_58 : decode prog_3_method_4_code 58 = .ok (.lstore 4, 2) := by decide +kernel
theorem dG_paidFrom_60 : decode prog_3_method_4_code 60 = .ok (.aload_n 0, 1) := by decide +kernel
theorem dG_paidFrom_61 : decode prog_3_method_4_code 61 = .ok (.getfield 18, 3) := by decide +kernel
theorem dG_paidFrom_64 : decode prog_3_method_4_code 64 = .ok (.iload 6, 2) := by decide +kernel
theorem dG_paidFrom_66 : decode prog_3_method_4_code 66 = .ok (.iaload, 1) := by decide +kernel
theorem dG_paidFrom_67 : decode prog_3_method_4_code 67 = .ok (.iload_n 3, 1) := by decide +kernel
theorem dG_paidFrom_68 : decode prog_3_method_4_code 68 = .ok (.if_icmp .ne 37, 3) := by decide +kernel
theorem dG_paidFrom_71 : decode prog_3_method_4_code 71 = .ok (.aload_n 0, 1) := by decide +kernel
theorem dG_paidFrom_72 : decode prog_3_method_4_code 72 = .ok (.getfield 9, 3) := by decide +kernel
theorem dG_paidFrom_75 : decode prog_3_method_4_code 75 = .ok (.iload 6, 2) := by decide +kernel
theorem dG_paidFrom_77 : decode prog_3_method_4_code 77 = .ok (.iaload, 1) := by decide +kernel
theorem dG_paidFrom_78 : decode prog_3_method_4_code 78 = .ok (.iload_n 2, 1) := by decide +kernel
theorem dG_paidFrom_79 : decode prog_3_method_4_code 79 = .ok (.if_icmp .ne 26, 3) := by decide +kernel
theorem dG_paidFrom_82 : decode prog_3_method_4_code 82 = .ok (.aload_n 0, 1) := by decide +kernel
theorem dG_paidFrom_83 : decode prog_3_method_4_code 83 = .ok (.getfield 15, 3) := by decide +kernel
theorem dG_paidFrom_86 : decode prog_3_method_4_code 86 = .ok (.iload 6, 2) := by decide +kernel
theorem dG_paidFrom_88 : decode prog_3_method_4_code 88 = .ok (.iaload, 1) := by decide +kernel
theorem dG_paidFrom_89 : decode prog_3_method_4_code 89 = .ok (.iload_n 1, 1) := by decide +kernel
theorem dG_paidFrom_90 : decode prog_3_method_4_code 90 = .ok (.if_icmp .ne 15, 3) := by decide +kernel
theorem dG_paidFrom_93 : decode prog_3_method_4_code 93 = .ok (.lload 4, 2) := by decide +kernel
theorem dG_paidFrom_95 : decode prog_3_method_4_code 95 = .ok (.aload_n 0, 1) := by decide +kernel
theorem dG_paidFrom_96 : decode prog_3_method_4_code 96 = .ok (.getfield 21, 3) := by decide +kernel
theorem dG_paidFrom_99 : decode prog_3_method_4_code 99 = .ok (.iload 6, 2) := by decide +kernel
theorem dG_paidFrom_101 : decode prog_3_method_4_code 101 = .ok (.laload, 1) := by decide +kernel
theorem dG_paidFrom_102 : decode prog_3_method_4_code 102 = .ok (.lsub, 1) := by decide +kernel
theorem dG_paidFrom_103 : decode prog_3_method_4_code 103 = .ok (.lstore 4, 2) := by decide +kernel
theorem dG_paidFrom_105 : decode prog_3_method_4_code 105 = .ok (.iinc 6 1, 3) := by decide +kernel
theorem dG_paidFrom_108 : decode prog_3_method_4_code 108 = .ok (.goto (-102), 3) := by decide +kernel
theorem dG_paidFrom_111 : decode prog_3_method_4_code 111 = .ok (.lload 4, 2) := by decide +kernel
theorem dG_paidFrom_113 : decode prog_3_method_4_code 113 = .ok (.lreturn, 1) := by decide +kernel
def f_G_paidFrom_l (x : XS) (p : Int32) (q : Int32) (mo : Int32) : Nat → Nat → Int64 → Int64
  | 0, _, _ => 0
  | n + 1, k, v => if (nI (x.1 5)) ≤ (nI k) then v else (if ((x.2.2.2.1 4) (nI k).toNatClampNeg) = mo then (if ((x.2.2.2.1 2) (nI k).toNatClampNeg) = p then (if ((x.2.2.2.1 3) (nI k).toNatClampNeg) = q then (if ((x.2.2.2.1 2) (nI k).toNatClampNeg) = q then (if ((x.2.2.2.1 3) (nI k).toNatClampNeg) = p then (f_G_paidFrom_l x p q mo n (k + 1) ((v + ((x.2.2.2.2.1 3) (nI k).toNatClampNeg)) - ((x.2.2.2.2.1 3) (nI k).toNatClampNeg))) else (f_G_paidFrom_l x p q mo n (k + 1) (v + ((x.2.2.2.2.1 3) (nI k).toNatClampNeg)))) else (f_G_paidFrom_l x p q mo n (k + 1) (v + ((x.2.2.2.2.1 3) (nI k).toNatClampNeg)))) else (if ((x.2.2.2.1 2) (nI k).toNatClampNeg) = q then (if ((x.2.2.2.1 3) (nI k).toNatClampNeg) = p then (f_G_paidFrom_l x p q mo n (k + 1) (v - ((x.2.2.2.2.1 3) (nI k).toNatClampNeg))) else (f_G_paidFrom_l x p q mo n (k + 1) v)) else (f_G_paidFrom_l x p q mo n (k + 1) v))) else (if ((x.2.2.2.1 2) (nI k).toNatClampNeg) = q then (if ((x.2.2.2.1 3) (nI k).toNatClampNeg) = p then (f_G_paidFrom_l x p q mo n (k + 1) (v - ((x.2.2.2.2.1 3) (nI k).toNatClampNeg))) else (f_G_paidFrom_l x p q mo n (k + 1) v)) else (f_G_paidFrom_l x p q mo n (k + 1) v))) else (f_G_paidFrom_l x p q mo n (k + 1) v))
theorem f_G_paidFrom_l_s (x : XS) (p : Int32) (q : Int32) (mo : Int32) (n : Nat) (k : Nat) (v : Int64) : f_G_paidFrom_l x p q mo (n + 1) k v = (if (nI (x.1 5)) ≤ (nI k) then v else (if ((x.2.2.2.1 4) (nI k).toNatClampNeg) = mo then (if ((x.2.2.2.1 2) (nI k).toNatClampNeg) = p then (if ((x.2.2.2.1 3) (nI k).toNatClampNeg) = q then (if ((x.2.2.2.1 2) (nI k).toNatClampNeg) = q then (if ((x.2.2.2.1 3) (nI k).toNatClampNeg) = p then (f_G_paidFrom_l x p q mo n (k + 1) ((v + ((x.2.2.2.2.1 3) (nI k).toNatClampNeg)) - ((x.2.2.2.2.1 3) (nI k).toNatClampNeg))) else (f_G_paidFrom_l x p q mo n (k + 1) (v + ((x.2.2.2.2.1 3) (nI k).toNatClampNeg)))) else (f_G_paidFrom_l x p q mo n (k + 1) (v + ((x.2.2.2.2.1 3) (nI k).toNatClampNeg)))) else (if ((x.2.2.2.1 2) (nI k).toNatClampNeg) = q then (if ((x.2.2.2.1 3) (nI k).toNatClampNeg) = p then (f_G_paidFrom_l x p q mo n (k + 1) (v - ((x.2.2.2.2.1 3) (nI k).toNatClampNeg))) else (f_G_paidFrom_l x p q mo n (k + 1) v)) else (f_G_paidFrom_l x p q mo n (k + 1) v))) else (if ((x.2.2.2.1 2) (nI k).toNatClampNeg) = q then (if ((x.2.2.2.1 3) (nI k).toNatClampNeg) = p then (f_G_paidFrom_l x p q mo n (k + 1) (v - ((x.2.2.2.2.1 3) (nI k).toNatClampNeg))) else (f_G_paidFrom_l x p q mo n (k + 1) v)) else (f_G_paidFrom_l x p q mo n (k + 1) v))) else (f_G_paidFrom_l x p q mo n (k + 1) v))) := rfl
def f_G_paidFrom (x : XS) (p : Int32) (q : Int32) (mo : Int32) : Int64 := f_G_paidFrom_l x p q mo (x.1 5 + 1) 0 0
set_option maxHeartbeats 4000000 in
set_option maxRecDepth 100000 in
theorem c_G_paidFrom (l : Launch) (D : va_G) (cI cL cQ : ClassId) (d : Nat → Nat) (κ : Nat → Option va_E) (x : XS) (hX : IsX cI cL cQ d κ x) (hB : XB x) (sz : Nat) (p : Int32) (q : Int32) (mo : Int32)  : Met l yG_paidFrom wG_paidFrom { frames := 0, cells := 0, slots := 0, locals := 0 } (va_Pc [.ref (d 27), .int (p), .int (q), .int (mo)] (kC D vCl (kT cI cL cQ) d κ sz)) (vp_Sl (fun r => r = f_G_paidFrom x p q mo)) 0 0 (fun _ => False) := by
  refine kMet (by decide) (Nat.le_of_ble_eq_true rfl) ?_
  intro p0 e0 s0 m0 below0 meth0 c0 hx hb hr hml hown hlocks hin hts hsz hP hK ls hl
  have hl : lv_has ls 7 [(0, .ref (d 27)), (1, .int (p)), (2, .int (q)), (3, .int (mo))] := hl
  have hB9 := hB
  obtain ⟨hb0, hb1, hb2, hb3, hb4, hb5, hb6, hb7, hb8⟩ := hB9
  refine lv_lconst (v := 0) hx hb dG_paidFrom_0 (by decide) ?_
  refine lv_lstore (lv' := [(4, .long (0)), (0, .ref (d 27)), (1, .int (p)), (2, .int (q)), (3, .int (mo))]) hx hb dG_paidFrom_1 hl (by decide) rfl (fun ls hl => ?_)
  refine lv_iconst (v := 0) hx hb dG_paidFrom_3 (by decide) ?_
  refine lv_istore (lv' := [(6, .int (0)), (4, .long (0)), (0, .ref (d 27)), (1, .int (p)), (2, .int (q)), (3, .int (mo))]) hx hb dG_paidFrom_4 hl (by decide) rfl (fun ls hl => ?_)
  refine k_rec (σ := Nat × Int64) (fun n z9 ls => z9.1 ≤ x.1 5 ∧ x.1 5 < z9.1 + n ∧ f_G_paidFrom_l x p q mo n z9.1 z9.2 = f_G_paidFrom x p q mo ∧ lv_has ls 7 [(6, .int (nI z9.1)), (4, .long z9.2), (0, .ref (d 27)), (1, .int (p)), (2, .int (q)), (3, .int (mo))]) (x.1 5 + 1) (0, 0) ⟨by omega, by omega, by rw [f_G_paidFrom], lv_sub hl [0, 1, 2, 3, 4, 5] rfl⟩ ?_
  intro n z9 ls hI ih
  obtain ⟨k, v⟩ := z9
  obtain ⟨hk, hn, hE, hl⟩ := hI
  dsimp only at hk hn hE hl
  obtain ⟨n, rfl⟩ : ∃ q, n = q + 1 := ⟨n - 1, by omega⟩
  refine lv_iload hx hb dG_paidFrom_6 (lv_at hl 0 rfl) ?_
  refine lv_aload_n hx hb dG_paidFrom_8 rfl (lv_at hl 2 rfl) ?_
  refine ka_get (ci := 1) (C := RG) (T := TG) (N := 5) hx hb hts inG hown hK hP (q := 27) hX.2.2.2.2.2.2.2.2.2.1 rfl 4 (by decide) (hts _ tw_86) (fun _ h9 => h9) rfl dG_paidFrom_9 ?_
  refine lv_icmp_ge (tgt := 111) hx hb dG_paidFrom_12 (by decide) (fun c_12 => ?_) (fun c_12 => ?_)
  · refine lv_lload hx hb dG_paidFrom_111 (lv_at hl 1 rfl) ?_
    exact W.lret (v := v) hx hb hr (fun t ht hW => ⟨_, rfl, by rw [← hE, f_G_paidFrom_l_s, if_pos c_12], ht⟩) (fun q h => by cases h) dG_paidFrom_113
  · have hlt : k < x.1 5 := Nat.lt_of_not_le (fun q => c_12 (nI_le q (by omega)))
    refine lv_aload_n hx hb dG_paidFrom_15 rfl (lv_at hl 2 rfl) ?_
    refine ka_get (ci := 1) (C := RG) (T := TG) (N := 5) hx hb hts inG hown hK hP (q := 27) hX.2.2.2.2.2.2.2.2.2.1 rfl 2 (by decide) (hts _ tw_82) (fun _ h9 => h9) rfl dG_paidFrom_16 ?_
    refine lv_iload hx hb dG_paidFrom_19 (lv_at hl 0 rfl) ?_
    refine ka_iald hx hb hK hP 0 (q := 30) hX.2.2.2.2.2.2.2.2.2.2.2.2.1 rfl (by first | assumption | exact vp_in_nI (by omega) (by omega)) dG_paidFrom_21 ?_
    refine lv_iload_n hx hb dG_paidFrom_22 rfl (lv_at hl 5 rfl) ?_
    refine lv_icmp_ne (tgt := 60) hx hb dG_paidFrom_23 (by decide) (fun c_23 => ?_) (fun c_23 => ?_)
    · refine lv_aload_n hx hb dG_paidFrom_60 rfl (lv_at hl 2 rfl) ?_
      refine ka_get (ci := 1) (C := RG) (T := TG) (N := 5) hx hb hts inG hown hK hP (q := 27) hX.2.2.2.2.2.2.2.2.2.1 rfl 2 (by decide) (hts _ tw_82) (fun _ h9 => h9) rfl dG_paidFrom_61 ?_
      refine lv_iload hx hb dG_paidFrom_64 (lv_at hl 0 rfl) ?_
      refine ka_iald hx hb hK hP 0 (q := 30) hX.2.2.2.2.2.2.2.2.2.2.2.2.1 rfl (by first | assumption | exact vp_in_nI (by omega) (by omega)) dG_paidFrom_66 ?_
      refine lv_iload_n hx hb dG_paidFrom_67 rfl (lv_at hl 5 rfl) ?_
      refine lv_icmp_ne (tgt := 105) hx hb dG_paidFrom_68 (by decide) (fun _ => ?_) (fun c => absurd c c_23)
      refine lv_iinc (v := nI (k + 1)) (lv' := [(6, .int (nI (k + 1))), (4, .long (v)), (0, .ref (d 27)), (1, .int (p)), (2, .int (q)), (3, .int (mo))]) hx hb dG_paidFrom_105 hl (k := 0) rfl (nI_add k 1) (by decide) rfl (fun ls hl => ?_)
      refine lv_goto (tgt := 6) hx hb dG_paidFrom_108 (by decide) ?_
      exact ih n (k + 1, v) ls (by omega) ⟨by omega, by omega, by rw [← hE, f_G_paidFrom_l_s, if_neg c_12, if_neg c_23], lv_sub hl [0, 1, 2, 3, 4, 5] rfl⟩
    · refine lv_aload_n hx hb dG_paidFrom_26 rfl (lv_at hl 2 rfl) ?_
      refine ka_get (ci := 1) (C := RG) (T := TG) (N := 5) hx hb hts inG hown hK hP (q := 27) hX.2.2.2.2.2.2.2.2.2.1 rfl 0 (by decide) (hts _ tw_78) (fun _ h9 => h9) rfl dG_paidFrom_27 ?_
      refine lv_iload hx hb dG_paidFrom_30 (lv_at hl 0 rfl) ?_
      refine ka_iald hx hb hK hP 0 (q := 28) hX.2.2.2.2.2.2.2.2.2.2.1 rfl (by first | assumption | exact vp_in_nI (by omega) (by omega)) dG_paidFrom_32 ?_
      refine lv_iload_n hx hb dG_paidFrom_33 rfl (lv_at hl 3 rfl) ?_
      refine lv_icmp_ne (tgt := 60) hx hb dG_paidFrom_34 (by decide) (fun c_34 => ?_) (fun c_34 => ?_)
      · refine lv_aload_n hx hb dG_paidFrom_60 rfl (lv_at hl 2 rfl) ?_
        refine ka_get (ci := 1) (C := RG) (T := TG) (N := 5) hx hb hts inG hown hK hP (q := 27) hX.2.2.2.2.2.2.2.2.2.1 rfl 2 (by decide) (hts _ tw_82) (fun _ h9 => h9) rfl dG_paidFrom_61 ?_
        refine lv_iload hx hb dG_paidFrom_64 (lv_at hl 0 rfl) ?_
        refine ka_iald hx hb hK hP 0 (q := 30) hX.2.2.2.2.2.2.2.2.2.2.2.2.1 rfl (by first | assumption | exact vp_in_nI (by omega) (by omega)) dG_paidFrom_66 ?_
        refine lv_iload_n hx hb dG_paidFrom_67 rfl (lv_at hl 5 rfl) ?_
        refine lv_icmp_ne (tgt := 105) hx hb dG_paidFrom_68 (by decide) (fun c => absurd c_23 c) (fun _ => ?_)
        refine lv_aload_n hx hb dG_paidFrom_71 rfl (lv_at hl 2 rfl) ?_
        refine ka_get (ci := 1) (C := RG) (T := TG) (N := 5) hx hb hts inG hown hK hP (q := 27) hX.2.2.2.2.2.2.2.2.2.1 rfl 0 (by decide) (hts _ tw_78) (fun _ h9 => h9) rfl dG_paidFrom_72 ?_
        refine lv_iload hx hb dG_paidFrom_75 (lv_at hl 0 rfl) ?_
        refine ka_iald hx hb hK hP 0 (q := 28) hX.2.2.2.2.2.2.2.2.2.2.1 rfl (by first | assumption | exact vp_in_nI (by omega) (by omega)) dG_paidFrom_77 ?_
        refine lv_iload_n hx hb dG_paidFrom_78 rfl (lv_at hl 4 rfl) ?_
        refine lv_icmp_ne (tgt := 105) hx hb dG_paidFrom_79 (by decide) (fun c_79 => ?_) (fun c_79 => ?_)
        · refine lv_iinc (v := nI (k + 1)) (lv' := [(6, .int (nI (k + 1))), (4, .long (v)), (0, .ref (d 27)), (1, .int (p)), (2, .int (q)), (3, .int (mo))]) hx hb dG_paidFrom_105 hl (k := 0) rfl (nI_add k 1) (by decide) rfl (fun ls hl => ?_)
          refine lv_goto (tgt := 6) hx hb dG_paidFrom_108 (by decide) ?_
          exact ih n (k + 1, v) ls (by omega) ⟨by omega, by omega, by rw [← hE, f_G_paidFrom_l_s, if_neg c_12, if_pos c_23, if_neg c_34, if_neg c_79], lv_sub hl [0, 1, 2, 3, 4, 5] rfl⟩
        · refine lv_aload_n hx hb dG_paidFrom_82 rfl (lv_at hl 2 rfl) ?_
          refine ka_get (ci := 1) (C := RG) (T := TG) (N := 5) hx hb hts inG hown hK hP (q := 27) hX.2.2.2.2.2.2.2.2.2.1 rfl 1 (by decide) (hts _ tw_80) (fun _ h9 => h9) rfl dG_paidFrom_83 ?_
          refine lv_iload hx hb dG_paidFrom_86 (lv_at hl 0 rfl) ?_
          refine ka_iald hx hb hK hP 0 (q := 29) hX.2.2.2.2.2.2.2.2.2.2.2.1 rfl (by first | assumption | exact vp_in_nI (by omega) (by omega)) dG_paidFrom_88 ?_
          refine lv_iload_n hx hb dG_paidFrom_89 rfl (lv_at hl 3 rfl) ?_
          refine lv_icmp_ne (tgt := 105) hx hb dG_paidFrom_90 (by decide) (fun c_90 => ?_) (fun c_90 => ?_)
          · refine lv_iinc (v := nI (k + 1)) (lv' := [(6, .int (nI (k + 1))), (4, .long (v)), (0, .ref (d 27)), (1, .int (p)), (2, .int (q)), (3, .int (mo))]) hx hb dG_paidFrom_105 hl (k := 0) rfl (nI_add k 1) (by decide) rfl (fun ls hl => ?_)
            refine lv_goto (tgt := 6) hx hb dG_paidFrom_108 (by decide) ?_
            exact ih n (k + 1, v) ls (by omega) ⟨by omega, by omega, by rw [← hE, f_G_paidFrom_l_s, if_neg c_12, if_pos c_23, if_neg c_34, if_pos c_79, if_neg c_90], lv_sub hl [0, 1, 2, 3, 4, 5] rfl⟩
          · refine lv_lload hx hb dG_paidFrom_93 (lv_at hl 1 rfl) ?_
            refine lv_aload_n hx hb dG_paidFrom_95 rfl (lv_at hl 2 rfl) ?_
            refine ka_get (ci := 1) (C := RG) (T := TG) (N := 5) hx hb hts inG hown hK hP (q := 27) hX.2.2.2.2.2.2.2.2.2.1 rfl 3 (by decide) (hts _ tw_84) (fun _ h9 => h9) rfl dG_paidFrom_96 ?_
            refine lv_iload hx hb dG_paidFrom_99 (lv_at hl 0 rfl) ?_
            refine ka_lald hx hb hK hP 1 (q := 31) hX.2.2.2.2.2.2.2.2.2.2.2.2.2.1 rfl (by first | assumption | exact vp_in_nI (by omega) (by omega)) dG_paidFrom_101 ?_
            refine lv_lsub hx hb dG_paidFrom_102 ?_
            refine lv_lstore (lv' := [(4, .long (v - ((x.2.2.2.2.1 3) (nI k).toNatClampNeg))), (6, .int (nI k)), (0, .ref (d 27)), (1, .int (p)), (2, .int (q)), (3, .int (mo))]) hx hb dG_paidFrom_103 hl (by decide) rfl (fun ls hl => ?_)
            refine lv_iinc (v := nI (k + 1)) (lv' := [(6, .int (nI (k + 1))), (4, .long (v - ((x.2.2.2.2.1 3) (nI k).toNatClampNeg))), (0, .ref (d 27)), (1, .int (p)), (2, .int (q)), (3, .int (mo))]) hx hb dG_paidFrom_105 hl (k := 1) rfl (nI_add k 1) (by decide) rfl (fun ls hl => ?_)
            refine lv_goto (tgt := 6) hx hb dG_paidFrom_108 (by decide) ?_
            exact ih n (k + 1, v - ((x.2.2.2.2.1 3) (nI k).toNatClampNeg)) ls (by omega) ⟨by omega, by omega, by rw [← hE, f_G_paidFrom_l_s, if_neg c_12, if_pos c_23, if_neg c_34, if_pos c_79, if_pos c_90], lv_sub hl [0, 1, 2, 3, 4, 5] rfl⟩
      · refine lv_aload_n hx hb dG_paidFrom_37 rfl (lv_at hl 2 rfl) ?_
        refine ka_get (ci := 1) (C := RG) (T := TG) (N := 5) hx hb hts inG hown hK hP (q := 27) hX.2.2.2.2.2.2.2.2.2.1 rfl 1 (by decide) (hts _ tw_80) (fun _ h9 => h9) rfl dG_paidFrom_38 ?_
        refine lv_iload hx hb dG_paidFrom_41 (lv_at hl 0 rfl) ?_
        refine ka_iald hx hb hK hP 0 (q := 29) hX.2.2.2.2.2.2.2.2.2.2.2.1 rfl (by first | assumption | exact vp_in_nI (by omega) (by omega)) dG_paidFrom_43 ?_
        refine lv_iload_n hx hb dG_paidFrom_44 rfl (lv_at hl 4 rfl) ?_
        refine lv_icmp_ne (tgt := 60) hx hb dG_paidFrom_45 (by decide) (fun c_45 => ?_) (fun c_45 => ?_)
        · refine lv_aload_n hx hb dG_paidFrom_60 rfl (lv_at hl 2 rfl) ?_
          refine ka_get (ci := 1) (C := RG) (T := TG) (N := 5) hx hb hts inG hown hK hP (q := 27) hX.2.2.2.2.2.2.2.2.2.1 rfl 2 (by decide) (hts _ tw_82) (fun _ h9 => h9) rfl dG_paidFrom_61 ?_
          refine lv_iload hx hb dG_paidFrom_64 (lv_at hl 0 rfl) ?_
          refine ka_iald hx hb hK hP 0 (q := 30) hX.2.2.2.2.2.2.2.2.2.2.2.2.1 rfl (by first | assumption | exact vp_in_nI (by omega) (by omega)) dG_paidFrom_66 ?_
          refine lv_iload_n hx hb dG_paidFrom_67 rfl (lv_at hl 5 rfl) ?_
          refine lv_icmp_ne (tgt := 105) hx hb dG_paidFrom_68 (by decide) (fun c => absurd c_23 c) (fun _ => ?_)
          refine lv_aload_n hx hb dG_paidFrom_71 rfl (lv_at hl 2 rfl) ?_
          refine ka_get (ci := 1) (C := RG) (T := TG) (N := 5) hx hb hts inG hown hK hP (q := 27) hX.2.2.2.2.2.2.2.2.2.1 rfl 0 (by decide) (hts _ tw_78) (fun _ h9 => h9) rfl dG_paidFrom_72 ?_
          refine lv_iload hx hb dG_paidFrom_75 (lv_at hl 0 rfl) ?_
          refine ka_iald hx hb hK hP 0 (q := 28) hX.2.2.2.2.2.2.2.2.2.2.1 rfl (by first | assumption | exact vp_in_nI (by omega) (by omega)) dG_paidFrom_77 ?_
          refine lv_iload_n hx hb dG_paidFrom_78 rfl (lv_at hl 4 rfl) ?_
          refine lv_icmp_ne (tgt := 105) hx hb dG_paidFrom_79 (by decide) (fun c_79 => ?_) (fun c_79 => ?_)
          · refine lv_iinc (v := nI (k + 1)) (lv' := [(6, .int (nI (k + 1))), (4, .long (v)), (0, .ref (d 27)), (1, .int (p)), (2, .int (q)), (3, .int (mo))]) hx hb dG_paidFrom_105 hl (k := 0) rfl (nI_add k 1) (by decide) rfl (fun ls hl => ?_)
            refine lv_goto (tgt := 6) hx hb dG_paidFrom_108 (by decide) ?_
            exact ih n (k + 1, v) ls (by omega) ⟨by omega, by omega, by rw [← hE, f_G_paidFrom_l_s, if_neg c_12, if_pos c_23, if_pos c_34, if_neg c_45, if_neg c_79], lv_sub hl [0, 1, 2, 3, 4, 5] rfl⟩
          · refine lv_aload_n hx hb dG_paidFrom_82 rfl (lv_at hl 2 rfl) ?_
            refine ka_get (ci := 1) (C := RG) (T := TG) (N := 5) hx hb hts inG hown hK hP (q := 27) hX.2.2.2.2.2.2.2.2.2.1 rfl 1 (by decide) (hts _ tw_80) (fun _ h9 => h9) rfl dG_paidFrom_83 ?_
            refine lv_iload hx hb dG_paidFrom_86 (lv_at hl 0 rfl) ?_
            refine ka_iald hx hb hK hP 0 (q := 29) hX.2.2.2.2.2.2.2.2.2.2.2.1 rfl (by first | assumption | exact vp_in_nI (by omega) (by omega)) dG_paidFrom_88 ?_
            refine lv_iload_n hx hb dG_paidFrom_89 rfl (lv_at hl 3 rfl) ?_
            refine lv_icmp_ne (tgt := 105) hx hb dG_paidFrom_90 (by decide) (fun c_90 => ?_) (fun c_90 => ?_)
            · refine lv_iinc (v := nI (k + 1)) (lv' := [(6, .int (nI (k + 1))), (4, .long (v)), (0, .ref (d 27)), (1, .int (p)), (2, .int (q)), (3, .int (mo))]) hx hb dG_paidFrom_105 hl (k := 0) rfl (nI_add k 1) (by decide) rfl (fun ls hl => ?_)
              refine lv_goto (tgt := 6) hx hb dG_paidFrom_108 (by decide) ?_
              exact ih n (k + 1, v) ls (by omega) ⟨by omega, by omega, by rw [← hE, f_G_paidFrom_l_s, if_neg c_12, if_pos c_23, if_pos c_34, if_neg c_45, if_pos c_79, if_neg c_90], lv_sub hl [0, 1, 2, 3, 4, 5] rfl⟩
            · refine lv_lload hx hb dG_paidFrom_93 (lv_at hl 1 rfl) ?_
              refine lv_aload_n hx hb dG_paidFrom_95 rfl (lv_at hl 2 rfl) ?_
              refine ka_get (ci := 1) (C := RG) (T := TG) (N := 5) hx hb hts inG hown hK hP (q := 27) hX.2.2.2.2.2.2.2.2.2.1 rfl 3 (by decide) (hts _ tw_84) (fun _ h9 => h9) rfl dG_paidFrom_96 ?_
              refine lv_iload hx hb dG_paidFrom_99 (lv_at hl 0 rfl) ?_
              refine ka_lald hx hb hK hP 1 (q := 31) hX.2.2.2.2.2.2.2.2.2.2.2.2.2.1 rfl (by first | assumption | exact vp_in_nI (by omega) (by omega)) dG_paidFrom_101 ?_
              refine lv_lsub hx hb dG_paidFrom_102 ?_
              refine lv_lstore (lv' := [(4, .long (v - ((x.2.2.2.2.1 3) (nI k).toNatClampNeg))), (6, .int (nI k)), (0, .ref (d 27)), (1, .int (p)), (2, .int (q)), (3, .int (mo))]) hx hb dG_paidFrom_103 hl (by decide) rfl (fun ls hl => ?_)
              refine lv_iinc (v := nI (k + 1)) (lv' := [(6, .int (nI (k + 1))), (4, .long (v - ((x.2.2.2.2.1 3) (nI k).toNatClampNeg))), (0, .ref (d 27)), (1, .int (p)), (2, .int (q)), (3, .int (mo))]) hx hb dG_paidFrom_105 hl (k := 1) rfl (nI_add k 1) (by decide) rfl (fun ls hl => ?_)
              refine lv_goto (tgt := 6) hx hb dG_paidFrom_108 (by decide) ?_
              exact ih n (k + 1, v - ((x.2.2.2.2.1 3) (nI k).toNatClampNeg)) ls (by omega) ⟨by omega, by omega, by rw [← hE, f_G_paidFrom_l_s, if_neg c_12, if_pos c_23, if_pos c_34, if_neg c_45, if_pos c_79, if_pos c_90], lv_sub hl [0, 1, 2, 3, 4, 5] rfl⟩
        · refine lv_lload hx hb dG_paidFrom_48 (lv_at hl 1 rfl) ?_
          refine lv_aload_n hx hb dG_paidFrom_50 rfl (lv_at hl 2 rfl) ?_
          refine ka_get (ci := 1) (C := RG) (T := TG) (N := 5) hx hb hts inG hown hK hP (q := 27) hX.2.2.2.2.2.2.2.2.2.1 rfl 3 (by decide) (hts _ tw_84) (fun _ h9 => h9) rfl dG_paidFrom_51 ?_
          refine lv_iload hx hb dG_paidFrom_54 (lv_at hl 0 rfl) ?_
          refine ka_lald hx hb hK hP 1 (q := 31) hX.2.2.2.2.2.2.2.2.2.2.2.2.2.1 rfl (by first | assumption | exact vp_in_nI (by omega) (by omega)) dG_paidFrom_56 ?_
          refine lv_ladd hx hb dG_paidFrom_57 ?_
          refine lv_lstore (lv' := [(4, .long (v + ((x.2.2.2.2.1 3) (nI k).toNatClampNeg))), (6, .int (nI k)), (0, .ref (d 27)), (1, .int (p)), (2, .int (q)), (3, .int (mo))]) hx hb dG_paidFrom_58 hl (by decide) rfl (fun ls hl => ?_)
          refine lv_aload_n hx hb dG_paidFrom_60 rfl (lv_at hl 2 rfl) ?_
          refine ka_get (ci := 1) (C := RG) (T := TG) (N := 5) hx hb hts inG hown hK hP (q := 27) hX.2.2.2.2.2.2.2.2.2.1 rfl 2 (by decide) (hts _ tw_82) (fun _ h9 => h9) rfl dG_paidFrom_61 ?_
          refine lv_iload hx hb dG_paidFrom_64 (lv_at hl 1 rfl) ?_
          refine ka_iald hx hb hK hP 0 (q := 30) hX.2.2.2.2.2.2.2.2.2.2.2.2.1 rfl (by first | assumption | exact vp_in_nI (by omega) (by omega)) dG_paidFrom_66 ?_
          refine lv_iload_n hx hb dG_paidFrom_67 rfl (lv_at hl 5 rfl) ?_
          refine lv_icmp_ne (tgt := 105) hx hb dG_paidFrom_68 (by decide) (fun c => absurd c_23 c) (fun _ => ?_)
          refine lv_aload_n hx hb dG_paidFrom_71 rfl (lv_at hl 2 rfl) ?_
          refine ka_get (ci := 1) (C := RG) (T := TG) (N := 5) hx hb hts inG hown hK hP (q := 27) hX.2.2.2.2.2.2.2.2.2.1 rfl 0 (by decide) (hts _ tw_78) (fun _ h9 => h9) rfl dG_paidFrom_72 ?_
          refine lv_iload hx hb dG_paidFrom_75 (lv_at hl 1 rfl) ?_
          refine ka_iald hx hb hK hP 0 (q := 28) hX.2.2.2.2.2.2.2.2.2.2.1 rfl (by first | assumption | exact vp_in_nI (by omega) (by omega)) dG_paidFrom_77 ?_
          refine lv_iload_n hx hb dG_paidFrom_78 rfl (lv_at hl 4 rfl) ?_
          refine lv_icmp_ne (tgt := 105) hx hb dG_paidFrom_79 (by decide) (fun c_79 => ?_) (fun c_79 => ?_)
          · refine lv_iinc (v := nI (k + 1)) (lv' := [(6, .int (nI (k + 1))), (4, .long (v + ((x.2.2.2.2.1 3) (nI k).toNatClampNeg))), (0, .ref (d 27)), (1, .int (p)), (2, .int (q)), (3, .int (mo))]) hx hb dG_paidFrom_105 hl (k := 1) rfl (nI_add k 1) (by decide) rfl (fun ls hl => ?_)
            refine lv_goto (tgt := 6) hx hb dG_paidFrom_108 (by decide) ?_
            exact ih n (k + 1, v + ((x.2.2.2.2.1 3) (nI k).toNatClampNeg)) ls (by omega) ⟨by omega, by omega, by rw [← hE, f_G_paidFrom_l_s, if_neg c_12, if_pos c_23, if_pos c_34, if_pos c_45, if_neg c_79], lv_sub hl [0, 1, 2, 3, 4, 5] rfl⟩
          · refine lv_aload_n hx hb dG_paidFrom_82 rfl (lv_at hl 2 rfl) ?_
            refine ka_get (ci := 1) (C := RG) (T := TG) (N := 5) hx hb hts inG hown hK hP (q := 27) hX.2.2.2.2.2.2.2.2.2.1 rfl 1 (by decide) (hts _ tw_80) (fun _ h9 => h9) rfl dG_paidFrom_83 ?_
            refine lv_iload hx hb dG_paidFrom_86 (lv_at hl 1 rfl) ?_
            refine ka_iald hx hb hK hP 0 (q := 29) hX.2.2.2.2.2.2.2.2.2.2.2.1 rfl (by first | assumption | exact vp_in_nI (by omega) (by omega)) dG_paidFrom_88 ?_
            refine lv_iload_n hx hb dG_paidFrom_89 rfl (lv_at hl 3 rfl) ?_
            refine lv_icmp_ne (tgt := 105) hx hb dG_paidFrom_90 (by decide) (fun c_90 => ?_) (fun c_90 => ?_)
            · refine lv_iinc (v := nI (k + 1)) (lv' := [(6, .int (nI (k + 1))), (4, .long (v + ((x.2.2.2.2.1 3) (nI k).toNatClampNeg))), (0, .ref (d 27)), (1, .int (p)), (2, .int (q)), (3, .int (mo))]) hx hb dG_paidFrom_105 hl (k := 1) rfl (nI_add k 1) (by decide) rfl (fun ls hl => ?_)
              refine lv_goto (tgt := 6) hx hb dG_paidFrom_108 (by decide) ?_
              exact ih n (k + 1, v + ((x.2.2.2.2.1 3) (nI k).toNatClampNeg)) ls (by omega) ⟨by omega, by omega, by rw [← hE, f_G_paidFrom_l_s, if_neg c_12, if_pos c_23, if_pos c_34, if_pos c_45, if_pos c_79, if_neg c_90], lv_sub hl [0, 1, 2, 3, 4, 5] rfl⟩
            · refine lv_lload hx hb dG_paidFrom_93 (lv_at hl 0 rfl) ?_
              refine lv_aload_n hx hb dG_paidFrom_95 rfl (lv_at hl 2 rfl) ?_
              refine ka_get (ci := 1) (C := RG) (T := TG) (N := 5) hx hb hts inG hown hK hP (q := 27) hX.2.2.2.2.2.2.2.2.2.1 rfl 3 (by decide) (hts _ tw_84) (fun _ h9 => h9) rfl dG_paidFrom_96 ?_
              refine lv_iload hx hb dG_paidFrom_99 (lv_at hl 1 rfl) ?_
              refine ka_lald hx hb hK hP 1 (q := 31) hX.2.2.2.2.2.2.2.2.2.2.2.2.2.1 rfl (by first | assumption | exact vp_in_nI (by omega) (by omega)) dG_paidFrom_101 ?_
              refine lv_lsub hx hb dG_paidFrom_102 ?_
              refine lv_lstore (lv' := [(4, .long ((v + ((x.2.2.2.2.1 3) (nI k).toNatClampNeg)) - ((x.2.2.2.2.1 3) (nI k).toNatClampNeg))), (6, .int (nI k)), (0, .ref (d 27)), (1, .int (p)), (2, .int (q)), (3, .int (mo))]) hx hb dG_paidFrom_103 hl (by decide) rfl (fun ls hl => ?_)
              refine lv_iinc (v := nI (k + 1)) (lv' := [(6, .int (nI (k + 1))), (4, .long ((v + ((x.2.2.2.2.1 3) (nI k).toNatClampNeg)) - ((x.2.2.2.2.1 3) (nI k).toNatClampNeg))), (0, .ref (d 27)), (1, .int (p)), (2, .int (q)), (3, .int (mo))]) hx hb dG_paidFrom_105 hl (k := 1) rfl (nI_add k 1) (by decide) rfl (fun ls hl => ?_)
              refine lv_goto (tgt := 6) hx hb dG_paidFrom_108 (by decide) ?_
              exact ih n (k + 1, (v + ((x.2.2.2.2.1 3) (nI k).toNatClampNeg)) - ((x.2.2.2.2.1 3) (nI k).toNatClampNeg)) ls (by omega) ⟨by omega, by omega, by rw [← hE, f_G_paidFrom_l_s, if_neg c_12, if_pos c_23, if_pos c_34, if_pos c_45, if_pos c_79, if_pos c_90], lv_sub hl [0, 1, 2, 3, 4, 5] rfl⟩
