theorem dM_isAmount_0 : decode prog_6_method_12_code 0 = .ok (.lload_n 0, 1) := by decide +kernel
theorem dM_isAmount_1 : decode prog_6_method_12_code 1 = .ok (.lconst 1, 1) := by decide +kernel
theorem dM_isAmount_2 : decode prog_6_method_12_code 2 = .ok (.lcmp, 1) := by decide +kernel
theorem dM_isAmount_3 : decode prog_6_method_12_code 3 = .ok (.ifCond .lt 15, 3) := by decide +kernel
theorem dM_isAmount_6 : decode prog_6_method_12_code 6 = .ok (.lload_n 0, 1) := by decide +kernel
theorem dM_isAmount_7 : decode prog_6_method_12_code 7 = .ok (.ldc2_w 107, 3) := by decide +kernel
theorem dM_isAmount_10 : decode prog_6_method_12_code 10 = .ok (.lcmp, 1) := by decide +kernel
theorem dM_isAmount_11 : decode prog_6_method_12_code 11 = .ok (.ifCond .gt 7, 3) := by decide +kernel
theorem dM_isAmount_14 : decode prog_6_method_12_code 14 = .ok (.iconst 1, 1) := by decide +kernel
theorem dM_isAmount_15 : decode prog_6_method_12_code 15 = .ok (.goto 4, 3) := by decide +kernel
theorem dM_isAmount_18 : decode prog_6_method_12_code 18 = .ok (.iconst 0, 1) := by decide +kernel
theorem dM_isAmount_19 : decode prog_6_method_12_code 19 = .ok (.ireturn, 1) := by decide +kernel
def f_M_isAmount (v : Int64) : Int32 := if v < 1 then 0 else (if 999999999999999 < v then 0 else 1)
theorem b_M_isAmount (v : Int64) : f_M_isAmount v = 0 ∨ f_M_isAmount v = 1 := by
  unfold f_M_isAmount
  repeat' (first | split | exact Or.inl rfl | exact Or.inr rfl)
set_option maxHeartbeats 4000000 in
set_option maxRecDepth 100000 in
theorem c_M_isAmount (l : Launch) (D : va_G) (cI cL cQ : ClassId) (d : Nat → Nat) (κ : Nat → Option va_E) (sz : Nat) (v : Int64)  : Met l yM_isAmount wM_isAmount { frames := 0, cells := 0, slots := 0, locals := 0 } (va_Pc [.long (v)] (kC D vCl (kT cI cL cQ) d κ sz)) (vp_Si (fun r => r = f_M_isAmount v)) 0 0 (fun _ => False) := by
  refine kMet (by decide) (Nat.le_of_ble_eq_true rfl) ?_
  intro p0 e0 s0 m0 below0 meth0 c0 hx hb hr hml hown hlocks hin hts hsz hP hK ls hl
  have hl : lv_has ls 2 [(0, .long (v))] := hl
  refine lv_lload_n hx hb dM_isAmount_0 rfl (lv_at hl 0 rfl) ?_
  refine lv_lconst (v := 1) hx hb dM_isAmount_1 (by decide) ?_
  refine kl_lt (tgt := 18) hx hb dM_isAmount_2 dM_isAmount_3 (by decide) (fun c_2 => ?_) (fun c_2 => ?_)
  · refine lv_iconst (v := 0) hx hb dM_isAmount_18 (by decide) ?_
    exact W.zret (v := 0) hx hb hr k_nar0 (fun t ht hW => ⟨_, rfl, by rw [f_M_isAmount, if_pos c_2], ht⟩) (fun q h => by cases h) dM_isAmount_19
  · refine lv_lload_n hx hb dM_isAmount_6 rfl (lv_at hl 0 rfl) ?_
    refine lv_ldc2 (v := 999999999999999) hx hb hown (hts _ tw_490) dM_isAmount_7 ?_
    refine kl_gt (tgt := 18) hx hb dM_isAmount_10 dM_isAmount_11 (by decide) (fun c_10 => ?_) (fun c_10 => ?_)
    · refine lv_iconst (v := 0) hx hb dM_isAmount_18 (by decide) ?_
      exact W.zret (v := 0) hx hb hr k_nar0 (fun t ht hW => ⟨_, rfl, by rw [f_M_isAmount, if_neg c_2, if_pos c_10], ht⟩) (fun q h => by cases h) dM_isAmount_19
    · refine lv_iconst (v := 1) hx hb dM_isAmount_14 (by decide) ?_
      refine lv_goto (tgt := 19) hx hb dM_isAmount_15 (by decide) ?_
      exact W.zret (v := 1) hx hb hr k_nar1 (fun t ht hW => ⟨_, rfl, by rw [f_M_isAmount, if_neg c_2, if_neg c_10], ht⟩) (fun q h => by cases h) dM_isAmount_19

theorem dM_isPrice_0 : decode prog_6_method_18_code 0 = .ok (.lload_n 0, 1) := by decide +kernel
theorem dM_isPrice_1 : decode prog_6_method_18_code 1 = .ok (.lconst 0, 1) := by decide +kernel
theorem dM_isPrice_2 : decode prog_6_method_18_code 2 = .ok (.lcmp, 1) := by decide +kernel
theorem dM_isPrice_3 : decode prog_6_method_18_code 3 = .ok (.ifCond .lt 25, 3) := by decide +kernel
theorem dM_isPrice_6 : decode prog_6_method_18_code 6 = .ok (.lload_n 0, 1) := by decide +kernel
theorem dM_isPrice_7 : decode prog_6_method_18_code 7 = .ok (.ldc2_w 107, 3) := by decide +kernel
theorem dM_isPrice_10 : decode prog_6_method_18_code 10 = .ok (.lcmp, 1) := by decide +kernel
theorem dM_isPrice_11 : decode prog_6_method_18_code 11 = .ok (.ifCond .gt 17, 3) := by decide +kernel
theorem dM_isPrice_14 : decode prog_6_method_18_code 14 = .ok (.iload_n 2, 1) := by decide +kernel
theorem dM_isPrice_15 : decode prog_6_method_18_code 15 = .ok (.ifCond .lt 13, 3) := by decide +kernel
theorem dM_isPrice_18 : decode prog_6_method_18_code 18 = .ok (.iload_n 2, 1) := by decide +kernel
theorem dM_isPrice_19 : decode prog_6_method_18_code 19 = .ok (.bipush 99, 2) := by decide +kernel
theorem dM_isPrice_21 : decode prog_6_method_18_code 21 = .ok (.if_icmp .gt 7, 3) := by decide +kernel
theorem dM_isPrice_24 : decode prog_6_method_18_code 24 = .ok (.iconst 1, 1) := by decide +kernel
theorem dM_isPrice_25 : decode prog_6_method_18_code 25 = .ok (.goto 4, 3) := by decide +kernel
theorem dM_isPrice_28 : decode prog_6_method_18_code 28 = .ok (.iconst 0, 1) := by decide +kernel
theorem dM_isPrice_29 : decode prog_6_method_18_code 29 = .ok (.ireturn, 1) := by decide +kernel
def f_M_isPrice (each : Int64) (cut : Int32) : Int32 := if each < 0 then 0 else (if 999999999999999 < each then 0 else (if cut < 0 then 0 else (if 99 < cut then 0 else 1)))
theorem b_M_isPrice (each : Int64) (cut : Int32) : f_M_isPrice each cut = 0 ∨ f_M_isPrice each cut = 1 := by
  unfold f_M_isPrice
  repeat' (first | split | exact Or.inl rfl | exact Or.inr rfl)
set_option maxHeartbeats 4000000 in
set_option maxRecDepth 100000 in
theorem c_M_isPrice (l : Launch) (D : va_G) (cI cL cQ : ClassId) (d : Nat → Nat) (κ : Nat → Option va_E) (sz : Nat) (each : Int64) (cut : Int32)  : Met l yM_isPrice wM_isPrice { frames := 0, cells := 0, slots := 0, locals := 0 } (va_Pc [.long (each), .int (cut)] (kC D vCl (kT cI cL cQ) d κ sz)) (vp_Si (fun r => r = f_M_isPrice each cut)) 0 0 (fun _ => False) := by
  refine kMet (by decide) (Nat.le_of_ble_eq_true rfl) ?_
  intro p0 e0 s0 m0 below0 meth0 c0 hx hb hr hml hown hlocks hin hts hsz hP hK ls hl
  have hl : lv_has ls 3 [(0, .long (each)), (2, .int (cut))] := hl
  refine lv_lload_n hx hb dM_isPrice_0 rfl (lv_at hl 0 rfl) ?_
  refine lv_lconst (v := 0) hx hb dM_isPrice_1 (by decide) ?_
  refine kl_lt (tgt := 28) hx hb dM_isPrice_2 dM_isPrice_3 (by decide) (fun c_2 => ?_) (fun c_2 => ?_)
  · refine lv_iconst (v := 0) hx hb dM_isPrice_28 (by decide) ?_
    exact W.zret (v := 0) hx hb hr k_nar0 (fun t ht hW => ⟨_, rfl, by rw [f_M_isPrice, if_pos c_2], ht⟩) (fun q h => by cases h) dM_isPrice_29
  · refine lv_lload_n hx hb dM_isPrice_6 rfl (lv_at hl 0 rfl) ?_
    refine lv_ldc2 (v := 999999999999999) hx hb hown (hts _ tw_490) dM_isPrice_7 ?_
    refine kl_gt (tgt := 28) hx hb dM_isPrice_10 dM_isPrice_11 (by decide) (fun c_10 => ?_) (fun c_10 => ?_)
    · refine lv_iconst (v := 0) hx hb dM_isPrice_28 (by decide) ?_
      exact W.zret (v := 0) hx hb hr k_nar0 (fun t ht hW => ⟨_, rfl, by rw [f_M_isPrice, if_neg c_2, if_pos c_10], ht⟩) (fun q h => by cases h) dM_isPrice_29
    · refine lv_iload_n hx hb dM_isPrice_14 rfl (lv_at hl 1 rfl) ?_
      refine lv_if_lt (tgt := 28) hx hb dM_isPrice_15 (by decide) (fun c_15 => ?_) (fun c_15 => ?_)
      · refine lv_iconst (v := 0) hx hb dM_isPrice_28 (by decide) ?_
        exact W.zret (v := 0) hx hb hr k_nar0 (fun t ht hW => ⟨_, rfl, by rw [f_M_isPrice, if_neg c_2, if_neg c_10, if_pos c_15], ht⟩) (fun q h => by cases h) dM_isPrice_29
      · refine lv_iload_n hx hb dM_isPrice_18 rfl (lv_at hl 1 rfl) ?_
        refine lv_bipush (v := 99) hx hb dM_isPrice_19 (by decide) ?_
        refine lv_icmp_gt (tgt := 28) hx hb dM_isPrice_21 (by decide) (fun c_21 => ?_) (fun c_21 => ?_)
        · refine lv_iconst (v := 0) hx hb dM_isPrice_28 (by decide) ?_
          exact W.zret (v := 0) hx hb hr k_nar0 (fun t ht hW => ⟨_, rfl, by rw [f_M_isPrice, if_neg c_2, if_neg c_10, if_neg c_15, if_pos c_21], ht⟩) (fun q h => by cases h) dM_isPrice_29
        · refine lv_iconst (v := 1) hx hb dM_isPrice_24 (by decide) ?_
          refine lv_goto (tgt := 29) hx hb dM_isPrice_25 (by decide) ?_
          exact W.zret (v := 1) hx hb hr k_nar1 (fun t ht hW => ⟨_, rfl, by rw [f_M_isPrice, if_neg c_2, if_neg c_10, if_neg c_15, if_neg c_21], ht⟩) (fun q h => by cases h) dM_isPrice_29

theorem dM_worth_0 : decode prog_6_method_5_code 0 = .ok (.ldc2_w 81, 3) := by decide +kernel
theorem dM_worth_3 : decode prog_6_method_5_code 3 = .ok (.iload 4, 2) := by decide +kernel
theorem dM_worth_5 : decode prog_6_method_5_code 5 = .ok (.i2l, 1) := by decide +kernel
theorem dM_worth_6 : decode prog_6_method_5_code 6 = .ok (.lsub, 1) := by decide +kernel
theorem dM_worth_7 : decode prog_6_method_5_code 7 = .ok (.lstore 5, 2) := by decide +kernel
theorem dM_worth_9 : decode prog_6_method_5_code 9 = .ok (.lload_n 0, 1) := by decide +kernel
theorem dM_worth_10 : decode prog_6_method_5_code 10 = .ok (.ldc2_w 81, 3) := by decide +kernel
theorem dM_worth_13 : decode prog_6_method_5_code 13 = .ok (.ldiv, 1) := by decide +kernel
theorem dM_worth_14 : decode prog_6_method_5_code 14 = .ok (.lstore 7, 2) := by decide +kernel
theorem dM_worth_16 : decode prog_6_method_5_code 16 = .ok (.lload_n 0, 1) := by decide +kernel
theorem dM_worth_17 : decode prog_6_method_5_code 17 = .ok (.ldc2_w 81, 3) := by decide +kernel
theorem dM_worth_20 : decode prog_6_method_5_code 20 = .ok (.lrem, 1) := by decide +kernel
theorem dM_worth_21 : decode prog_6_method_5_code 21 = .ok (.lload 5, 2) := by decide +kernel
theorem dM_worth_23 : decode prog_6_method_5_code 23 = .ok (.lmul, 1) := by decide +kernel
theorem dM_worth_24 : decode prog_6_method_5_code 24 = .ok (.lstore 9, 2) := by decide +kernel
theorem dM_worth_26 : decode prog_6_method_5_code 26 = .ok (.lload_n 2, 1) := by decide +kernel
theorem dM_worth_27 : decode prog_6_method_5_code 27 = .ok (.lconst 0, 1) := by decide +kernel
theorem dM_worth_28 : decode prog_6_method_5_code 28 = .ok (.lcmp, 1) := by decide +kernel
theorem dM_worth_29 : decode prog_6_method_5_code 29 = .ok (.ifCond .le 28, 3) := by decide +kernel
theorem dM_worth_32 : decode prog_6_method_5_code 32 = .ok (.lload 5, 2) := by decide +kernel
theorem dM_worth_34 : decode prog_6_method_5_code 34 = .ok (.lconst 0, 1) := by decide +kernel
theorem dM_worth_35 : decode prog_6_method_5_code 35 = .ok (.lcmp, 1) := by decide +kernel
theorem dM_worth_36 : decode prog_6_method_5_code 36 = .ok (.ifCond .le 21, 3) := by decide +kernel
theorem dM_worth_39 : decode prog_6_method_5_code 39 = .ok (.lload 7, 2) := by decide +kernel
theorem dM_worth_41 : decode prog_6_method_5_code 41 = .ok (.ldc2_w 83, 3) := by decide +kernel
theorem dM_worth_44 : decode prog_6_method_5_code 44 = .ok (.lload_n 2, 1) := by decide +kernel
theorem dM_worth_45 : decode prog_6_method_5_code 45 = .ok (.lload 5, 2) := by decide +kernel
theorem dM_worth_47 : decode prog_6_method_5_code 47 = .ok (.lmul, 1) := by decide +kernel
theorem dM_worth_48 : decode prog_6_method_5_code 48 = .ok (.ldiv, 1) := by decide +kernel
theorem dM_worth_49 : decode prog_6_method_5_code 49 = .ok (.lcmp, 1) := by decide +kernel
theorem dM_worth_50 : decode prog_6_method_5_code 50 = .ok (.ifCond .le 7, 3) := by decide +kernel
theorem dM_worth_53 : decode prog_6_method_5_code 53 = .ok (.ldc2_w 83, 3) := by decide +kernel
theorem dM_worth_56 : decode prog_6_method_5_code 56 = .ok (.lreturn, 1) := by decide +kernel
theorem dM_worth_57 : decode prog_6_method_5_code 57 = .ok (.lload 7, 2) := by decide +kernel
theorem dM_worth_59 : decode prog_6_method_5_code 59 = .ok (.lload_n 2, 1) := by decide +kernel
theorem dM_worth_60 : decode prog_6_method_5_code 60 = .ok (.lload 5, 2) := by decide +kernel
theorem dM_worth_62 : decode prog_6_method_5_code 62 = .ok (.lmul, 1) := by decide +kernel
theorem dM_worth_63 : decode prog_6_method_5_code 63 = .ok (.lmul, 1) := by decide +kernel
theorem dM_worth_64 : decode prog_6_method_5_code 64 = .ok (.lload 9, 2) := by decide +kernel
theorem dM_worth_66 : decode prog_6_method_5_code 66 = .ok (.lload_n 2, 1) := by decide +kernel
theorem dM_worth_67 : decode prog_6_method_5_code 67 = .ok (.ldc2_w 81, 3) := by decide +kernel
theorem dM_worth_70 : decode prog_6_method_5_code 70 = .ok (.ldiv, 1) := by decide +kernel
theorem dM_worth_71 : decode prog_6_method_5_code 71 = .ok (.lmul, 1) := by decide +kernel
theorem dM_worth_72 : decode prog_6_method_5_code 72 = .ok (.ladd, 1) := by decide +kernel
theorem dM_worth_73 : decode prog_6_method_5_code 73 = .ok (.lload 9, 2) := by decide +kernel
theorem dM_worth_75 : decode prog_6_method_5_code 75 = .ok (.lload_n 2, 1) := by decide +kernel
theorem dM_worth_76 : decode prog_6_method_5_code 76 = .ok (.ldc2_w 81, 3) := by decide +kernel
theorem dM_worth_79 : decode prog_6_method_5_code 79 = .ok (.lrem, 1) := by decide +kernel
theorem dM_worth_80 : decode prog_6_method_5_code 80 = .ok (.lmul, 1) := by decide +kernel
theorem dM_worth_81 : decode prog_6_method_5_code 81 = .ok (.ldc2_w 81, 3) := by decide +kernel
theorem dM_worth_84 : decode prog_6_method_5_code 84 = .ok (.ldiv, 1) := by decide +kernel
theorem dM_worth_85 : decode prog_6_method_5_code 85 = .ok (.ladd, 1) := by decide +kernel
theorem dM_worth_86 : decode prog_6_method_5_code 86 = .ok (.lstore 11, 2) := by decide +kernel
theorem dM_worth_88 : decode prog_6_method_5_code 88 = .ok (.lload 11, 2) := by decide +kernel
theorem dM_worth_90 : decode prog_6_method_5_code 90 = .ok (.ldc2_w 83, 3) := by decide +kernel
theorem dM_worth_93 : decode prog_6_method_5_code 93 = .ok (.lcmp, 1) := by decide +kernel
theorem dM_worth_94 : decode prog_6_method_5_code 94 = .ok (.ifCond .le 9, 3) := by decide +kernel
theorem dM_worth_97 : decode prog_6_method_5_code 97 = .ok (.ldc2_w 83, 3) := by decide +kernel
theorem dM_worth_100 : decode prog_6_method_5_code 100 = .ok (.goto 5, 3) := by decide +kernel
theorem dM_worth_103 : decode prog_6_method_5_code 103 = .ok (.lload 11, 2) := by decide +kernel
theorem dM_worth_105 : decode prog_6_method_5_code 105 = .ok (.lreturn, 1) := by decide +kernel
def f_M_worth (many : Int64) (each : Int64) (cut : Int32) : Int64 := if 0 < each then (if 0 < (100 - ((cut).toInt64)) then (if (4100000000000000000 / (each * (100 - ((cut).toInt64)))) < (many / 100) then 4100000000000000000 else (if 4100000000000000000 < ((((many / 100) * (each * (100 - ((cut).toInt64)))) + (((many - many / 100 * 100) * (100 - ((cut).toInt64))) * (each / 100))) + ((((many - many / 100 * 100) * (100 - ((cut).toInt64))) * (each - each / 100 * 100)) / 100)) then 4100000000000000000 else ((((many / 100) * (each * (100 - ((cut).toInt64)))) + (((many - many / 100 * 100) * (100 - ((cut).toInt64))) * (each / 100))) + ((((many - many / 100 * 100) * (100 - ((cut).toInt64))) * (each - each / 100 * 100)) / 100)))) else (if 4100000000000000000 < ((((many / 100) * (each * (100 - ((cut).toInt64)))) + (((many - many / 100 * 100) * (100 - ((cut).toInt64))) * (each / 100))) + ((((many - many / 100 * 100) * (100 - ((cut).toInt64))) * (each - each / 100 * 100)) / 100)) then 4100000000000000000 else ((((many / 100) * (each * (100 - ((cut).toInt64)))) + (((many - many / 100 * 100) * (100 - ((cut).toInt64))) * (each / 100))) + ((((many - many / 100 * 100) * (100 - ((cut).toInt64))) * (each - each / 100 * 100)) / 100)))) else (if 4100000000000000000 < ((((many / 100) * (each * (100 - ((cut).toInt64)))) + (((many - many / 100 * 100) * (100 - ((cut).toInt64))) * (each / 100))) + ((((many - many / 100 * 100) * (100 - ((cut).toInt64))) * (each - each / 100 * 100)) / 100)) then 4100000000000000000 else ((((many / 100) * (each * (100 - ((cut).toInt64)))) + (((many - many / 100 * 100) * (100 - ((cut).toInt64))) * (each / 100))) + ((((many - many / 100 * 100) * (100 - ((cut).toInt64))) * (each - each / 100 * 100)) / 100)))
set_option maxHeartbeats 4000000 in
set_option maxRecDepth 100000 in
theorem c_M_worth (l : Launch) (D : va_G) (cI cL cQ : ClassId) (d : Nat → Nat) (κ : Nat → Option va_E) (sz : Nat) (many : Int64) (each : Int64) (cut : Int32) (hw : 0 < each → 0 < 100 - cut.toInt64 → ¬ each * (100 - cut.toInt64) = 0) : Met l yM_worth wM_worth { frames := 0, cells := 0, slots := 0, locals := 0 } (va_Pc [.long (many), .long (each), .int (cut)] (kC D vCl (kT cI cL cQ) d κ sz)) (vp_Sl (fun r => r = f_M_worth many each cut)) 0 0 (fun _ => False) := by
  refine kMet (by decide) (Nat.le_of_ble_eq_true rfl) ?_
  intro p0 e0 s0 m0 below0 meth0 c0 hx hb hr hml hown hlocks hin hts hsz hP hK ls hl
  have hl : lv_has ls 13 [(0, .long (many)), (2, .long (each)), (4, .int (cut))] := hl
  refine lv_ldc2 (v := 100) hx hb hown (hts _ tw_518) dM_worth_0 ?_
  refine lv_iload hx hb dM_worth_3 (lv_at hl 2 rfl) ?_
  refine lv_i2l hx hb dM_worth_5 rfl ?_
  refine lv_lsub hx hb dM_worth_6 ?_
  refine lv_lstore (lv' := [(5, .long (100 - ((cut).toInt64))), (0, .long (many)), (2, .long (each)), (4, .int (cut))]) hx hb dM_worth_7 hl (by decide) rfl (fun ls hl => ?_)
  refine lv_lload_n hx hb dM_worth_9 rfl (lv_at hl 1 rfl) ?_
  refine lv_ldc2 (v := 100) hx hb hown (hts _ tw_518) dM_worth_10 ?_
  refine lv_ldiv hx hb dM_worth_13 (by decide) ?_
  refine lv_lstore (lv' := [(7, .long (many / 100)), (5, .long (100 - ((cut).toInt64))), (0, .long (many)), (2, .long (each)), (4, .int (cut))]) hx hb dM_worth_14 hl (by decide) rfl (fun ls hl => ?_)
  refine lv_lload_n hx hb dM_worth_16 rfl (lv_at hl 2 rfl) ?_
  refine lv_ldc2 (v := 100) hx hb hown (hts _ tw_518) dM_worth_17 ?_
  refine lv_lrem hx hb dM_worth_20 (by decide) ?_
  refine lv_lload hx hb dM_worth_21 (lv_at hl 1 rfl) ?_
  refine lv_lmul hx hb dM_worth_23 ?_
  refine lv_lstore (lv' := [(9, .long ((many - many / 100 * 100) * (100 - ((cut).toInt64)))), (7, .long (many / 100)), (5, .long (100 - ((cut).toInt64))), (0, .long (many)), (2, .long (each)), (4, .int (cut))]) hx hb dM_worth_24 hl (by decide) rfl (fun ls hl => ?_)
  refine lv_lload_n hx hb dM_worth_26 rfl (lv_at hl 4 rfl) ?_
  refine lv_lconst (v := 0) hx hb dM_worth_27 (by decide) ?_
  refine kl_le (tgt := 57) hx hb dM_worth_28 dM_worth_29 (by decide) (fun c_28 => ?_) (fun c_28 => ?_)
  · refine lv_lload hx hb dM_worth_57 (lv_at hl 1 rfl) ?_
    refine lv_lload_n hx hb dM_worth_59 rfl (lv_at hl 4 rfl) ?_
    refine lv_lload hx hb dM_worth_60 (lv_at hl 2 rfl) ?_
    refine lv_lmul hx hb dM_worth_62 ?_
    refine lv_lmul hx hb dM_worth_63 ?_
    refine lv_lload hx hb dM_worth_64 (lv_at hl 0 rfl) ?_
    refine lv_lload_n hx hb dM_worth_66 rfl (lv_at hl 4 rfl) ?_
    refine lv_ldc2 (v := 100) hx hb hown (hts _ tw_518) dM_worth_67 ?_
    refine lv_ldiv hx hb dM_worth_70 (by decide) ?_
    refine lv_lmul hx hb dM_worth_71 ?_
    refine lv_ladd hx hb dM_worth_72 ?_
    refine lv_lload hx hb dM_worth_73 (lv_at hl 0 rfl) ?_
    refine lv_lload_n hx hb dM_worth_75 rfl (lv_at hl 4 rfl) ?_
    refine lv_ldc2 (v := 100) hx hb hown (hts _ tw_518) dM_worth_76 ?_
    refine lv_lrem hx hb dM_worth_79 (by decide) ?_
    refine lv_lmul hx hb dM_worth_80 ?_
    refine lv_ldc2 (v := 100) hx hb hown (hts _ tw_518) dM_worth_81 ?_
    refine lv_ldiv hx hb dM_worth_84 (by decide) ?_
    refine lv_ladd hx hb dM_worth_85 ?_
    refine lv_lstore (lv' := [(11, .long ((((many / 100) * (each * (100 - ((cut).toInt64)))) + (((many - many / 100 * 100) * (100 - ((cut).toInt64))) * (each / 100))) + ((((many - many / 100 * 100) * (100 - ((cut).toInt64))) * (each - each / 100 * 100)) / 100))), (9, .long ((many - many / 100 * 100) * (100 - ((cut).toInt64)))), (7, .long (many / 100)), (5, .long (100 - ((cut).toInt64))), (0, .long (many)), (2, .long (each)), (4, .int (cut))]) hx hb dM_worth_86 hl (by decide) rfl (fun ls hl => ?_)
    refine lv_lload hx hb dM_worth_88 (lv_at hl 0 rfl) ?_
    refine lv_ldc2 (v := 4100000000000000000) hx hb hown (hts _ tw_519) dM_worth_90 ?_
    refine kl_le (tgt := 103) hx hb dM_worth_93 dM_worth_94 (by decide) (fun c_93 => ?_) (fun c_93 => ?_)
    · refine lv_lload hx hb dM_worth_103 (lv_at hl 0 rfl) ?_
      exact W.lret (v := (((many / 100) * (each * (100 - ((cut).toInt64)))) + (((many - many / 100 * 100) * (100 - ((cut).toInt64))) * (each / 100))) + ((((many - many / 100 * 100) * (100 - ((cut).toInt64))) * (each - each / 100 * 100)) / 100)) hx hb hr (fun t ht hW => ⟨_, rfl, by rw [f_M_worth, if_neg c_28, if_neg c_93], ht⟩) (fun q h => by cases h) dM_worth_105
    · refine lv_ldc2 (v := 4100000000000000000) hx hb hown (hts _ tw_519) dM_worth_97 ?_
      refine lv_goto (tgt := 105) hx hb dM_worth_100 (by decide) ?_
      exact W.lret (v := 4100000000000000000) hx hb hr (fun t ht hW => ⟨_, rfl, by rw [f_M_worth, if_neg c_28, if_pos c_93], ht⟩) (fun q h => by cases h) dM_worth_105
  · refine lv_lload hx hb dM_worth_32 (lv_at hl 2 rfl) ?_
    refine lv_lconst (v := 0) hx hb dM_worth_34 (by decide) ?_
    refine kl_le (tgt := 57) hx hb dM_worth_35 dM_worth_36 (by decide) (fun c_35 => ?_) (fun c_35 => ?_)
    · refine lv_lload hx hb dM_worth_57 (lv_at hl 1 rfl) ?_
      refine lv_lload_n hx hb dM_worth_59 rfl (lv_at hl 4 rfl) ?_
      refine lv_lload hx hb dM_worth_60 (lv_at hl 2 rfl) ?_
      refine lv_lmul hx hb dM_worth_62 ?_
      refine lv_lmul hx hb dM_worth_63 ?_
      refine lv_lload hx hb dM_worth_64 (lv_at hl 0 rfl) ?_
      refine lv_lload_n hx hb dM_worth_66 rfl (lv_at hl 4 rfl) ?_
      refine lv_ldc2 (v := 100) hx hb hown (hts _ tw_518) dM_worth_67 ?_
      refine lv_ldiv hx hb dM_worth_70 (by decide) ?_
      refine lv_lmul hx hb dM_worth_71 ?_
      refine lv_ladd hx hb dM_worth_72 ?_
      refine lv_lload hx hb dM_worth_73 (lv_at hl 0 rfl) ?_
      refine lv_lload_n hx hb dM_worth_75 rfl (lv_at hl 4 rfl) ?_
      refine lv_ldc2 (v := 100) hx hb hown (hts _ tw_518) dM_worth_76 ?_
      refine lv_lrem hx hb dM_worth_79 (by decide) ?_
      refine lv_lmul hx hb dM_worth_80 ?_
      refine lv_ldc2 (v := 100) hx hb hown (hts _ tw_518) dM_worth_81 ?_
      refine lv_ldiv hx hb dM_worth_84 (by decide) ?_
      refine lv_ladd hx hb dM_worth_85 ?_
      refine lv_lstore (lv' := [(11, .long ((((many / 100) * (each * (100 - ((cut).toInt64)))) + (((many - many / 100 * 100) * (100 - ((cut).toInt64))) * (each / 100))) + ((((many - many / 100 * 100) * (100 - ((cut).toInt64))) * (each - each / 100 * 100)) / 100))), (9, .long ((many - many / 100 * 100) * (100 - ((cut).toInt64)))), (7, .long (many / 100)), (5, .long (100 - ((cut).toInt64))), (0, .long (many)), (2, .long (each)), (4, .int (cut))]) hx hb dM_worth_86 hl (by decide) rfl (fun ls hl => ?_)
      refine lv_lload hx hb dM_worth_88 (lv_at hl 0 rfl) ?_
      refine lv_ldc2 (v := 4100000000000000000) hx hb hown (hts _ tw_519) dM_worth_90 ?_
      refine kl_le (tgt := 103) hx hb dM_worth_93 dM_worth_94 (by decide) (fun c_93 => ?_) (fun c_93 => ?_)
      · refine lv_lload hx hb dM_worth_103 (lv_at hl 0 rfl) ?_
        exact W.lret (v := (((many / 100) * (each * (100 - ((cut).toInt64)))) + (((many - many / 100 * 100) * (100 - ((cut).toInt64))) * (each / 100))) + ((((many - many / 100 * 100) * (100 - ((cut).toInt64))) * (each - each / 100 * 100)) / 100)) hx hb hr (fun t ht hW => ⟨_, rfl, by rw [f_M_worth, if_pos c_28, if_neg c_35, if_neg c_93], ht⟩) (fun q h => by cases h) dM_worth_105
      · refine lv_ldc2 (v := 4100000000000000000) hx hb hown (hts _ tw_519) dM_worth_97 ?_
        refine lv_goto (tgt := 105) hx hb dM_worth_100 (by decide) ?_
        exact W.lret (v := 4100000000000000000) hx hb hr (fun t ht hW => ⟨_, rfl, by rw [f_M_worth, if_pos c_28, if_neg c_35, if_pos c_93], ht⟩) (fun q h => by cases h) dM_worth_105
    · refine lv_lload hx hb dM_worth_39 (lv_at hl 1 rfl) ?_
      refine lv_ldc2 (v := 4100000000000000000) hx hb hown (hts _ tw_519) dM_worth_41 ?_
      refine lv_lload_n hx hb dM_worth_44 rfl (lv_at hl 4 rfl) ?_
      refine lv_lload hx hb dM_worth_45 (lv_at hl 2 rfl) ?_
      refine lv_lmul hx hb dM_worth_47 ?_
      refine lv_ldiv hx hb dM_worth_48 (hw (by assumption) (by assumption)) ?_
      refine kl_le (tgt := 57) hx hb dM_worth_49 dM_worth_50 (by decide) (fun c_49 => ?_) (fun c_49 => ?_)
      · refine lv_lload hx hb dM_worth_57 (lv_at hl 1 rfl) ?_
        refine lv_lload_n hx hb dM_worth_59 rfl (lv_at hl 4 rfl) ?_
        refine lv_lload hx hb dM_worth_60 (lv_at hl 2 rfl) ?_
        refine lv_lmul hx hb dM_worth_62 ?_
        refine lv_lmul hx hb dM_worth_63 ?_
        refine lv_lload hx hb dM_worth_64 (lv_at hl 0 rfl) ?_
        refine lv_lload_n hx hb dM_worth_66 rfl (lv_at hl 4 rfl) ?_
        refine lv_ldc2 (v := 100) hx hb hown (hts _ tw_518) dM_worth_67 ?_
        refine lv_ldiv hx hb dM_worth_70 (by decide) ?_
        refine lv_lmul hx hb dM_worth_71 ?_
        refine lv_ladd hx hb dM_worth_72 ?_
        refine lv_lload hx hb dM_worth_73 (lv_at hl 0 rfl) ?_
        refine lv_lload_n hx hb dM_worth_75 rfl (lv_at hl 4 rfl) ?_
        refine lv_ldc2 (v := 100) hx hb hown (hts _ tw_518) dM_worth_76 ?_
        refine lv_lrem hx hb dM_worth_79 (by decide) ?_
        refine lv_lmul hx hb dM_worth_80 ?_
        refine lv_ldc2 (v := 100) hx hb hown (hts _ tw_518) dM_worth_81 ?_
        refine lv_ldiv hx hb dM_worth_84 (by decide) ?_
        refine lv_ladd hx hb dM_worth_85 ?_
        refine lv_lstore (lv' := [(11, .long ((((many / 100) * (each * (100 - ((cut).toInt64)))) + (((many - many / 100 * 100) * (100 - ((cut).toInt64))) * (each / 100))) + ((((many - many / 100 * 100) * (100 - ((cut).toInt64))) * (each - each / 100 * 100)) / 100))), (9, .long ((many - many / 100 * 100) * (100 - ((cut).toInt64)))), (7, .long (many / 100)), (5, .long (100 - ((cut).toInt64))), (0, .long (many)), (2, .long (each)), (4, .int (cut))]) hx hb dM_worth_86 hl (by decide) rfl (fun ls hl => ?_)
        refine lv_lload hx hb dM_worth_88 (lv_at hl 0 rfl) ?_
        refine lv_ldc2 (v := 4100000000000000000) hx hb hown (hts _ tw_519) dM_worth_90 ?_
        refine kl_le (tgt := 103) hx hb dM_worth_93 dM_worth_94 (by decide) (fun c_93 => ?_) (fun c_93 => ?_)
        · refine lv_lload hx hb dM_worth_103 (lv_at hl 0 rfl) ?_
          exact W.lret (v := (((many / 100) * (each * (100 - ((cut).toInt64)))) + (((many - many / 100 * 100) * (100 - ((cut).toInt64))) * (each / 100))) + ((((many - many / 100 * 100) * (100 - ((cut).toInt64))) * (each - each / 100 * 100)) / 100)) hx hb hr (fun t ht hW => ⟨_, rfl, by rw [f_M_worth, if_pos c_28, if_pos c_35, if_neg c_49, if_neg c_93], ht⟩) (fun q h => by cases h) dM_worth_105
        · refine lv_ldc2 (v := 4100000000000000000) hx hb hown (hts _ tw_519) dM_worth_97 ?_
          refine lv_goto (tgt := 105) hx hb dM_worth_100 (by decide) ?_
          exact W.lret (v := 4100000000000000000) hx hb hr (fun t ht hW => ⟨_, rfl, by rw [f_M_worth, if_pos c_28, if_pos c_35, if_neg c_49, if_pos c_93], ht⟩) (fun q h => by cases h) dM_worth_105
      · refine lv_ldc2 (v := 4100000000000000000) hx hb hown (hts _ tw_519) dM_worth_53 ?_
        exact W.lret (v := 4100000000000000000) hx hb hr (fun t ht hW => ⟨_, rfl, by rw [f_M_worth, if_pos c_28, if_pos c_35, if_pos c_49], ht⟩) (fun q h => by cases h) dM_worth_56

theorem dM_isParticipant_0 : decode prog_6_method_10_code 0 = .ok (.iload_n 1, 1) := by decide +kernel
theorem dM_isParticipant_1 : decode prog_6_method_10_code 1 = .ok (.ifCond .le 15, 3) := by decide +kernel
theorem dM_isParticipant_4 : decode prog_6_method_10_code 4 = .ok (.iload_n 1, 1) := by decide +kernel
theorem dM_isParticipant_5 : decode prog_6_method_10_code 5 = .ok (.aload_n 0, 1) := by decide +kernel
theorem dM_isParticipant_6 : decode prog_6_method_10_code 6 = .ok (.getfield 66, 3) := by decide +kernel
theorem dM_isParticipant_9 : decode prog_6_method_10_code 9 = .ok (.if_icmp .ge 7, 3) := by decide +kernel
theorem dM_isParticipant_12 : decode prog_6_method_10_code 12 = .ok (.iconst 1, 1) := by decide +kernel
theorem dM_isParticipant_13 : decode prog_6_method_10_code 13 = .ok (.goto 4, 3) := by decide +kernel
theorem dM_isParticipant_16 : decode prog_6_method_10_code 16 = .ok (.iconst 0, 1) := by decide +kernel
theorem dM_isParticipant_17 : decode prog_6_method_10_code 17 = .ok (.ireturn, 1) := by decide +kernel
def f_M_isParticipant (m : MS) (p : Int32) : Int32 := if p ≤ 0 then 0 else (if (nI (m.1 0)) ≤ p then 0 else 1)
theorem b_M_isParticipant (m : MS) (p : Int32) : f_M_isParticipant m p = 0 ∨ f_M_isParticipant m p = 1 := by
  unfold f_M_isParticipant
  repeat' (first | split | exact Or.inl rfl | exact Or.inr rfl)
set_option maxHeartbeats 4000000 in
set_option maxRecDepth 100000 in
theorem c_M_isParticipant (l : Launch) (D : va_G) (cI cL cQ : ClassId) (d : Nat → Nat) (κ : Nat → Option va_E) (m : MS) (hm : IsM cI cL d κ m) (hB : MB m) (sz : Nat) (p : Int32)  : Met l yM_isParticipant wM_isParticipant { frames := 0, cells := 0, slots := 0, locals := 0 } (va_Pc [.ref (d 0), .int (p)] (kC D vCl (kT cI cL cQ) d κ sz)) (vp_Si (fun r => r = f_M_isParticipant m p)) 0 0 (fun _ => False) := by
  refine kMet (by decide) (Nat.le_of_ble_eq_true rfl) ?_
  intro p0 e0 s0 m0 below0 meth0 c0 hx hb hr hml hown hlocks hin hts hsz hP hK ls hl
  have hl : lv_has ls 2 [(0, .ref (d 0)), (1, .int (p))] := hl
  have hB9 := hB
  obtain ⟨hb0, hb1, hb2, hb3, hb4, hb5, hb6, hb7, hb8, hb9, hb10⟩ := hB9
  refine lv_iload_n hx hb dM_isParticipant_0 rfl (lv_at hl 1 rfl) ?_
  refine lv_if_le (tgt := 16) hx hb dM_isParticipant_1 (by decide) (fun c_1 => ?_) (fun c_1 => ?_)
  · refine lv_iconst (v := 0) hx hb dM_isParticipant_16 (by decide) ?_
    exact W.zret (v := 0) hx hb hr k_nar0 (fun t ht hW => ⟨_, rfl, by rw [f_M_isParticipant, if_pos c_1], ht⟩) (fun q h => by cases h) dM_isParticipant_17
  · refine lv_iload_n hx hb dM_isParticipant_4 rfl (lv_at hl 1 rfl) ?_
    refine lv_aload_n hx hb dM_isParticipant_5 rfl (lv_at hl 0 rfl) ?_
    refine ka_get (ci := 4) (C := RM) (T := TM) (N := 26) hx hb hts inM hown hK hP (q := 0) hm.1 rfl 0 (by decide) (hts _ tw_384) (fun _ h9 => h9) rfl dM_isParticipant_6 ?_
    refine lv_icmp_ge (tgt := 16) hx hb dM_isParticipant_9 (by decide) (fun c_9 => ?_) (fun c_9 => ?_)
    · refine lv_iconst (v := 0) hx hb dM_isParticipant_16 (by decide) ?_
      exact W.zret (v := 0) hx hb hr k_nar0 (fun t ht hW => ⟨_, rfl, by rw [f_M_isParticipant, if_neg c_1, if_pos c_9], ht⟩) (fun q h => by cases h) dM_isParticipant_17
    · refine lv_iconst (v := 1) hx hb dM_isParticipant_12 (by decide) ?_
      refine lv_goto (tgt := 17) hx hb dM_isParticipant_13 (by decide) ?_
      exact W.zret (v := 1) hx hb hr k_nar1 (fun t ht hW => ⟨_, rfl, by rw [f_M_isParticipant, if_neg c_1, if_neg c_9], ht⟩) (fun q h => by cases h) dM_isParticipant_17

theorem dM_isAsset_0 : decode prog_6_method_11_code 0 = .ok (.iload_n 1, 1) := by decide +kernel
theorem dM_isAsset_1 : decode prog_6_method_11_code 1 = .ok (.ifCond .lt 15, 3) := by decide +kernel
theorem dM_isAsset_4 : decode prog_6_method_11_code 4 = .ok (.iload_n 1, 1) := by decide +kernel
theorem dM_isAsset_5 : decode prog_6_method_11_code 5 = .ok (.aload_n 0, 1) := by decide +kernel
theorem dM_isAsset_6 : decode prog_6_method_11_code 6 = .ok (.getfield 85, 3) := by decide +kernel
theorem dM_isAsset_9 : decode prog_6_method_11_code 9 = .ok (.if_icmp .ge 7, 3) := by decide +kernel
theorem dM_isAsset_12 : decode prog_6_method_11_code 12 = .ok (.iconst 1, 1) := by decide +kernel
theorem dM_isAsset_13 : decode prog_6_method_11_code 13 = .ok (.goto 4, 3) := by decide +kernel
theorem dM_isAsset_16 : decode prog_6_method_11_code 16 = .ok (.iconst 0, 1) := by decide +kernel
theorem dM_isAsset_17 : decode prog_6_method_11_code 17 = .ok (.ireturn, 1) := by decide +kernel
def f_M_isAsset (m : MS) (a : Int32) : Int32 := if a < 0 then 0 else (if (nI (m.1 2)) ≤ a then 0 else 1)
theorem b_M_isAsset (m : MS) (a : Int32) : f_M_isAsset m a = 0 ∨ f_M_isAsset m a = 1 := by
  unfold f_M_isAsset
  repeat' (first | split | exact Or.inl rfl | exact Or.inr rfl)
set_option maxHeartbeats 4000000 in
set_option maxRecDepth 100000 in
theorem c_M_isAsset (l : Launch) (D : va_G) (cI cL cQ : ClassId) (d : Nat → Nat) (κ : Nat → Option va_E) (m : MS) (hm : IsM cI cL d κ m) (hB : MB m) (sz : Nat) (a : Int32)  : Met l yM_isAsset wM_isAsset { frames := 0, cells := 0, slots := 0, locals := 0 } (va_Pc [.ref (d 0), .int (a)] (kC D vCl (kT cI cL cQ) d κ sz)) (vp_Si (fun r => r = f_M_isAsset m a)) 0 0 (fun _ => False) := by
  refine kMet (by decide) (Nat.le_of_ble_eq_true rfl) ?_
  intro p0 e0 s0 m0 below0 meth0 c0 hx hb hr hml hown hlocks hin hts hsz hP hK ls hl
  have hl : lv_has ls 2 [(0, .ref (d 0)), (1, .int (a))] := hl
  have hB9 := hB
  obtain ⟨hb0, hb1, hb2, hb3, hb4, hb5, hb6, hb7, hb8, hb9, hb10⟩ := hB9
  refine lv_iload_n hx hb dM_isAsset_0 rfl (lv_at hl 1 rfl) ?_
  refine lv_if_lt (tgt := 16) hx hb dM_isAsset_1 (by decide) (fun c_1 => ?_) (fun c_1 => ?_)
  · refine lv_iconst (v := 0) hx hb dM_isAsset_16 (by decide) ?_
    exact W.zret (v := 0) hx hb hr k_nar0 (fun t ht hW => ⟨_, rfl, by rw [f_M_isAsset, if_pos c_1], ht⟩) (fun q h => by cases h) dM_isAsset_17
  · refine lv_iload_n hx hb dM_isAsset_4 rfl (lv_at hl 1 rfl) ?_
    refine lv_aload_n hx hb dM_isAsset_5 rfl (lv_at hl 0 rfl) ?_
    refine ka_get (ci := 4) (C := RM) (T := TM) (N := 26) hx hb hts inM hown hK hP (q := 0) hm.1 rfl 2 (by decide) (hts _ tw_386) (fun _ h9 => h9) rfl dM_isAsset_6 ?_
    refine lv_icmp_ge (tgt := 16) hx hb dM_isAsset_9 (by decide) (fun c_9 => ?_) (fun c_9 => ?_)
    · refine lv_iconst (v := 0) hx hb dM_isAsset_16 (by decide) ?_
      exact W.zret (v := 0) hx hb hr k_nar0 (fun t ht hW => ⟨_, rfl, by rw [f_M_isAsset, if_neg c_1, if_pos c_9], ht⟩) (fun q h => by cases h) dM_isAsset_17
    · refine lv_iconst (v := 1) hx hb dM_isAsset_12 (by decide) ?_
      refine lv_goto (tgt := 17) hx hb dM_isAsset_13 (by decide) ?_
      exact W.zret (v := 1) hx hb hr k_nar1 (fun t ht hW => ⟨_, rfl, by rw [f_M_isAsset, if_neg c_1, if_neg c_9], ht⟩) (fun q h => by cases h) dM_isAsset_17

theorem dM_pair_0 : decode prog_6_method_14_code 0 = .ok (.iload_n 1, 1) := by decide +kernel
theorem dM_pair_1 : decode prog_6_method_14_code 1 = .ok (.aload_n 0, 1) := by decide +kernel
theorem dM_pair_2 : decode prog_6_method_14_code 2 = .ok (.getfield 66, 3) := by decide +kernel
theorem dM_pair_5 : decode prog_6_method_14_code 5 = .ok (.aload_n 0, 1) := by decide +kernel
theorem dM_pair_6 : decode prog_6_method_14_code 6 = .ok (.getfield 69, 3) := by decide +kernel
theorem dM_pair_9 : decode prog_6_method_14_code 9 = .ok (.imul, 1) := by decide +kernel
theorem dM_pair_10 : decode prog_6_method_14_code 10 = .ok (.isub, 1) := by decide +kernel
theorem dM_pair_11 : decode prog_6_method_14_code 11 = .ok (.ireturn, 1) := by decide +kernel
def f_M_pair (m : MS) (id : Int32) : Int32 := id - ((nI (m.1 0)) * (nI (m.1 1)))
set_option maxHeartbeats 4000000 in
set_option maxRecDepth 100000 in
theorem c_M_pair (l : Launch) (D : va_G) (cI cL cQ : ClassId) (d : Nat → Nat) (κ : Nat → Option va_E) (m : MS) (hm : IsM cI cL d κ m) (hB : MB m) (sz : Nat) (id : Int32)  : Met l yM_pair wM_pair { frames := 0, cells := 0, slots := 0, locals := 0 } (va_Pc [.ref (d 0), .int (id)] (kC D vCl (kT cI cL cQ) d κ sz)) (vp_Si (fun r => r = f_M_pair m id)) 0 0 (fun _ => False) := by
  refine kMet (by decide) (Nat.le_of_ble_eq_true rfl) ?_
  intro p0 e0 s0 m0 below0 meth0 c0 hx hb hr hml hown hlocks hin hts hsz hP hK ls hl
  have hl : lv_has ls 2 [(0, .ref (d 0)), (1, .int (id))] := hl
  have hB9 := hB
  obtain ⟨hb0, hb1, hb2, hb3, hb4, hb5, hb6, hb7, hb8, hb9, hb10⟩ := hB9
  refine lv_iload_n hx hb dM_pair_0 rfl (lv_at hl 1 rfl) ?_
  refine lv_aload_n hx hb dM_pair_1 rfl (lv_at hl 0 rfl) ?_
  refine ka_get (ci := 4) (C := RM) (T := TM) (N := 26) hx hb hts inM hown hK hP (q := 0) hm.1 rfl 0 (by decide) (hts _ tw_384) (fun _ h9 => h9) rfl dM_pair_2 ?_
  refine lv_aload_n hx hb dM_pair_5 rfl (lv_at hl 0 rfl) ?_
  refine ka_get (ci := 4) (C := RM) (T := TM) (N := 26) hx hb hts inM hown hK hP (q := 0) hm.1 rfl 1 (by decide) (hts _ tw_385) (fun _ h9 => h9) rfl dM_pair_6 ?_
  refine lv_imul hx hb dM_pair_9 ?_
  refine lv_isub hx hb dM_pair_10 ?_
  exact W.iret (v := id - ((nI (m.1 0)) * (nI (m.1 1)))) hx hb hr (fun t ht hW => ⟨_, rfl, by rw [f_M_pair], ht⟩) (fun q h => by cases h) dM_pair_11

theorem dM_position_0 : decode prog_6_method_2_code 0 = .ok (.lconst 0, 1) := by decide +kernel
theorem dM_position_1 : decode prog_6_method_2_code 1 = .ok (.lstore_n 3, 1) := by decide +kernel
theorem dM_position_2 : decode prog_6_method_2_code 2 = .ok (.iconst 0, 1) := by decide +kernel
theorem dM_position_3 : decode prog_6_method_2_code 3 = .ok (.istore 5, 2) := by decide +kernel
theorem dM_position_5 : decode prog_6_method_2_code 5 = .ok (.iload 5, 2) := by decide +kernel
theorem dM_position_7 : decode prog_6_method_2_code 7 = .ok (.aload_n 0, 1) := by decide +kernel
theorem dM_position_8 : decode prog_6_method_2_code 8 = .ok (.getfield 72, 3) := by decide +kernel
theorem dM_position_11 : decode prog_6_method_2_code 11 = .ok (.if_icmp .ge 41, 3) := by decide +kernel
theorem dM_position_14 : decode prog_6_method_2_code 14 = .ok (.aload_n 0, 1) := by decide +kernel
theorem dM_position_15 : decode prog_6_method_2_code 15 = .ok (.getfield 24, 3) := by decide +kernel
theorem dM_position_18 : decode prog_6_method_2_code 18 = .ok (.iload 5, 2) := by decide +kernel
theorem dM_position_20 : decode prog_6_method_2_code 20 = .ok (.iaload, 1) := by decide +kernel
theorem dM_position_21 : decode prog_6_method_2_code 21 = .ok (.iload_n 1, 1) := by decide +kernel
theorem dM_position_22 : decode prog_6_method_2_code 22 = .ok (.aload_n 0, 1) := by decide +kernel
theorem dM_position_23 : decode prog_6_method_2_code 23 = .ok (.getfield 69, 3) := by decide +kernel
theorem dM_position_26 : decode prog_6_method_2_code 26 = .ok (.imul, 1) := by decide +kernel
theorem dM_position_27 : decode prog_6_method_2_code 27 = .ok (.iload_n 2, 1) := by decide +kernel
theorem dM_position_28 : decode prog_6_method_2_code 28 = .ok (.iadd, 1) := by decide +kernel
theorem dM_position_29 : decode prog_6_method_2_code 29 = .ok (.if_icmp .ne 15, 3) := by decide +kernel
theorem dM_position_32 : decode prog_6_method_2_code 32 = .ok (.lload_n 3, 1) := by decide +kernel
theorem dM_position_33 : decode prog_6_method_2_code 33 = .ok (.aload_n 0, 1) := by decide +kernel
theorem dM_position_34 : decode prog_6_method_2_code 34 = .ok (.getfield 27, 3) := by decide +kernel
theorem dM_position_37 : decode prog_6_method_2_code 37 = .ok (.iload 5, 2) := by decide +kernel
theorem dM_position_39 : decode prog_6_method_2_code 39 = .ok (.laload, 1) := by decide +kernel
theorem dM_position_40 : decode prog_6_method_2_code 40 = .ok (.ladd, 1) := by decide +kernel
theorem dM_position_41 : decode prog_6_method_2_code 41 = .ok (.goto 4, 3) := by decide +kernel
theorem dM_position_44 : decode prog_6_method_2_code 44 = .ok (.lload_n 3, 1) := by decide +kernel
theorem dM_position_45 : decode prog_6_method_2_code 45 = .ok (.lstore_n 3, 1) := by decide +kernel
theorem dM_position_46 : decode prog_6_method_2_code 46 = .ok (.iinc 5 1, 3) := by decide +kernel
theorem dM_position_49 : decode prog_6_method_2_code 49 = .ok (.goto (-44), 3) := by decide +kernel
theorem dM_position_52 : decode prog_6_method_2_code 52 = .ok (.lload_n 3, 1) := by decide +kernel
theorem dM_position_53 : decode prog_6_method_2_code 53 = .ok (.lreturn, 1) := by decide +kernel
def f_M_position_l (m : MS) (p : Int32) (a : Int32) : Nat → Nat → Int64 → Int64
  | 0, _, _ => 0
  | n + 1, k, v => if (nI (m.1 3)) ≤ (nI k) then v else (if ((m.2.2.1 2) (nI k).toNatClampNeg) = ((p * (nI (m.1 1))) + a) then (f_M_position_l m p a n (k + 1) (v + ((m.2.2.2 1) (nI k).toNatClampNeg))) else (f_M_position_l m p a n (k + 1) v))
theorem f_M_position_l_s (m : MS) (p : Int32) (a : Int32) (n : Nat) (k : Nat) (v : Int64) : f_M_position_l m p a (n + 1) k v = (if (nI (m.1 3)) ≤ (nI k) then v else (if ((m.2.2.1 2) (nI k).toNatClampNeg) = ((p * (nI (m.1 1))) + a) then (f_M_position_l m p a n (k + 1) (v + ((m.2.2.2 1) (nI k).toNatClampNeg))) else (f_M_position_l m p a n (k + 1) v))) := rfl
def f_M_position (m : MS) (p : Int32) (a : Int32) : Int64 := f_M_position_l m p a (m.1 3 + 1) 0 0
set_option maxHeartbeats 4000000 in
set_option maxRecDepth 100000 in
theorem c_M_position (l : Launch) (D : va_G) (cI cL cQ : ClassId) (d : Nat → Nat) (κ : Nat → Option va_E) (m : MS) (hm : IsM cI cL d κ m) (hB : MB m) (sz : Nat) (p : Int32) (a : Int32)  : Met l yM_position wM_position { frames := 0, cells := 0, slots := 0, locals := 0 } (va_Pc [.ref (d 0), .int (p), .int (a)] (kC D vCl (kT cI cL cQ) d κ sz)) (vp_Sl (fun r => r = f_M_position m p a)) 0 0 (fun _ => False) := by
  refine kMet (by decide) (Nat.le_of_ble_eq_true rfl) ?_
  intro p0 e0 s0 m0 below0 meth0 c0 hx hb hr hml hown hlocks hin hts hsz hP hK ls hl
  have hl : lv_has ls 6 [(0, .ref (d 0)), (1, .int (p)), (2, .int (a))] := hl
  have hB9 := hB
  obtain ⟨hb0, hb1, hb2, hb3, hb4, hb5, hb6, hb7, hb8, hb9, hb10⟩ := hB9
  refine lv_lconst (v := 0) hx hb dM_position_0 (by decide) ?_
  refine lv_lstore_n (lv' := [(3, .long (0)), (0, .ref (d 0)), (1, .int (p)), (2, .int (a))]) hx hb dM_position_1 rfl hl (by decide) rfl (fun ls hl => ?_)
  refine lv_iconst (v := 0) hx hb dM_position_2 (by decide) ?_
  refine lv_istore (lv' := [(5, .int (0)), (3, .long (0)), (0, .ref (d 0)), (1, .int (p)), (2, .int (a))]) hx hb dM_position_3 hl (by decide) rfl (fun ls hl => ?_)
  refine k_rec (σ := Nat × Int64) (fun n z9 ls => z9.1 ≤ m.1 3 ∧ m.1 3 < z9.1 + n ∧ f_M_position_l m p a n z9.1 z9.2 = f_M_position m p a ∧ lv_has ls 6 [(5, .int (nI z9.1)), (3, .long z9.2), (0, .ref (d 0)), (1, .int (p)), (2, .int (a))]) (m.1 3 + 1) (0, 0) ⟨by omega, by omega, by rw [f_M_position], lv_sub hl [0, 1, 2, 3, 4] rfl⟩ ?_
  intro n z9 ls hI ih
  obtain ⟨k, v⟩ := z9
  obtain ⟨hk, hn, hE, hl⟩ := hI
  dsimp only at hk hn hE hl
  obtain ⟨n, rfl⟩ : ∃ q, n = q + 1 := ⟨n - 1, by omega⟩
  refine lv_iload hx hb dM_position_5 (lv_at hl 0 rfl) ?_
  refine lv_aload_n hx hb dM_position_7 rfl (lv_at hl 2 rfl) ?_
  refine ka_get (ci := 4) (C := RM) (T := TM) (N := 26) hx hb hts inM hown hK hP (q := 0) hm.1 rfl 7 (by decide) (hts _ tw_391) (fun _ h9 => h9) rfl dM_position_8 ?_
  refine lv_icmp_ge (tgt := 52) hx hb dM_position_11 (by decide) (fun c_11 => ?_) (fun c_11 => ?_)
  · refine lv_lload_n hx hb dM_position_52 rfl (lv_at hl 1 rfl) ?_
    exact W.lret (v := v) hx hb hr (fun t ht hW => ⟨_, rfl, by rw [← hE, f_M_position_l_s, if_pos c_11], ht⟩) (fun q h => by cases h) dM_position_53
  · have hlt : k < m.1 3 := Nat.lt_of_not_le (fun q => c_11 (nI_le q (by omega)))
    refine lv_aload_n hx hb dM_position_14 rfl (lv_at hl 2 rfl) ?_
    refine ka_get (ci := 4) (C := RM) (T := TM) (N := 26) hx hb hts inM hown hK hP (q := 0) hm.1 rfl 8 (by decide) (hts _ tw_392) (fun _ h9 => h9) rfl dM_position_15 ?_
    refine lv_iload hx hb dM_position_18 (lv_at hl 0 rfl) ?_
    refine ka_iald hx hb hK hP 0 (q := 4) hm.2.2.2.2.1 rfl (by first | assumption | exact vp_in_nI (by omega) (by omega)) dM_position_20 ?_
    refine lv_iload_n hx hb dM_position_21 rfl (lv_at hl 3 rfl) ?_
    refine lv_aload_n hx hb dM_position_22 rfl (lv_at hl 2 rfl) ?_
    refine ka_get (ci := 4) (C := RM) (T := TM) (N := 26) hx hb hts inM hown hK hP (q := 0) hm.1 rfl 1 (by decide) (hts _ tw_385) (fun _ h9 => h9) rfl dM_position_23 ?_
    refine lv_imul hx hb dM_position_26 ?_
    refine lv_iload_n hx hb dM_position_27 rfl (lv_at hl 4 rfl) ?_
    refine lv_iadd hx hb dM_position_28 ?_
    refine lv_icmp_ne (tgt := 44) hx hb dM_position_29 (by decide) (fun c_29 => ?_) (fun c_29 => ?_)
    · refine lv_lload_n hx hb dM_position_44 rfl (lv_at hl 1 rfl) ?_
      refine lv_lstore_n (lv' := [(3, .long (v)), (5, .int (nI k)), (0, .ref (d 0)), (1, .int (p)), (2, .int (a))]) hx hb dM_position_45 rfl hl (by decide) rfl (fun ls hl => ?_)
      refine lv_iinc (v := nI (k + 1)) (lv' := [(5, .int (nI (k + 1))), (3, .long (v)), (0, .ref (d 0)), (1, .int (p)), (2, .int (a))]) hx hb dM_position_46 hl (k := 1) rfl (nI_add k 1) (by decide) rfl (fun ls hl => ?_)
      refine lv_goto (tgt := 5) hx hb dM_position_49 (by decide) ?_
      exact ih n (k + 1, v) ls (by omega) ⟨by omega, by omega, by rw [← hE, f_M_position_l_s, if_neg c_11, if_neg c_29], lv_sub hl [0, 1, 2, 3, 4] rfl⟩
    · refine lv_lload_n hx hb dM_position_32 rfl (lv_at hl 1 rfl) ?_
      refine lv_aload_n hx hb dM_position_33 rfl (lv_at hl 2 rfl) ?_
      refine ka_get (ci := 4) (C := RM) (T := TM) (N := 26) hx hb hts inM hown hK hP (q := 0) hm.1 rfl 9 (by decide) (hts _ tw_393) (fun _ h9 => h9) rfl dM_position_34 ?_
      refine lv_iload hx hb dM_position_37 (lv_at hl 0 rfl) ?_
      refine ka_lald hx hb hK hP 1 (q := 5) hm.2.2.2.2.2.1 rfl (by first | assumption | exact vp_in_nI (by omega) (by omega)) dM_position_39 ?_
      refine lv_ladd hx hb dM_position_40 ?_
      refine lv_goto (tgt := 45) hx hb dM_position_41 (by decide) ?_
      refine lv_lstore_n (lv' := [(3, .long (v + ((m.2.2.2 1) (nI k).toNatClampNeg))), (5, .int (nI k)), (0, .ref (d 0)), (1, .int (p)), (2, .int (a))]) hx hb dM_position_45 rfl hl (by decide) rfl (fun ls hl => ?_)
      refine lv_iinc (v := nI (k + 1)) (lv' := [(5, .int (nI (k + 1))), (3, .long (v + ((m.2.2.2 1) (nI k).toNatClampNeg))), (0, .ref (d 0)), (1, .int (p)), (2, .int (a))]) hx hb dM_position_46 hl (k := 1) rfl (nI_add k 1) (by decide) rfl (fun ls hl => ?_)
      refine lv_goto (tgt := 5) hx hb dM_position_49 (by decide) ?_
      exact ih n (k + 1, v + ((m.2.2.2 1) (nI k).toNatClampNeg)) ls (by omega) ⟨by omega, by omega, by rw [← hE, f_M_position_l_s, if_neg c_11, if_pos c_29], lv_sub hl [0, 1, 2, 3, 4] rfl⟩

theorem dM_pledged_0 : decode prog_6_method_3_code 0 = .ok (.lconst 0, 1) := by decide +kernel
theorem dM_pledged_1 : decode prog_6_method_3_code 1 = .ok (.lstore_n 3, 1) := by decide +kernel
theorem dM_pledged_2 : decode prog_6_method_3_code 2 = .ok (.iconst 0, 1) := by decide +kernel
theorem dM_pledged_3 : decode prog_6_method_3_code 3 = .ok (.istore 5, 2) := by decide +kernel
theorem dM_pledged_5 : decode prog_6_method_3_code 5 = .ok (.iload 5, 2) := by decide +kernel
theorem dM_pledged_7 : decode prog_6_method_3_code 7 = .ok (.aload_n 0, 1) := by decide +kernel
theorem dM_pledged_8 : decode prog_6_method_3_code 8 = .ok (.getfield 75, 3) := by decide +kernel
theorem dM_pledged_11 : decode prog_6_method_3_code 11 = .ok (.if_icmp .ge 41, 3) := by decide +kernel
theorem dM_pledged_14 : decode prog_6_method_3_code 14 = .ok (.aload_n 0, 1) := by decide +kernel
theorem dM_pledged_15 : decode prog_6_method_3_code 15 = .ok (.getfield 39, 3) := by decide +kernel
theorem dM_pledged_18 : decode prog_6_method_3_code 18 = .ok (.iload 5, 2) := by decide +kernel
theorem dM_pledged_20 : decode prog_6_method_3_code 20 = .ok (.iaload, 1) := by decide +kernel
theorem dM_pledged_21 : decode prog_6_method_3_code 21 = .ok (.iload_n 1, 1) := by decide +kernel
theorem dM_pledged_22 : decode prog_6_method_3_code 22 = .ok (.aload_n 0, 1) := by decide +kernel
theorem dM_pledged_23 : decode prog_6_method_3_code 23 = .ok (.getfield 69, 3) := by decide +kernel
theorem dM_pledged_26 : decode prog_6_method_3_code 26 = .ok (.imul, 1) := by decide +kernel
theorem dM_pledged_27 : decode prog_6_method_3_code 27 = .ok (.iload_n 2, 1) := by decide +kernel
theorem dM_pledged_28 : decode prog_6_method_3_code 28 = .ok (.iadd, 1) := by decide +kernel
theorem dM_pledged_29 : decode prog_6_method_3_code 29 = .ok (.if_icmp .ne 15, 3) := by decide +kernel
theorem dM_pledged_32 : decode prog_6_method_3_code 32 = .ok (.lload_n 3, 1) := by decide +kernel
theorem dM_pledged_33 : decode prog_6_method_3_code 33 = .ok (.aload_n 0, 1) := by decide +kernel
theorem dM_pledged_34 : decode prog_6_method_3_code 34 = .ok (.getfield 42, 3) := by decide +kernel
theorem dM_pledged_37 : decode prog_6_method_3_code 37 = .ok (.iload 5, 2) := by decide +kernel
theorem dM_pledged_39 : decode prog_6_method_3_code 39 = .ok (.laload, 1) := by decide +kernel
theorem dM_pledged_40 : decode prog_6_method_3_code 40 = .ok (.ladd, 1) := by decide +kernel
theorem dM_pledged_41 : decode prog_6_method_3_code 41 = .ok (.goto 4, 3) := by decide +kernel
theorem dM_pledged_44 : decode prog_6_method_3_code 44 = .ok (.lload_n 3, 1) := by decide +kernel
theorem dM_pledged_45 : decode prog_6_method_3_code 45 = .ok (.lstore_n 3, 1) := by decide +kernel
theorem dM_pledged_46 : decode prog_6_method_3_code 46 = .ok (.iinc 5 1, 3) := by decide +kernel
theorem dM_pledged_49 : decode prog_6_method_3_code 49 = .ok (.goto (-44), 3) := by decide +kernel
theorem dM_pledged_52 : decode prog_6_method_3_code 52 = .ok (.lload_n 3, 1) := by decide +kernel
theorem dM_pledged_53 : decode prog_6_method_3_code 53 = .ok (.lreturn, 1) := by decide +kernel
def f_M_pledged_l (m : MS) (p : Int32) (a : Int32) : Nat → Nat → Int64 → Int64
  | 0, _, _ => 0
  | n + 1, k, v => if (nI (m.1 5)) ≤ (nI k) then v else (if ((m.2.2.1 5) (nI k).toNatClampNeg) = ((p * (nI (m.1 1))) + a) then (f_M_pledged_l m p a n (k + 1) (v + ((m.2.2.2 3) (nI k).toNatClampNeg))) else (f_M_pledged_l m p a n (k + 1) v))
theorem f_M_pledged_l_s (m : MS) (p : Int32) (a : Int32) (n : Nat) (k : Nat) (v : Int64) : f_M_pledged_l m p a (n + 1) k v = (if (nI (m.1 5)) ≤ (nI k) then v else (if ((m.2.2.1 5) (nI k).toNatClampNeg) = ((p * (nI (m.1 1))) + a) then (f_M_pledged_l m p a n (k + 1) (v + ((m.2.2.2 3) (nI k).toNatClampNeg))) else (f_M_pledged_l m p a n (k + 1) v))) := rfl
def f_M_pledged (m : MS) (p : Int32) (a : Int32) : Int64 := f_M_pledged_l m p a (m.1 5 + 1) 0 0
set_option maxHeartbeats 4000000 in
set_option maxRecDepth 100000 in
theorem c_M_pledged (l : Launch) (D : va_G) (cI cL cQ : ClassId) (d : Nat → Nat) (κ : Nat → Option va_E) (m : MS) (hm : IsM cI cL d κ m) (hB : MB m) (sz : Nat) (p : Int32) (a : Int32)  : Met l yM_pledged wM_pledged { frames := 0, cells := 0, slots := 0, locals := 0 } (va_Pc [.ref (d 0), .int (p), .int (a)] (kC D vCl (kT cI cL cQ) d κ sz)) (vp_Sl (fun r => r = f_M_pledged m p a)) 0 0 (fun _ => False) := by
  refine kMet (by decide) (Nat.le_of_ble_eq_true rfl) ?_
  intro p0 e0 s0 m0 below0 meth0 c0 hx hb hr hml hown hlocks hin hts hsz hP hK ls hl
  have hl : lv_has ls 6 [(0, .ref (d 0)), (1, .int (p)), (2, .int (a))] := hl
  have hB9 := hB
  obtain ⟨hb0, hb1, hb2, hb3, hb4, hb5, hb6, hb7, hb8, hb9, hb10⟩ := hB9
  refine lv_lconst (v := 0) hx hb dM_pledged_0 (by decide) ?_
  refine lv_lstore_n (lv' := [(3, .long (0)), (0, .ref (d 0)), (1, .int (p)), (2, .int (a))]) hx hb dM_pledged_1 rfl hl (by decide) rfl (fun ls hl => ?_)
  refine lv_iconst (v := 0) hx hb dM_pledged_2 (by decide) ?_
  refine lv_istore (lv' := [(5, .int (0)), (3, .long (0)), (0, .ref (d 0)), (1, .int (p)), (2, .int (a))]) hx hb dM_pledged_3 hl (by decide) rfl (fun ls hl => ?_)
  refine k_rec (σ := Nat × Int64) (fun n z9 ls => z9.1 ≤ m.1 5 ∧ m.1 5 < z9.1 + n ∧ f_M_pledged_l m p a n z9.1 z9.2 = f_M_pledged m p a ∧ lv_has ls 6 [(5, .int (nI z9.1)), (3, .long z9.2), (0, .ref (d 0)), (1, .int (p)), (2, .int (a))]) (m.1 5 + 1) (0, 0) ⟨by omega, by omega, by rw [f_M_pledged], lv_sub hl [0, 1, 2, 3, 4] rfl⟩ ?_
  intro n z9 ls hI ih
  obtain ⟨k, v⟩ := z9
  obtain ⟨hk, hn, hE, hl⟩ := hI
  dsimp only at hk hn hE hl
  obtain ⟨n, rfl⟩ : ∃ q, n = q + 1 := ⟨n - 1, by omega⟩
  refine lv_iload hx hb dM_pledged_5 (lv_at hl 0 rfl) ?_
  refine lv_aload_n hx hb dM_pledged_7 rfl (lv_at hl 2 rfl) ?_
  refine ka_get (ci := 4) (C := RM) (T := TM) (N := 26) hx hb hts inM hown hK hP (q := 0) hm.1 rfl 14 (by decide) (hts _ tw_398) (fun _ h9 => h9) rfl dM_pledged_8 ?_
  refine lv_icmp_ge (tgt := 52) hx hb dM_pledged_11 (by decide) (fun c_11 => ?_) (fun c_11 => ?_)
  · refine lv_lload_n hx hb dM_pledged_52 rfl (lv_at hl 1 rfl) ?_
    exact W.lret (v := v) hx hb hr (fun t ht hW => ⟨_, rfl, by rw [← hE, f_M_pledged_l_s, if_pos c_11], ht⟩) (fun q h => by cases h) dM_pledged_53
  · have hlt : k < m.1 5 := Nat.lt_of_not_le (fun q => c_11 (nI_le q (by omega)))
    refine lv_aload_n hx hb dM_pledged_14 rfl (lv_at hl 2 rfl) ?_
    refine ka_get (ci := 4) (C := RM) (T := TM) (N := 26) hx hb hts inM hown hK hP (q := 0) hm.1 rfl 15 (by decide) (hts _ tw_399) (fun _ h9 => h9) rfl dM_pledged_15 ?_
    refine lv_iload hx hb dM_pledged_18 (lv_at hl 0 rfl) ?_
    refine ka_iald hx hb hK hP 0 (q := 9) hm.2.2.2.2.2.2.2.2.2.1 rfl (by first | assumption | exact vp_in_nI (by omega) (by omega)) dM_pledged_20 ?_
    refine lv_iload_n hx hb dM_pledged_21 rfl (lv_at hl 3 rfl) ?_
    refine lv_aload_n hx hb dM_pledged_22 rfl (lv_at hl 2 rfl) ?_
    refine ka_get (ci := 4) (C := RM) (T := TM) (N := 26) hx hb hts inM hown hK hP (q := 0) hm.1 rfl 1 (by decide) (hts _ tw_385) (fun _ h9 => h9) rfl dM_pledged_23 ?_
    refine lv_imul hx hb dM_pledged_26 ?_
    refine lv_iload_n hx hb dM_pledged_27 rfl (lv_at hl 4 rfl) ?_
    refine lv_iadd hx hb dM_pledged_28 ?_
    refine lv_icmp_ne (tgt := 44) hx hb dM_pledged_29 (by decide) (fun c_29 => ?_) (fun c_29 => ?_)
    · refine lv_lload_n hx hb dM_pledged_44 rfl (lv_at hl 1 rfl) ?_
      refine lv_lstore_n (lv' := [(3, .long (v)), (5, .int (nI k)), (0, .ref (d 0)), (1, .int (p)), (2, .int (a))]) hx hb dM_pledged_45 rfl hl (by decide) rfl (fun ls hl => ?_)
      refine lv_iinc (v := nI (k + 1)) (lv' := [(5, .int (nI (k + 1))), (3, .long (v)), (0, .ref (d 0)), (1, .int (p)), (2, .int (a))]) hx hb dM_pledged_46 hl (k := 1) rfl (nI_add k 1) (by decide) rfl (fun ls hl => ?_)
      refine lv_goto (tgt := 5) hx hb dM_pledged_49 (by decide) ?_
      exact ih n (k + 1, v) ls (by omega) ⟨by omega, by omega, by rw [← hE, f_M_pledged_l_s, if_neg c_11, if_neg c_29], lv_sub hl [0, 1, 2, 3, 4] rfl⟩
    · refine lv_lload_n hx hb dM_pledged_32 rfl (lv_at hl 1 rfl) ?_
      refine lv_aload_n hx hb dM_pledged_33 rfl (lv_at hl 2 rfl) ?_
      refine ka_get (ci := 4) (C := RM) (T := TM) (N := 26) hx hb hts inM hown hK hP (q := 0) hm.1 rfl 16 (by decide) (hts _ tw_400) (fun _ h9 => h9) rfl dM_pledged_34 ?_
      refine lv_iload hx hb dM_pledged_37 (lv_at hl 0 rfl) ?_
      refine ka_lald hx hb hK hP 1 (q := 10) hm.2.2.2.2.2.2.2.2.2.2.1 rfl (by first | assumption | exact vp_in_nI (by omega) (by omega)) dM_pledged_39 ?_
      refine lv_ladd hx hb dM_pledged_40 ?_
      refine lv_goto (tgt := 45) hx hb dM_pledged_41 (by decide) ?_
      refine lv_lstore_n (lv' := [(3, .long (v + ((m.2.2.2 3) (nI k).toNatClampNeg))), (5, .int (nI k)), (0, .ref (d 0)), (1, .int (p)), (2, .int (a))]) hx hb dM_pledged_45 rfl hl (by decide) rfl (fun ls hl => ?_)
      refine lv_iinc (v := nI (k + 1)) (lv' := [(5, .int (nI (k + 1))), (3, .long (v + ((m.2.2.2 3) (nI k).toNatClampNeg))), (0, .ref (d 0)), (1, .int (p)), (2, .int (a))]) hx hb dM_pledged_46 hl (k := 1) rfl (nI_add k 1) (by decide) rfl (fun ls hl => ?_)
      refine lv_goto (tgt := 5) hx hb dM_pledged_49 (by decide) ?_
      exact ih n (k + 1, v + ((m.2.2.2 3) (nI k).toNatClampNeg)) ls (by omega) ⟨by omega, by omega, by rw [← hE, f_M_pledged_l_s, if_neg c_11, if_pos c_29], lv_sub hl [0, 1, 2, 3, 4] rfl⟩

theorem dM_netPaid_0 : decode prog_6_method_4_code 0 = .ok (.lconst 0, 1) := by decide +kernel
theorem dM_netPaid_1 : decode prog_6_method_4_code 1 = .ok (.lstore_n 3, 1) := by decide +kernel
theorem dM_netPaid_2 : decode prog_6_method_4_code 2 = .ok (.iconst 0, 1) := by decide +kernel
theorem dM_netPaid_3 : decode prog_6_method_4_code 3 = .ok (.istore 5, 2) := by decide +kernel
theorem dM_netPaid_5 : decode prog_6_method_4_code 5 = .ok (.iload 5, 2) := by decide +kernel
theorem dM_netPaid_7 : decode prog_6_method_4_code 7 = .ok (.aload_n 0, 1) := by decide +kernel
theorem dM_netPaid_8 : decode prog_6_method_4_code 8 = .ok (.getfield 78, 3) := by decide +kernel
theorem dM_netPaid_11 : decode prog_6_method_4_code 11 = .ok (.if_icmp .ge 79, 3) := by decide +kernel
theorem dM_netPaid_14 : decode prog_6_method_4_code 14 = .ok (.aload_n 0, 1) := by decide +kernel
theorem dM_netPaid_15 : decode prog_6_method_4_code 15 = .ok (.getfield 30, 3) := by decide +kernel
theorem dM_netPaid_18 : decode prog_6_method_4_code 18 = .ok (.iload 5, 2) := by decide +kernel
theorem dM_netPaid_20 : decode prog_6_method_4_code 20 = .ok (.iaload, 1) := by decide +kernel
theorem dM_netPaid_21 : decode prog_6_method_4_code 21 = .ok (.iload_n 1, 1) := by decide +kernel
theorem dM_netPaid_22 : decode prog_6_method_4_code 22 = .ok (.if_icmp .ne 26, 3) := by decide +kernel
theorem dM_netPaid_25 : decode prog_6_method_4_code 25 = .ok (.aload_n 0, 1) := by decide +kernel
theorem dM_netPaid_26 : decode prog_6_method_4_code 26 = .ok (.getfield 33, 3) := by decide +kernel
theorem dM_netPaid_29 : decode prog_6_method_4_code 29 = .ok (.iload 5, 2) := by decide +kernel
theorem dM_netPaid_31 : decode prog_6_method_4_code 31 = .ok (.iaload, 1) := by decide +kernel
theorem dM_netPaid_32 : decode prog_6_method_4_code 32 = .ok (.iload_n 2, 1) := by decide +kernel
theorem dM_netPaid_33 : decode prog_6_method_4_code 33 = .ok (.if_icmp .ne 15, 3) := by decide +kernel
theorem dM_netPaid_36 : decode prog_6_method_4_code 36 = .ok (.lload_n 3, 1) := by decide +kernel
theorem dM_netPaid_37 : decode prog_6_method_4_code 37 = .ok (.aload_n 0, 1) := by decide +kernel
theorem dM_netPaid_38 : decode prog_6_method_4_code 38 = .ok (.getfield 36, 3) := by decide +kernel
theorem dM_netPaid_41 : decode prog_6_method_4_code 41 = .ok (.iload 5, 2) := by decide +kernel
theorem dM_netPaid_43 : decode prog_6_method_4_code 43 = .ok (.laload, 1) := by decide +kernel
theorem dM_netPaid_44 : decode prog_6_method_4_code 44 = .ok (.ladd, 1) := by decide +kernel
theorem dM_netPaid_45 : decode prog_6_method_4_code 45 = .ok (.goto 38, 3) := by decide +kernel
theorem dM_netPaid_48 : decode prog_6_method_4_code 48 = .ok (.aload_n 0, 1) := by decide +kernel
theorem dM_netPaid_49 : decode prog_6_method_4_code 49 = .ok (.getfield 30, 3) := by decide +kernel
theorem dM_netPaid_52 : decode prog_6_method_4_code 52 = .ok (.iload 5, 2) := by decide +kernel
theorem dM_netPaid_54 : decode prog_6_method_4_code 54 = .ok (.iaload, 1) := by decide +kernel
theorem dM_netPaid_55 : decode prog_6_method_4_code 55 = .ok (.iload_n 2, 1) := by decide +kernel
theorem dM_netPaid_56 : decode prog_6_method_4_code 56 = .ok (.if_icmp .ne 26, 3) := by decide +kernel
theorem dM_netPaid_59 : decode prog_6_method_4_code 59 = .ok (.aload_n 0, 1) := by decide +kernel
theorem dM_netPaid_60 : decode prog_6_method_4_code 60 = .ok (.getfield 33, 3) := by decide +kernel
theorem dM_netPaid_63 : decode prog_6_method_4_code 63 = .ok (.iload 5, 2) := by decide +kernel
theorem dM_netPaid_65 : decode prog_6_method_4_code 65 = .ok (.iaload, 1) := by decide +kernel
theorem dM_netPaid_66 : decode prog_6_method_4_code 66 = .ok (.iload_n 1, 1) := by decide +kernel
theorem dM_netPaid_67 : decode prog_6_method_4_code 67 = .ok (.if_icmp .ne 15, 3) := by decide +kernel
theorem dM_netPaid_70 : decode prog_6_method_4_code 70 = .ok (.lload_n 3, 1) := by decide +kernel
theorem dM_netPaid_71 : decode prog_6_method_4_code 71 = .ok (.aload_n 0, 1) := by decide +kernel
theorem dM_netPaid_72 : decode prog_6_method_4_code 72 = .ok (.getfield 36, 3) := by decide +kernel
theorem dM_netPaid_75 : decode prog_6_method_4_code 75 = .ok (.iload 5, 2) := by decide +kernel
theorem dM_netPaid_77 : decode prog_6_method_4_code 77 = .ok (.laload, 1) := by decide +kernel
theorem dM_netPaid_78 : decode prog_6_method_4_code 78 = .ok (.lsub, 1) := by decide +kernel
theorem dM_netPaid_79 : decode prog_6_method_4_code 79 = .ok (.goto 4, 3) := by decide +kernel
theorem dM_netPaid_82 : decode prog_6_method_4_code 82 = .ok (.lload_n 3, 1) := by decide +kernel
theorem dM_netPaid_83 : decode prog_6_method_4_code 83 = .ok (.lstore_n 3, 1) := by decide +kernel
theorem dM_netPaid_84 : decode prog_6_method_4_code 84 = .ok (.iinc 5 1, 3) := by decide +kernel
theorem dM_netPaid_87 : decode prog_6_method_4_code 87 = .ok (.goto (-82), 3) := by decide +kernel
theorem dM_netPaid_90 : decode prog_6_method_4_code 90 = .ok (.lload_n 3, 1) := by decide +kernel
theorem dM_netPaid_91 : decode prog_6_method_4_code 91 = .ok (.lreturn, 1) := by decide +kernel
def f_M_netPaid_l (m : MS) (p : Int32) (q : Int32) : Nat → Nat → Int64 → Int64
  | 0, _, _ => 0
  | n + 1, k, v => if (nI (m.1 4)) ≤ (nI k) then v else (if ((m.2.2.1 3) (nI k).toNatClampNeg) = p then (if ((m.2.2.1 4) (nI k).toNatClampNeg) = q then (f_M_netPaid_l m p q n (k + 1) (v + ((m.2.2.2 2) (nI k).toNatClampNeg))) else (if ((m.2.2.1 3) (nI k).toNatClampNeg) = q then (if ((m.2.2.1 4) (nI k).toNatClampNeg) = p then (f_M_netPaid_l m p q n (k + 1) (v - ((m.2.2.2 2) (nI k).toNatClampNeg))) else (f_M_netPaid_l m p q n (k + 1) v)) else (f_M_netPaid_l m p q n (k + 1) v))) else (if ((m.2.2.1 3) (nI k).toNatClampNeg) = q then (if ((m.2.2.1 4) (nI k).toNatClampNeg) = p then (f_M_netPaid_l m p q n (k + 1) (v - ((m.2.2.2 2) (nI k).toNatClampNeg))) else (f_M_netPaid_l m p q n (k + 1) v)) else (f_M_netPaid_l m p q n (k + 1) v)))
theorem f_M_netPaid_l_s (m : MS) (p : Int32) (q : Int32) (n : Nat) (k : Nat) (v : Int64) : f_M_netPaid_l m p q (n + 1) k v = (if (nI (m.1 4)) ≤ (nI k) then v else (if ((m.2.2.1 3) (nI k).toNatClampNeg) = p then (if ((m.2.2.1 4) (nI k).toNatClampNeg) = q then (f_M_netPaid_l m p q n (k + 1) (v + ((m.2.2.2 2) (nI k).toNatClampNeg))) else (if ((m.2.2.1 3) (nI k).toNatClampNeg) = q then (if ((m.2.2.1 4) (nI k).toNatClampNeg) = p then (f_M_netPaid_l m p q n (k + 1) (v - ((m.2.2.2 2) (nI k).toNatClampNeg))) else (f_M_netPaid_l m p q n (k + 1) v)) else (f_M_netPaid_l m p q n (k + 1) v))) else (if ((m.2.2.1 3) (nI k).toNatClampNeg) = q then (if ((m.2.2.1 4) (nI k).toNatClampNeg) = p then (f_M_netPaid_l m p q n (k + 1) (v - ((m.2.2.2 2) (nI k).toNatClampNeg))) else (f_M_netPaid_l m p q n (k + 1) v)) else (f_M_netPaid_l m p q n (k + 1) v)))) := rfl
def f_M_netPaid (m : MS) (p : Int32) (q : Int32) : Int64 := f_M_netPaid_l m p q (m.1 4 + 1) 0 0
set_option maxHeartbeats 4000000 in
set_option maxRecDepth 100000 in
theorem c_M_netPaid (l : Launch) (D : va_G) (cI cL cQ : ClassId) (d : Nat → Nat) (κ : Nat → Option va_E) (m : MS) (hm : IsM cI cL d κ m) (hB : MB m) (sz : Nat) (p : Int32) (q : Int32)  : Met l yM_netPaid wM_netPaid { frames := 0, cells := 0, slots := 0, locals := 0 } (va_Pc [.ref (d 0), .int (p), .int (q)] (kC D vCl (kT cI cL cQ) d κ sz)) (vp_Sl (fun r => r = f_M_netPaid m p q)) 0 0 (fun _ => False) := by
  refine kMet (by decide) (Nat.le_of_ble_eq_true rfl) ?_
  intro p0 e0 s0 m0 below0 meth0 c0 hx hb hr hml hown hlocks hin hts hsz hP hK ls hl
  have hl : lv_has ls 6 [(0, .ref (d 0)), (1, .int (p)), (2, .int (q))] := hl
  have hB9 := hB
  obtain ⟨hb0, hb1, hb2, hb3, hb4, hb5, hb6, hb7, hb8, hb9, hb10⟩ := hB9
  refine lv_lconst (v := 0) hx hb dM_netPaid_0 (by decide) ?_
  refine lv_lstore_n (lv' := [(3, .long (0)), (0, .ref (d 0)), (1, .int (p)), (2, .int (q))]) hx hb dM_netPaid_1 rfl hl (by decide) rfl (fun ls hl => ?_)
  refine lv_iconst (v := 0) hx hb dM_netPaid_2 (by decide) ?_
  refine lv_istore (lv' := [(5, .int (0)), (3, .long (0)), (0, .ref (d 0)), (1, .int (p)), (2, .int (q))]) hx hb dM_netPaid_3 hl (by decide) rfl (fun ls hl => ?_)
  refine k_rec (σ := Nat × Int64) (fun n z9 ls => z9.1 ≤ m.1 4 ∧ m.1 4 < z9.1 + n ∧ f_M_netPaid_l m p q n z9.1 z9.2 = f_M_netPaid m p q ∧ lv_has ls 6 [(5, .int (nI z9.1)), (3, .long z9.2), (0, .ref (d 0)), (1, .int (p)), (2, .int (q))]) (m.1 4 + 1) (0, 0) ⟨by omega, by omega, by rw [f_M_netPaid], lv_sub hl [0, 1, 2, 3, 4] rfl⟩ ?_
  intro n z9 ls hI ih
  obtain ⟨k, v⟩ := z9
  obtain ⟨hk, hn, hE, hl⟩ := hI
  dsimp only at hk hn hE hl
  obtain ⟨n, rfl⟩ : ∃ q, n = q + 1 := ⟨n - 1, by omega⟩
  refine lv_iload hx hb dM_netPaid_5 (lv_at hl 0 rfl) ?_
  refine lv_aload_n hx hb dM_netPaid_7 rfl (lv_at hl 2 rfl) ?_
  refine ka_get (ci := 4) (C := RM) (T := TM) (N := 26) hx hb hts inM hown hK hP (q := 0) hm.1 rfl 10 (by decide) (hts _ tw_394) (fun _ h9 => h9) rfl dM_netPaid_8 ?_
  refine lv_icmp_ge (tgt := 90) hx hb dM_netPaid_11 (by decide) (fun c_11 => ?_) (fun c_11 => ?_)
  · refine lv_lload_n hx hb dM_netPaid_90 rfl (lv_at hl 1 rfl) ?_
    exact W.lret (v := v) hx hb hr (fun t ht hW => ⟨_, rfl, by rw [← hE, f_M_netPaid_l_s, if_pos c_11], ht⟩) (fun q h => by cases h) dM_netPaid_91
  · have hlt : k < m.1 4 := Nat.lt_of_not_le (fun q => c_11 (nI_le q (by omega)))
    refine lv_aload_n hx hb dM_netPaid_14 rfl (lv_at hl 2 rfl) ?_
    refine ka_get (ci := 4) (C := RM) (T := TM) (N := 26) hx hb hts inM hown hK hP (q := 0) hm.1 rfl 11 (by decide) (hts _ tw_395) (fun _ h9 => h9) rfl dM_netPaid_15 ?_
    refine lv_iload hx hb dM_netPaid_18 (lv_at hl 0 rfl) ?_
    refine ka_iald hx hb hK hP 0 (q := 6) hm.2.2.2.2.2.2.1 rfl (by first | assumption | exact vp_in_nI (by omega) (by omega)) dM_netPaid_20 ?_
    refine lv_iload_n hx hb dM_netPaid_21 rfl (lv_at hl 3 rfl) ?_
    refine lv_icmp_ne (tgt := 48) hx hb dM_netPaid_22 (by decide) (fun c_22 => ?_) (fun c_22 => ?_)
    · refine lv_aload_n hx hb dM_netPaid_48 rfl (lv_at hl 2 rfl) ?_
      refine ka_get (ci := 4) (C := RM) (T := TM) (N := 26) hx hb hts inM hown hK hP (q := 0) hm.1 rfl 11 (by decide) (hts _ tw_395) (fun _ h9 => h9) rfl dM_netPaid_49 ?_
      refine lv_iload hx hb dM_netPaid_52 (lv_at hl 0 rfl) ?_
      refine ka_iald hx hb hK hP 0 (q := 6) hm.2.2.2.2.2.2.1 rfl (by first | assumption | exact vp_in_nI (by omega) (by omega)) dM_netPaid_54 ?_
      refine lv_iload_n hx hb dM_netPaid_55 rfl (lv_at hl 4 rfl) ?_
      refine lv_icmp_ne (tgt := 82) hx hb dM_netPaid_56 (by decide) (fun c_56 => ?_) (fun c_56 => ?_)
      · refine lv_lload_n hx hb dM_netPaid_82 rfl (lv_at hl 1 rfl) ?_
        refine lv_lstore_n (lv' := [(3, .long (v)), (5, .int (nI k)), (0, .ref (d 0)), (1, .int (p)), (2, .int (q))]) hx hb dM_netPaid_83 rfl hl (by decide) rfl (fun ls hl => ?_)
        refine lv_iinc (v := nI (k + 1)) (lv' := [(5, .int (nI (k + 1))), (3, .long (v)), (0, .ref (d 0)), (1, .int (p)), (2, .int (q))]) hx hb dM_netPaid_84 hl (k := 1) rfl (nI_add k 1) (by decide) rfl (fun ls hl => ?_)
        refine lv_goto (tgt := 5) hx hb dM_netPaid_87 (by decide) ?_
        exact ih n (k + 1, v) ls (by omega) ⟨by omega, by omega, by rw [← hE, f_M_netPaid_l_s, if_neg c_11, if_neg c_22, if_neg c_56], lv_sub hl [0, 1, 2, 3, 4] rfl⟩
      · refine lv_aload_n hx hb dM_netPaid_59 rfl (lv_at hl 2 rfl) ?_
        refine ka_get (ci := 4) (C := RM) (T := TM) (N := 26) hx hb hts inM hown hK hP (q := 0) hm.1 rfl 12 (by decide) (hts _ tw_396) (fun _ h9 => h9) rfl dM_netPaid_60 ?_
        refine lv_iload hx hb dM_netPaid_63 (lv_at hl 0 rfl) ?_
        refine ka_iald hx hb hK hP 0 (q := 7) hm.2.2.2.2.2.2.2.1 rfl (by first | assumption | exact vp_in_nI (by omega) (by omega)) dM_netPaid_65 ?_
        refine lv_iload_n hx hb dM_netPaid_66 rfl (lv_at hl 3 rfl) ?_
        refine lv_icmp_ne (tgt := 82) hx hb dM_netPaid_67 (by decide) (fun c_67 => ?_) (fun c_67 => ?_)
        · refine lv_lload_n hx hb dM_netPaid_82 rfl (lv_at hl 1 rfl) ?_
          refine lv_lstore_n (lv' := [(3, .long (v)), (5, .int (nI k)), (0, .ref (d 0)), (1, .int (p)), (2, .int (q))]) hx hb dM_netPaid_83 rfl hl (by decide) rfl (fun ls hl => ?_)
          refine lv_iinc (v := nI (k + 1)) (lv' := [(5, .int (nI (k + 1))), (3, .long (v)), (0, .ref (d 0)), (1, .int (p)), (2, .int (q))]) hx hb dM_netPaid_84 hl (k := 1) rfl (nI_add k 1) (by decide) rfl (fun ls hl => ?_)
          refine lv_goto (tgt := 5) hx hb dM_netPaid_87 (by decide) ?_
          exact ih n (k + 1, v) ls (by omega) ⟨by omega, by omega, by rw [← hE, f_M_netPaid_l_s, if_neg c_11, if_neg c_22, if_pos c_56, if_neg c_67], lv_sub hl [0, 1, 2, 3, 4] rfl⟩
        · refine lv_lload_n hx hb dM_netPaid_70 rfl (lv_at hl 1 rfl) ?_
          refine lv_aload_n hx hb dM_netPaid_71 rfl (lv_at hl 2 rfl) ?_
          refine ka_get (ci := 4) (C := RM) (T := TM) (N := 26) hx hb hts inM hown hK hP (q := 0) hm.1 rfl 13 (by decide) (hts _ tw_397) (fun _ h9 => h9) rfl dM_netPaid_72 ?_
          refine lv_iload hx hb dM_netPaid_75 (lv_at hl 0 rfl) ?_
          refine ka_lald hx hb hK hP 1 (q := 8) hm.2.2.2.2.2.2.2.2.1 rfl (by first | assumption | exact vp_in_nI (by omega) (by omega)) dM_netPaid_77 ?_
          refine lv_lsub hx hb dM_netPaid_78 ?_
          refine lv_goto (tgt := 83) hx hb dM_netPaid_79 (by decide) ?_
          refine lv_lstore_n (lv' := [(3, .long (v - ((m.2.2.2 2) (nI k).toNatClampNeg))), (5, .int (nI k)), (0, .ref (d 0)), (1, .int (p)), (2, .int (q))]) hx hb dM_netPaid_83 rfl hl (by decide) rfl (fun ls hl => ?_)
          refine lv_iinc (v := nI (k + 1)) (lv' := [(5, .int (nI (k + 1))), (3, .long (v - ((m.2.2.2 2) (nI k).toNatClampNeg))), (0, .ref (d 0)), (1, .int (p)), (2, .int (q))]) hx hb dM_netPaid_84 hl (k := 1) rfl (nI_add k 1) (by decide) rfl (fun ls hl => ?_)
          refine lv_goto (tgt := 5) hx hb dM_netPaid_87 (by decide) ?_
          exact ih n (k + 1, v - ((m.2.2.2 2) (nI k).toNatClampNeg)) ls (by omega) ⟨by omega, by omega, by rw [← hE, f_M_netPaid_l_s, if_neg c_11, if_neg c_22, if_pos c_56, if_pos c_67], lv_sub hl [0, 1, 2, 3, 4] rfl⟩
    · refine lv_aload_n hx hb dM_netPaid_25 rfl (lv_at hl 2 rfl) ?_
      refine ka_get (ci := 4) (C := RM) (T := TM) (N := 26) hx hb hts inM hown hK hP (q := 0) hm.1 rfl 12 (by decide) (hts _ tw_396) (fun _ h9 => h9) rfl dM_netPaid_26 ?_
      refine lv_iload hx hb dM_netPaid_29 (lv_at hl 0 rfl) ?_
      refine ka_iald hx hb hK hP 0 (q := 7) hm.2.2.2.2.2.2.2.1 rfl (by first | assumption | exact vp_in_nI (by omega) (by omega)) dM_netPaid_31 ?_
      refine lv_iload_n hx hb dM_netPaid_32 rfl (lv_at hl 4 rfl) ?_
      refine lv_icmp_ne (tgt := 48) hx hb dM_netPaid_33 (by decide) (fun c_33 => ?_) (fun c_33 => ?_)
      · refine lv_aload_n hx hb dM_netPaid_48 rfl (lv_at hl 2 rfl) ?_
        refine ka_get (ci := 4) (C := RM) (T := TM) (N := 26) hx hb hts inM hown hK hP (q := 0) hm.1 rfl 11 (by decide) (hts _ tw_395) (fun _ h9 => h9) rfl dM_netPaid_49 ?_
        refine lv_iload hx hb dM_netPaid_52 (lv_at hl 0 rfl) ?_
        refine ka_iald hx hb hK hP 0 (q := 6) hm.2.2.2.2.2.2.1 rfl (by first | assumption | exact vp_in_nI (by omega) (by omega)) dM_netPaid_54 ?_
        refine lv_iload_n hx hb dM_netPaid_55 rfl (lv_at hl 4 rfl) ?_
        refine lv_icmp_ne (tgt := 82) hx hb dM_netPaid_56 (by decide) (fun c_56 => ?_) (fun c_56 => ?_)
        · refine lv_lload_n hx hb dM_netPaid_82 rfl (lv_at hl 1 rfl) ?_
          refine lv_lstore_n (lv' := [(3, .long (v)), (5, .int (nI k)), (0, .ref (d 0)), (1, .int (p)), (2, .int (q))]) hx hb dM_netPaid_83 rfl hl (by decide) rfl (fun ls hl => ?_)
          refine lv_iinc (v := nI (k + 1)) (lv' := [(5, .int (nI (k + 1))), (3, .long (v)), (0, .ref (d 0)), (1, .int (p)), (2, .int (q))]) hx hb dM_netPaid_84 hl (k := 1) rfl (nI_add k 1) (by decide) rfl (fun ls hl => ?_)
          refine lv_goto (tgt := 5) hx hb dM_netPaid_87 (by decide) ?_
          exact ih n (k + 1, v) ls (by omega) ⟨by omega, by omega, by rw [← hE, f_M_netPaid_l_s, if_neg c_11, if_pos c_22, if_neg c_33, if_neg c_56], lv_sub hl [0, 1, 2, 3, 4] rfl⟩
        · refine lv_aload_n hx hb dM_netPaid_59 rfl (lv_at hl 2 rfl) ?_
          refine ka_get (ci := 4) (C := RM) (T := TM) (N := 26) hx hb hts inM hown hK hP (q := 0) hm.1 rfl 12 (by decide) (hts _ tw_396) (fun _ h9 => h9) rfl dM_netPaid_60 ?_
          refine lv_iload hx hb dM_netPaid_63 (lv_at hl 0 rfl) ?_
          refine ka_iald hx hb hK hP 0 (q := 7) hm.2.2.2.2.2.2.2.1 rfl (by first | assumption | exact vp_in_nI (by omega) (by omega)) dM_netPaid_65 ?_
          refine lv_iload_n hx hb dM_netPaid_66 rfl (lv_at hl 3 rfl) ?_
          refine lv_icmp_ne (tgt := 82) hx hb dM_netPaid_67 (by decide) (fun c_67 => ?_) (fun c_67 => ?_)
          · refine lv_lload_n hx hb dM_netPaid_82 rfl (lv_at hl 1 rfl) ?_
            refine lv_lstore_n (lv' := [(3, .long (v)), (5, .int (nI k)), (0, .ref (d 0)), (1, .int (p)), (2, .int (q))]) hx hb dM_netPaid_83 rfl hl (by decide) rfl (fun ls hl => ?_)
            refine lv_iinc (v := nI (k + 1)) (lv' := [(5, .int (nI (k + 1))), (3, .long (v)), (0, .ref (d 0)), (1, .int (p)), (2, .int (q))]) hx hb dM_netPaid_84 hl (k := 1) rfl (nI_add k 1) (by decide) rfl (fun ls hl => ?_)
            refine lv_goto (tgt := 5) hx hb dM_netPaid_87 (by decide) ?_
            exact ih n (k + 1, v) ls (by omega) ⟨by omega, by omega, by rw [← hE, f_M_netPaid_l_s, if_neg c_11, if_pos c_22, if_neg c_33, if_pos c_56, if_neg c_67], lv_sub hl [0, 1, 2, 3, 4] rfl⟩
          · refine lv_lload_n hx hb dM_netPaid_70 rfl (lv_at hl 1 rfl) ?_
            refine lv_aload_n hx hb dM_netPaid_71 rfl (lv_at hl 2 rfl) ?_
            refine ka_get (ci := 4) (C := RM) (T := TM) (N := 26) hx hb hts inM hown hK hP (q := 0) hm.1 rfl 13 (by decide) (hts _ tw_397) (fun _ h9 => h9) rfl dM_netPaid_72 ?_
            refine lv_iload hx hb dM_netPaid_75 (lv_at hl 0 rfl) ?_
            refine ka_lald hx hb hK hP 1 (q := 8) hm.2.2.2.2.2.2.2.2.1 rfl (by first | assumption | exact vp_in_nI (by omega) (by omega)) dM_netPaid_77 ?_
            refine lv_lsub hx hb dM_netPaid_78 ?_
            refine lv_goto (tgt := 83) hx hb dM_netPaid_79 (by decide) ?_
            refine lv_lstore_n (lv' := [(3, .long (v - ((m.2.2.2 2) (nI k).toNatClampNeg))), (5, .int (nI k)), (0, .ref (d 0)), (1, .int (p)), (2, .int (q))]) hx hb dM_netPaid_83 rfl hl (by decide) rfl (fun ls hl => ?_)
            refine lv_iinc (v := nI (k + 1)) (lv' := [(5, .int (nI (k + 1))), (3, .long (v - ((m.2.2.2 2) (nI k).toNatClampNeg))), (0, .ref (d 0)), (1, .int (p)), (2, .int (q))]) hx hb dM_netPaid_84 hl (k := 1) rfl (nI_add k 1) (by decide) rfl (fun ls hl => ?_)
            refine lv_goto (tgt := 5) hx hb dM_netPaid_87 (by decide) ?_
            exact ih n (k + 1, v - ((m.2.2.2 2) (nI k).toNatClampNeg)) ls (by omega) ⟨by omega, by omega, by rw [← hE, f_M_netPaid_l_s, if_neg c_11, if_pos c_22, if_neg c_33, if_pos c_56, if_pos c_67], lv_sub hl [0, 1, 2, 3, 4] rfl⟩
      · refine lv_lload_n hx hb dM_netPaid_36 rfl (lv_at hl 1 rfl) ?_
        refine lv_aload_n hx hb dM_netPaid_37 rfl (lv_at hl 2 rfl) ?_
        refine ka_get (ci := 4) (C := RM) (T := TM) (N := 26) hx hb hts inM hown hK hP (q := 0) hm.1 rfl 13 (by decide) (hts _ tw_397) (fun _ h9 => h9) rfl dM_netPaid_38 ?_
        refine lv_iload hx hb dM_netPaid_41 (lv_at hl 0 rfl) ?_
        refine ka_lald hx hb hK hP 1 (q := 8) hm.2.2.2.2.2.2.2.2.1 rfl (by first | assumption | exact vp_in_nI (by omega) (by omega)) dM_netPaid_43 ?_
        refine lv_ladd hx hb dM_netPaid_44 ?_
        refine lv_goto (tgt := 83) hx hb dM_netPaid_45 (by decide) ?_
        refine lv_lstore_n (lv' := [(3, .long (v + ((m.2.2.2 2) (nI k).toNatClampNeg))), (5, .int (nI k)), (0, .ref (d 0)), (1, .int (p)), (2, .int (q))]) hx hb dM_netPaid_83 rfl hl (by decide) rfl (fun ls hl => ?_)
        refine lv_iinc (v := nI (k + 1)) (lv' := [(5, .int (nI (k + 1))), (3, .long (v + ((m.2.2.2 2) (nI k).toNatClampNeg))), (0, .ref (d 0)), (1, .int (p)), (2, .int (q))]) hx hb dM_netPaid_84 hl (k := 1) rfl (nI_add k 1) (by decide) rfl (fun ls hl => ?_)
        refine lv_goto (tgt := 5) hx hb dM_netPaid_87 (by decide) ?_
        exact ih n (k + 1, v + ((m.2.2.2 2) (nI k).toNatClampNeg)) ls (by omega) ⟨by omega, by omega, by rw [← hE, f_M_netPaid_l_s, if_neg c_11, if_pos c_22, if_pos c_33], lv_sub hl [0, 1, 2, 3, 4] rfl⟩

theorem dM_limitAt_0 : decode prog_6_method_13_code 0 = .ok (.iconst (-1), 1) := by decide +kernel
theorem dM_limitAt_1 : decode prog_6_method_13_code 1 = .ok (.istore_n 3, 1) := by decide +kernel
theorem dM_limitAt_2 : decode prog_6_method_13_code 2 = .ok (.iconst 0, 1) := by decide +kernel
theorem dM_limitAt_3 : decode prog_6_method_13_code 3 = .ok (.istore 4, 2) := by decide +kernel
theorem dM_limitAt_5 : decode prog_6_method_13_code 5 = .ok (.iload 4, 2) := by decide +kernel
theorem dM_limitAt_7 : decode prog_6_method_13_code 7 = .ok (.aload_n 0, 1) := by decide +kernel
theorem dM_limitAt_8 : decode prog_6_method_13_code 8 = .ok (.getfield 109, 3) := by decide +kernel
theorem dM_limitAt_11 : decode prog_6_method_13_code 11 = .ok (.if_icmp .ge 38, 3) := by decide +kernel
theorem dM_limitAt_14 : decode prog_6_method_13_code 14 = .ok (.aload_n 0, 1) := by decide +kernel
theorem dM_limitAt_15 : decode prog_6_method_13_code 15 = .ok (.getfield 45, 3) := by decide +kernel
theorem dM_limitAt_18 : decode prog_6_method_13_code 18 = .ok (.iload 4, 2) := by decide +kernel
theorem dM_limitAt_20 : decode prog_6_method_13_code 20 = .ok (.iaload, 1) := by decide +kernel
theorem dM_limitAt_21 : decode prog_6_method_13_code 21 = .ok (.iload_n 1, 1) := by decide +kernel
theorem dM_limitAt_22 : decode prog_6_method_13_code 22 = .ok (.if_icmp .ne 19, 3) := by decide +kernel
theorem dM_limitAt_25 : decode prog_6_method_13_code 25 = .ok (.aload_n 0, 1) := by decide +kernel
theorem dM_limitAt_26 : decode prog_6_method_13_code 26 = .ok (.getfield 48, 3) := by decide +kernel
theorem dM_limitAt_29 : decode prog_6_method_13_code 29 = .ok (.iload 4, 2) := by decide +kernel
theorem dM_limitAt_31 : decode prog_6_method_13_code 31 = .ok (.iaload, 1) := by decide +kernel
theorem dM_limitAt_32 : decode prog_6_method_13_code 32 = .ok (.iload_n 2, 1) := by decide +kernel
theorem dM_limitAt_33 : decode prog_6_method_13_code 33 = .ok (.if_icmp .ne 8, 3) := by decide +kernel
theorem dM_limitAt_36 : decode prog_6_method_13_code 36 = .ok (.iload 4, 2) := by decide +kernel
theorem dM_limitAt_38 : decode prog_6_method_13_code 38 = .ok (.goto 4, 3) := by decide +kernel
theorem dM_limitAt_41 : decode prog_6_method_13_code 41 = .ok (.iload_n 3, 1) := by decide +kernel
theorem dM_limitAt_42 : decode prog_6_method_13_code 42 = .ok (.istore_n 3, 1) := by decide +kernel
theorem dM_limitAt_43 : decode prog_6_method_13_code 43 = .ok (.iinc 4 1, 3) := by decide +kernel
theorem dM_limitAt_46 : decode prog_6_method_13_code 46 = .ok (.goto (-41), 3) := by decide +kernel
theorem dM_limitAt_49 : decode prog_6_method_13_code 49 = .ok (.iload_n 3, 1) := by decide +kernel
theorem dM_limitAt_50 : decode prog_6_method_13_code 50 = .ok (.ireturn, 1) := by decide +kernel
def f_M_limitAt_l (m : MS) (p : Int32) (q : Int32) : Nat → Nat → Int32 → Int32
  | 0, _, _ => 0
  | n + 1, k, at9 => if (nI (m.1 6)) ≤ (nI k) then at9 else (if ((m.2.2.1 6) (nI k).toNatClampNeg) = p then (if ((m.2.2.1 7) (nI k).toNatClampNeg) = q then (f_M_limitAt_l m p q n (k + 1) (nI k)) else (f_M_limitAt_l m p q n (k + 1) at9)) else (f_M_limitAt_l m p q n (k + 1) at9))
theorem f_M_limitAt_l_s (m : MS) (p : Int32) (q : Int32) (n : Nat) (k : Nat) (at9 : Int32) : f_M_limitAt_l m p q (n + 1) k at9 = (if (nI (m.1 6)) ≤ (nI k) then at9 else (if ((m.2.2.1 6) (nI k).toNatClampNeg) = p then (if ((m.2.2.1 7) (nI k).toNatClampNeg) = q then (f_M_limitAt_l m p q n (k + 1) (nI k)) else (f_M_limitAt_l m p q n (k + 1) at9)) else (f_M_limitAt_l m p q n (k + 1) at9))) := rfl
def f_M_limitAt (m : MS) (p : Int32) (q : Int32) : Int32 := f_M_limitAt_l m p q (m.1 6 + 1) 0 (-1)
set_option maxHeartbeats 4000000 in
set_option maxRecDepth 100000 in
theorem c_M_limitAt (l : Launch) (D : va_G) (cI cL cQ : ClassId) (d : Nat → Nat) (κ : Nat → Option va_E) (m : MS) (hm : IsM cI cL d κ m) (hB : MB m) (sz : Nat) (p : Int32) (q : Int32)  : Met l yM_limitAt wM_limitAt { frames := 0, cells := 0, slots := 0, locals := 0 } (va_Pc [.ref (d 0), .int (p), .int (q)] (kC D vCl (kT cI cL cQ) d κ sz)) (vp_Si (fun r => r = f_M_limitAt m p q)) 0 0 (fun _ => False) := by
  refine kMet (by decide) (Nat.le_of_ble_eq_true rfl) ?_
  intro p0 e0 s0 m0 below0 meth0 c0 hx hb hr hml hown hlocks hin hts hsz hP hK ls hl
  have hl : lv_has ls 5 [(0, .ref (d 0)), (1, .int (p)), (2, .int (q))] := hl
  have hB9 := hB
  obtain ⟨hb0, hb1, hb2, hb3, hb4, hb5, hb6, hb7, hb8, hb9, hb10⟩ := hB9
  refine lv_iconst (v := -1) hx hb dM_limitAt_0 (by decide) ?_
  refine lv_istore_n (lv' := [(3, .int (-1)), (0, .ref (d 0)), (1, .int (p)), (2, .int (q))]) hx hb dM_limitAt_1 rfl hl (by decide) rfl (fun ls hl => ?_)
  refine lv_iconst (v := 0) hx hb dM_limitAt_2 (by decide) ?_
  refine lv_istore (lv' := [(4, .int (0)), (3, .int (-1)), (0, .ref (d 0)), (1, .int (p)), (2, .int (q))]) hx hb dM_limitAt_3 hl (by decide) rfl (fun ls hl => ?_)
  refine k_rec (σ := Nat × Int32) (fun n z9 ls => z9.1 ≤ m.1 6 ∧ m.1 6 < z9.1 + n ∧ f_M_limitAt_l m p q n z9.1 z9.2 = f_M_limitAt m p q ∧ lv_has ls 5 [(4, .int (nI z9.1)), (3, .int z9.2), (0, .ref (d 0)), (1, .int (p)), (2, .int (q))]) (m.1 6 + 1) (0, -1) ⟨by omega, by omega, by rw [f_M_limitAt], lv_sub hl [0, 1, 2, 3, 4] rfl⟩ ?_
  intro n z9 ls hI ih
  obtain ⟨k, at9⟩ := z9
  obtain ⟨hk, hn, hE, hl⟩ := hI
  dsimp only at hk hn hE hl
  obtain ⟨n, rfl⟩ : ∃ q, n = q + 1 := ⟨n - 1, by omega⟩
  refine lv_iload hx hb dM_limitAt_5 (lv_at hl 0 rfl) ?_
  refine lv_aload_n hx hb dM_limitAt_7 rfl (lv_at hl 2 rfl) ?_
  refine ka_get (ci := 4) (C := RM) (T := TM) (N := 26) hx hb hts inM hown hK hP (q := 0) hm.1 rfl 17 (by decide) (hts _ tw_401) (fun _ h9 => h9) rfl dM_limitAt_8 ?_
  refine lv_icmp_ge (tgt := 49) hx hb dM_limitAt_11 (by decide) (fun c_11 => ?_) (fun c_11 => ?_)
  · refine lv_iload_n hx hb dM_limitAt_49 rfl (lv_at hl 1 rfl) ?_
    exact W.iret (v := at9) hx hb hr (fun t ht hW => ⟨_, rfl, by rw [← hE, f_M_limitAt_l_s, if_pos c_11], ht⟩) (fun q h => by cases h) dM_limitAt_50
  · have hlt : k < m.1 6 := Nat.lt_of_not_le (fun q => c_11 (nI_le q (by omega)))
    refine lv_aload_n hx hb dM_limitAt_14 rfl (lv_at hl 2 rfl) ?_
    refine ka_get (ci := 4) (C := RM) (T := TM) (N := 26) hx hb hts inM hown hK hP (q := 0) hm.1 rfl 18 (by decide) (hts _ tw_402) (fun _ h9 => h9) rfl dM_limitAt_15 ?_
    refine lv_iload hx hb dM_limitAt_18 (lv_at hl 0 rfl) ?_
    refine ka_iald hx hb hK hP 0 (q := 11) hm.2.2.2.2.2.2.2.2.2.2.2.1 rfl (by first | assumption | exact vp_in_nI (by omega) (by omega)) dM_limitAt_20 ?_
    refine lv_iload_n hx hb dM_limitAt_21 rfl (lv_at hl 3 rfl) ?_
    refine lv_icmp_ne (tgt := 41) hx hb dM_limitAt_22 (by decide) (fun c_22 => ?_) (fun c_22 => ?_)
    · refine lv_iload_n hx hb dM_limitAt_41 rfl (lv_at hl 1 rfl) ?_
      refine lv_istore_n (lv' := [(3, .int (at9)), (4, .int (nI k)), (0, .ref (d 0)), (1, .int (p)), (2, .int (q))]) hx hb dM_limitAt_42 rfl hl (by decide) rfl (fun ls hl => ?_)
      refine lv_iinc (v := nI (k + 1)) (lv' := [(4, .int (nI (k + 1))), (3, .int (at9)), (0, .ref (d 0)), (1, .int (p)), (2, .int (q))]) hx hb dM_limitAt_43 hl (k := 1) rfl (nI_add k 1) (by decide) rfl (fun ls hl => ?_)
      refine lv_goto (tgt := 5) hx hb dM_limitAt_46 (by decide) ?_
      exact ih n (k + 1, at9) ls (by omega) ⟨by omega, by omega, by rw [← hE, f_M_limitAt_l_s, if_neg c_11, if_neg c_22], lv_sub hl [0, 1, 2, 3, 4] rfl⟩
    · refine lv_aload_n hx hb dM_limitAt_25 rfl (lv_at hl 2 rfl) ?_
      refine ka_get (ci := 4) (C := RM) (T := TM) (N := 26) hx hb hts inM hown hK hP (q := 0) hm.1 rfl 19 (by decide) (hts _ tw_403) (fun _ h9 => h9) rfl dM_limitAt_26 ?_
      refine lv_iload hx hb dM_limitAt_29 (lv_at hl 0 rfl) ?_
      refine ka_iald hx hb hK hP 0 (q := 12) hm.2.2.2.2.2.2.2.2.2.2.2.2.1 rfl (by first | assumption | exact vp_in_nI (by omega) (by omega)) dM_limitAt_31 ?_
      refine lv_iload_n hx hb dM_limitAt_32 rfl (lv_at hl 4 rfl) ?_
      refine lv_icmp_ne (tgt := 41) hx hb dM_limitAt_33 (by decide) (fun c_33 => ?_) (fun c_33 => ?_)
      · refine lv_iload_n hx hb dM_limitAt_41 rfl (lv_at hl 1 rfl) ?_
        refine lv_istore_n (lv' := [(3, .int (at9)), (4, .int (nI k)), (0, .ref (d 0)), (1, .int (p)), (2, .int (q))]) hx hb dM_limitAt_42 rfl hl (by decide) rfl (fun ls hl => ?_)
        refine lv_iinc (v := nI (k + 1)) (lv' := [(4, .int (nI (k + 1))), (3, .int (at9)), (0, .ref (d 0)), (1, .int (p)), (2, .int (q))]) hx hb dM_limitAt_43 hl (k := 1) rfl (nI_add k 1) (by decide) rfl (fun ls hl => ?_)
        refine lv_goto (tgt := 5) hx hb dM_limitAt_46 (by decide) ?_
        exact ih n (k + 1, at9) ls (by omega) ⟨by omega, by omega, by rw [← hE, f_M_limitAt_l_s, if_neg c_11, if_pos c_22, if_neg c_33], lv_sub hl [0, 1, 2, 3, 4] rfl⟩
      · refine lv_iload hx hb dM_limitAt_36 (lv_at hl 0 rfl) ?_
        refine lv_goto (tgt := 42) hx hb dM_limitAt_38 (by decide) ?_
        refine lv_istore_n (lv' := [(3, .int (nI k)), (4, .int (nI k)), (0, .ref (d 0)), (1, .int (p)), (2, .int (q))]) hx hb dM_limitAt_42 rfl hl (by decide) rfl (fun ls hl => ?_)
        refine lv_iinc (v := nI (k + 1)) (lv' := [(4, .int (nI (k + 1))), (3, .int (nI k)), (0, .ref (d 0)), (1, .int (p)), (2, .int (q))]) hx hb dM_limitAt_43 hl (k := 1) rfl (nI_add k 1) (by decide) rfl (fun ls hl => ?_)
        refine lv_goto (tgt := 5) hx hb dM_limitAt_46 (by decide) ?_
        exact ih n (k + 1, nI k) ls (by omega) ⟨by omega, by omega, by rw [← hE, f_M_limitAt_l_s, if_neg c_11, if_pos c_22, if_pos c_33], lv_sub hl [0, 1, 2, 3, 4] rfl⟩

theorem dM_creditOf_0 : decode prog_6_method_6_code 0 = .ok (.lconst 0, 1) := by decide +kernel
theorem dM_creditOf_1 : decode prog_6_method_6_code 1 = .ok (.lstore_n 2, 1) := by decide +kernel
theorem dM_creditOf_2 : decode prog_6_method_6_code 2 = .ok (.iconst 0, 1) := by decide +kernel
theorem dM_creditOf_3 : decode prog_6_method_6_code 3 = .ok (.istore 4, 2) := by decide +kernel
theorem dM_creditOf_5 : decode prog_6_method_6_code 5 = .ok (.iload 4, 2) := by decide +kernel
theorem dM_creditOf_7 : decode prog_6_method_6_code 7 = .ok (.aload_n 0, 1) := by decide +kernel
theorem dM_creditOf_8 : decode prog_6_method_6_code 8 = .ok (.getfield 85, 3) := by decide +kernel
theorem dM_creditOf_11 : decode prog_6_method_6_code 11 = .ok (.if_icmp .ge 67, 3) := by decide +kernel
theorem dM_creditOf_14 : decode prog_6_method_6_code 14 = .ok (.aload_n 0, 1) := by decide +kernel
theorem dM_creditOf_15 : decode prog_6_method_6_code 15 = .ok (.getfield 13, 3) := by decide +kernel
theorem dM_creditOf_18 : decode prog_6_method_6_code 18 = .ok (.iload 4, 2) := by decide +kernel
theorem dM_creditOf_20 : decode prog_6_method_6_code 20 = .ok (.iaload, 1) := by decide +kernel
theorem dM_creditOf_21 : decode prog_6_method_6_code 21 = .ok (.iconst 1, 1) := by decide +kernel
theorem dM_creditOf_22 : decode prog_6_method_6_code 22 = .ok (.if_icmp .ne 32, 3) := by decide +kernel
theorem dM_creditOf_25 : decode prog_6_method_6_code 25 = .ok (.lload_n 2, 1) := by decide +kernel
theorem dM_creditOf_26 : decode prog_6_method_6_code 26 = .ok (.aload_n 0, 1) := by decide +kernel
theorem dM_creditOf_27 : decode prog_6_method_6_code 27 = .ok (.iload_n 1, 1) := by decide +kernel
theorem dM_creditOf_28 : decode prog_6_method_6_code 28 = .ok (.iload 4, 2) := by decide +kernel
theorem dM_creditOf_30 : decode prog_6_method_6_code 30 = .ok (.invokevirtual 88, 3) := by decide +kernel
theorem dM_creditOf_33 : decode prog_6_method_6_code 33 = .ok (.aload_n 0, 1) := by decide +kernel
theorem dM_creditOf_34 : decode prog_6_method_6_code 34 = .ok (.getfield 17, 3) := by decide +kernel
theorem dM_creditOf_37 : decode prog_6_method_6_code 37 = .ok (.iload 4, 2) := by decide +kernel
theorem dM_creditOf_39 : decode prog_6_method_6_code 39 = .ok (.laload, 1) := by decide +kernel
theorem dM_creditOf_40 : decode prog_6_method_6_code 40 = .ok (.aload_n 0, 1) := by decide +kernel
theorem dM_creditOf_41 : decode prog_6_method_6_code 41 = .ok (.getfield 21, 3) := by decide +kernel
theorem dM_creditOf_44 : decode prog_6_method_6_code 44 = .ok (.iload 4, 2) := by decide +kernel
theorem dM_creditOf_46 : decode prog_6_method_6_code 46 = .ok (.iaload, 1) := by decide +kernel
theorem dM_creditOf_47 : decode prog_6_method_6_code 47 = .ok (.invokestatic 92, 3) := by decide +kernel
theorem dM_creditOf_50 : decode prog_6_method_6_code 50 = .ok (.ladd, 1) := by decide +kernel
theorem dM_creditOf_51 : decode prog_6_method_6_code 51 = .ok (.goto 4, 3) := by decide +kernel
theorem dM_creditOf_54 : decode prog_6_method_6_code 54 = .ok (.lload_n 2, 1) := by decide +kernel
theorem dM_creditOf_55 : decode prog_6_method_6_code 55 = .ok (.lstore_n 2, 1) := by decide +kernel
theorem dM_creditOf_56 : decode prog_6_method_6_code 56 = .ok (.lload_n 2, 1) := by decide +kernel
theorem dM_creditOf_57 : decode prog_6_method_6_code 57 = .ok (.ldc2_w 83, 3) := by decide +kernel
theorem dM_creditOf_60 : decode prog_6_method_6_code 60 = .ok (.lcmp, 1) := by decide +kernel
theorem dM_creditOf_61 : decode prog_6_method_6_code 61 = .ok (.ifCond .le 9, 3) := by decide +kernel
theorem dM_creditOf_64 : decode prog_6_method_6_code 64 = .ok (.ldc2_w 83, 3) := by decide +kernel
theorem dM_creditOf_67 : decode prog_6_method_6_code 67 = .ok (.goto 4, 3) := by decide +kernel
theorem dM_creditOf_70 : decode prog_6_method_6_code 70 = .ok (.lload_n 2, 1) := by decide +kernel
theorem dM_creditOf_71 : decode prog_6_method_6_code 71 = .ok (.lstore_n 2, 1) := by decide +kernel
theorem dM_creditOf_72 : decode prog_6_method_6_code 72 = .ok (.iinc 4 1, 3) := by decide +kernel
theorem dM_creditOf_75 : decode prog_6_method_6_code 75 = .ok (.goto (-70), 3) := by decide +kernel
theorem dM_creditOf_78 : decode prog_6_method_6_code 78 = .ok (.lload_n 2, 1) := by decide +kernel
theorem dM_creditOf_79 : decode prog_6_method_6_code 79 = .ok (.lreturn, 1) := by decide +kernel
def f_M_creditOf_l (m : MS) (p : Int32) : Nat → Nat → Int64 → Int64
  | 0, _, _ => 0
  | n + 1, a, v => if (nI (m.1 2)) ≤ (nI a) then v else (if ((m.2.2.1 0) (nI a).toNatClampNeg) = 1 then (if 4100000000000000000 < (v + (f_M_worth (f_M_pledged m p (nI a)) ((m.2.2.2 0) (nI a).toNatClampNeg) ((m.2.2.1 1) (nI a).toNatClampNeg))) then (f_M_creditOf_l m p n (a + 1) 4100000000000000000) else (f_M_creditOf_l m p n (a + 1) (v + (f_M_worth (f_M_pledged m p (nI a)) ((m.2.2.2 0) (nI a).toNatClampNeg) ((m.2.2.1 1) (nI a).toNatClampNeg))))) else (if 4100000000000000000 < v then (f_M_creditOf_l m p n (a + 1) 4100000000000000000) else (f_M_creditOf_l m p n (a + 1) v)))
theorem f_M_creditOf_l_s (m : MS) (p : Int32) (n : Nat) (a : Nat) (v : Int64) : f_M_creditOf_l m p (n + 1) a v = (if (nI (m.1 2)) ≤ (nI a) then v else (if ((m.2.2.1 0) (nI a).toNatClampNeg) = 1 then (if 4100000000000000000 < (v + (f_M_worth (f_M_pledged m p (nI a)) ((m.2.2.2 0) (nI a).toNatClampNeg) ((m.2.2.1 1) (nI a).toNatClampNeg))) then (f_M_creditOf_l m p n (a + 1) 4100000000000000000) else (f_M_creditOf_l m p n (a + 1) (v + (f_M_worth (f_M_pledged m p (nI a)) ((m.2.2.2 0) (nI a).toNatClampNeg) ((m.2.2.1 1) (nI a).toNatClampNeg))))) else (if 4100000000000000000 < v then (f_M_creditOf_l m p n (a + 1) 4100000000000000000) else (f_M_creditOf_l m p n (a + 1) v)))) := rfl
def f_M_creditOf (m : MS) (p : Int32) : Int64 := f_M_creditOf_l m p (m.1 2 + 1) 0 0
set_option maxHeartbeats 4000000 in
set_option maxRecDepth 100000 in
theorem c_M_creditOf (l : Launch) (D : va_G) (cI cL cQ : ClassId) (d : Nat → Nat) (κ : Nat → Option va_E) (m : MS) (hm : IsM cI cL d κ m) (hB : MB m) (sz : Nat) (p : Int32)  : Met l yM_creditOf wM_creditOf { frames := 1, cells := 0, slots := 0, locals := 32 } (va_Pc [.ref (d 0), .int (p)] (kC D vCl (kT cI cL cQ) d κ sz)) (vp_Sl (fun r => r = f_M_creditOf m p)) 0 0 (fun _ => False) := by
  refine kMet (by decide) (Nat.le_of_ble_eq_true rfl) ?_
  intro p0 e0 s0 m0 below0 meth0 c0 hx hb hr hml hown hlocks hin hts hsz hP hK ls hl
  have hl : lv_has ls 5 [(0, .ref (d 0)), (1, .int (p))] := hl
  have hB9 := hB
  obtain ⟨hb0, hb1, hb2, hb3, hb4, hb5, hb6, hb7, hb8, hb9, hb10⟩ := hB9
  refine lv_lconst (v := 0) hx hb dM_creditOf_0 (by decide) ?_
  refine lv_lstore_n (lv' := [(2, .long (0)), (0, .ref (d 0)), (1, .int (p))]) hx hb dM_creditOf_1 rfl hl (by decide) rfl (fun ls hl => ?_)
  refine lv_iconst (v := 0) hx hb dM_creditOf_2 (by decide) ?_
  refine lv_istore (lv' := [(4, .int (0)), (2, .long (0)), (0, .ref (d 0)), (1, .int (p))]) hx hb dM_creditOf_3 hl (by decide) rfl (fun ls hl => ?_)
  refine k_rec (σ := Nat × Int64) (fun n z9 ls => z9.1 ≤ m.1 2 ∧ m.1 2 < z9.1 + n ∧ f_M_creditOf_l m p n z9.1 z9.2 = f_M_creditOf m p ∧ lv_has ls 5 [(4, .int (nI z9.1)), (2, .long z9.2), (0, .ref (d 0)), (1, .int (p))]) (m.1 2 + 1) (0, 0) ⟨by omega, by omega, by rw [f_M_creditOf], lv_sub hl [0, 1, 2, 3] rfl⟩ ?_
  intro n z9 ls hI ih
  obtain ⟨a, v⟩ := z9
  obtain ⟨hk, hn, hE, hl⟩ := hI
  dsimp only at hk hn hE hl
  obtain ⟨n, rfl⟩ : ∃ q, n = q + 1 := ⟨n - 1, by omega⟩
  refine lv_iload hx hb dM_creditOf_5 (lv_at hl 0 rfl) ?_
  refine lv_aload_n hx hb dM_creditOf_7 rfl (lv_at hl 2 rfl) ?_
  refine ka_get (ci := 4) (C := RM) (T := TM) (N := 26) hx hb hts inM hown hK hP (q := 0) hm.1 rfl 2 (by decide) (hts _ tw_386) (fun _ h9 => h9) rfl dM_creditOf_8 ?_
  refine lv_icmp_ge (tgt := 78) hx hb dM_creditOf_11 (by decide) (fun c_11 => ?_) (fun c_11 => ?_)
  · refine lv_lload_n hx hb dM_creditOf_78 rfl (lv_at hl 1 rfl) ?_
    exact W.lret (v := v) hx hb hr (fun t ht hW => ⟨_, rfl, by rw [← hE, f_M_creditOf_l_s, if_pos c_11], ht⟩) (fun q h => by cases h) dM_creditOf_79
  · have hlt : a < m.1 2 := Nat.lt_of_not_le (fun q => c_11 (nI_le q (by omega)))
    refine lv_aload_n hx hb dM_creditOf_14 rfl (lv_at hl 2 rfl) ?_
    refine ka_get (ci := 4) (C := RM) (T := TM) (N := 26) hx hb hts inM hown hK hP (q := 0) hm.1 rfl 4 (by decide) (hts _ tw_388) (fun _ h9 => h9) rfl dM_creditOf_15 ?_
    refine lv_iload hx hb dM_creditOf_18 (lv_at hl 0 rfl) ?_
    refine ka_iald hx hb hK hP 0 (q := 1) hm.2.1 rfl (by first | assumption | exact vp_in_nI (by omega) (by omega)) dM_creditOf_20 ?_
    refine lv_iconst (v := 1) hx hb dM_creditOf_21 (by decide) ?_
    refine lv_icmp_ne (tgt := 54) hx hb dM_creditOf_22 (by decide) (fun c_22 => ?_) (fun c_22 => ?_)
    · refine lv_lload_n hx hb dM_creditOf_54 rfl (lv_at hl 1 rfl) ?_
      refine lv_lstore_n (lv' := [(2, .long (v)), (4, .int (nI a)), (0, .ref (d 0)), (1, .int (p))]) hx hb dM_creditOf_55 rfl hl (by decide) rfl (fun ls hl => ?_)
      refine lv_lload_n hx hb dM_creditOf_56 rfl (lv_at hl 0 rfl) ?_
      refine lv_ldc2 (v := 4100000000000000000) hx hb hown (hts _ tw_519) dM_creditOf_57 ?_
      refine kl_le (tgt := 70) hx hb dM_creditOf_60 dM_creditOf_61 (by decide) (fun c_60 => ?_) (fun c_60 => ?_)
      · refine lv_lload_n hx hb dM_creditOf_70 rfl (lv_at hl 0 rfl) ?_
        refine lv_lstore_n (lv' := [(2, .long (v)), (4, .int (nI a)), (0, .ref (d 0)), (1, .int (p))]) hx hb dM_creditOf_71 rfl hl (by decide) rfl (fun ls hl => ?_)
        refine lv_iinc (v := nI (a + 1)) (lv' := [(4, .int (nI (a + 1))), (2, .long (v)), (0, .ref (d 0)), (1, .int (p))]) hx hb dM_creditOf_72 hl (k := 1) rfl (nI_add a 1) (by decide) rfl (fun ls hl => ?_)
        refine lv_goto (tgt := 5) hx hb dM_creditOf_75 (by decide) ?_
        exact ih n (a + 1, v) ls (by omega) ⟨by omega, by omega, by rw [← hE, f_M_creditOf_l_s, if_neg c_11, if_neg c_22, if_neg c_60], lv_sub hl [0, 1, 2, 3] rfl⟩
      · refine lv_ldc2 (v := 4100000000000000000) hx hb hown (hts _ tw_519) dM_creditOf_64 ?_
        refine lv_goto (tgt := 71) hx hb dM_creditOf_67 (by decide) ?_
        refine lv_lstore_n (lv' := [(2, .long (4100000000000000000)), (4, .int (nI a)), (0, .ref (d 0)), (1, .int (p))]) hx hb dM_creditOf_71 rfl hl (by decide) rfl (fun ls hl => ?_)
        refine lv_iinc (v := nI (a + 1)) (lv' := [(4, .int (nI (a + 1))), (2, .long (4100000000000000000)), (0, .ref (d 0)), (1, .int (p))]) hx hb dM_creditOf_72 hl (k := 1) rfl (nI_add a 1) (by decide) rfl (fun ls hl => ?_)
        refine lv_goto (tgt := 5) hx hb dM_creditOf_75 (by decide) ?_
        exact ih n (a + 1, 4100000000000000000) ls (by omega) ⟨by omega, by omega, by rw [← hE, f_M_creditOf_l_s, if_neg c_11, if_neg c_22, if_pos c_60], lv_sub hl [0, 1, 2, 3] rfl⟩
    · refine lv_lload_n hx hb dM_creditOf_25 rfl (lv_at hl 1 rfl) ?_
      refine lv_aload_n hx hb dM_creditOf_26 rfl (lv_at hl 2 rfl) ?_
      refine lv_iload_n hx hb dM_creditOf_27 rfl (lv_at hl 3 rfl) ?_
      refine lv_iload hx hb dM_creditOf_28 (lv_at hl 0 rfl) ?_
      refine vp_callSl (W.runV (C := RM) (As := [.int (p), .int (nI a)]) (rest := [.long (v)]) ⟨hx, hb, hml, hown, hts⟩ (c_M_pledged l D cI cL cQ d κ m hm hB _ p (nI a)) (cwV 2 hts (k_gV tw_511 tw_513 tw_29 tw_41 tw_514) rfl rfl rfl (by decide +kernel) ⟨Nat.le_of_ble_eq_true rfl, Nat.le_of_ble_eq_true rfl⟩) (kPreV hP hK (q := 0) hm.1 rfl) rfl rfl hl.1 rfl (lv_room (Nat.le_of_ble_eq_true rfl)) dM_creditOf_30 ⟨Nat.le_of_ble_eq_true rfl, Nat.le_of_ble_eq_true rfl⟩) (fun r_30 e_30 => ?_)
      subst e_30
      refine lv_aload_n hx hb dM_creditOf_33 rfl (lv_at hl 2 rfl) ?_
      refine ka_get (ci := 4) (C := RM) (T := TM) (N := 26) hx hb hts inM hown hK hP (q := 0) hm.1 rfl 5 (by decide) (hts _ tw_389) (fun _ h9 => h9) rfl dM_creditOf_34 ?_
      refine lv_iload hx hb dM_creditOf_37 (lv_at hl 0 rfl) ?_
      refine ka_lald hx hb hK hP 1 (q := 2) hm.2.2.1 rfl (by first | assumption | exact vp_in_nI (by omega) (by omega)) dM_creditOf_39 ?_
      refine lv_aload_n hx hb dM_creditOf_40 rfl (lv_at hl 2 rfl) ?_
      refine ka_get (ci := 4) (C := RM) (T := TM) (N := 26) hx hb hts inM hown hK hP (q := 0) hm.1 rfl 6 (by decide) (hts _ tw_390) (fun _ h9 => h9) rfl dM_creditOf_41 ?_
      refine lv_iload hx hb dM_creditOf_44 (lv_at hl 0 rfl) ?_
      refine ka_iald hx hb hK hP 0 (q := 3) hm.2.2.2.1 rfl (by first | assumption | exact vp_in_nI (by omega) (by omega)) dM_creditOf_46 ?_
      refine vp_callSl (W.runS (As := [.long (f_M_pledged m p (nI a)), .long ((m.2.2.2 0) (nI a).toNatClampNeg), .int ((m.2.2.1 1) (nI a).toNatClampNeg)]) (rest := [.long (v)]) ⟨hx, hb, hml, hown, hts⟩ (c_M_worth l D cI cL cQ d κ _ (f_M_pledged m p (nI a)) ((m.2.2.2 0) (nI a).toNatClampNeg) ((m.2.2.1 1) (nI a).toNatClampNeg) (hB.pr hlt (by assumption))) (cwS 3 hts (k_gS tw_515 tw_516 tw_41 tw_517) rfl rfl rfl (by decide +kernel) ⟨Nat.le_of_ble_eq_true rfl, Nat.le_of_ble_eq_true rfl⟩) (kPreS hP hK) rfl rfl hl.1 rfl (lv_room (Nat.le_of_ble_eq_true rfl)) dM_creditOf_47 ⟨Nat.le_of_ble_eq_true rfl, Nat.le_of_ble_eq_true rfl⟩) (fun r_47 e_47 => ?_)
      subst e_47
      refine lv_ladd hx hb dM_creditOf_50 ?_
      refine lv_goto (tgt := 55) hx hb dM_creditOf_51 (by decide) ?_
      refine lv_lstore_n (lv' := [(2, .long (v + (f_M_worth (f_M_pledged m p (nI a)) ((m.2.2.2 0) (nI a).toNatClampNeg) ((m.2.2.1 1) (nI a).toNatClampNeg)))), (4, .int (nI a)), (0, .ref (d 0)), (1, .int (p))]) hx hb dM_creditOf_55 rfl hl (by decide) rfl (fun ls hl => ?_)
      refine lv_lload_n hx hb dM_creditOf_56 rfl (lv_at hl 0 rfl) ?_
      refine lv_ldc2 (v := 4100000000000000000) hx hb hown (hts _ tw_519) dM_creditOf_57 ?_
      refine kl_le (tgt := 70) hx hb dM_creditOf_60 dM_creditOf_61 (by decide) (fun c_60 => ?_) (fun c_60 => ?_)
      · refine lv_lload_n hx hb dM_creditOf_70 rfl (lv_at hl 0 rfl) ?_
        refine lv_lstore_n (lv' := [(2, .long (v + (f_M_worth (f_M_pledged m p (nI a)) ((m.2.2.2 0) (nI a).toNatClampNeg) ((m.2.2.1 1) (nI a).toNatClampNeg)))), (4, .int (nI a)), (0, .ref (d 0)), (1, .int (p))]) hx hb dM_creditOf_71 rfl hl (by decide) rfl (fun ls hl => ?_)
        refine lv_iinc (v := nI (a + 1)) (lv' := [(4, .int (nI (a + 1))), (2, .long (v + (f_M_worth (f_M_pledged m p (nI a)) ((m.2.2.2 0) (nI a).toNatClampNeg) ((m.2.2.1 1) (nI a).toNatClampNeg)))), (0, .ref (d 0)), (1, .int (p))]) hx hb dM_creditOf_72 hl (k := 1) rfl (nI_add a 1) (by decide) rfl (fun ls hl => ?_)
        refine lv_goto (tgt := 5) hx hb dM_creditOf_75 (by decide) ?_
        exact ih n (a + 1, v + (f_M_worth (f_M_pledged m p (nI a)) ((m.2.2.2 0) (nI a).toNatClampNeg) ((m.2.2.1 1) (nI a).toNatClampNeg))) ls (by omega) ⟨by omega, by omega, by rw [← hE, f_M_creditOf_l_s, if_neg c_11, if_pos c_22, if_neg c_60], lv_sub hl [0, 1, 2, 3] rfl⟩
      · refine lv_ldc2 (v := 4100000000000000000) hx hb hown (hts _ tw_519) dM_creditOf_64 ?_
        refine lv_goto (tgt := 71) hx hb dM_creditOf_67 (by decide) ?_
        refine lv_lstore_n (lv' := [(2, .long (4100000000000000000)), (4, .int (nI a)), (0, .ref (d 0)), (1, .int (p))]) hx hb dM_creditOf_71 rfl hl (by decide) rfl (fun ls hl => ?_)
        refine lv_iinc (v := nI (a + 1)) (lv' := [(4, .int (nI (a + 1))), (2, .long (4100000000000000000)), (0, .ref (d 0)), (1, .int (p))]) hx hb dM_creditOf_72 hl (k := 1) rfl (nI_add a 1) (by decide) rfl (fun ls hl => ?_)
        refine lv_goto (tgt := 5) hx hb dM_creditOf_75 (by decide) ?_
        exact ih n (a + 1, 4100000000000000000) ls (by omega) ⟨by omega, by omega, by rw [← hE, f_M_creditOf_l_s, if_neg c_11, if_pos c_22, if_pos c_60], lv_sub hl [0, 1, 2, 3] rfl⟩

theorem dM_isOwed_0 : decode prog_6_method_7_code 0 = .ok (.lconst 0, 1) := by decide +kernel
theorem dM_isOwed_1 : decode prog_6_method_7_code 1 = .ok (.lstore_n 1, 1) := by decide +kernel
theorem dM_isOwed_2 : decode prog_6_method_7_code 2 = .ok (.iconst 1, 1) := by decide +kernel
theorem dM_isOwed_3 : decode prog_6_method_7_code 3 = .ok (.istore_n 3, 1) := by decide +kernel
theorem dM_isOwed_4 : decode prog_6_method_7_code 4 = .ok (.iload_n 3, 1) := by decide +kernel
theorem dM_isOwed_5 : decode prog_6_method_7_code 5 = .ok (.aload_n 0, 1) := by decide +kernel
theorem dM_isOwed_6 : decode prog_6_method_7_code 6 = .ok (.getfield 66, 3) := by decide +kernel
theorem dM_isOwed_9 : decode prog_6_method_7_code 9 = .ok (.if_icmp .ge 33, 3) := by decide +kernel
theorem dM_isOwed_12 : decode prog_6_method_7_code 12 = .ok (.lload_n 1, 1) := by decide +kernel
theorem dM_isOwed_13 : decode prog_6_method_7_code 13 = .ok (.aload_n 0, 1) := by decide +kernel
theorem dM_isOwed_14 : decode prog_6_method_7_code 14 = .ok (.iload_n 3, 1) := by decide +kernel
theorem dM_isOwed_15 : decode prog_6_method_7_code 15 = .ok (.invokevirtual 96, 3) := by decide +kernel
theorem dM_isOwed_18 : decode prog_6_method_7_code 18 = .ok (.ladd, 1) := by decide +kernel
theorem dM_isOwed_19 : decode prog_6_method_7_code 19 = .ok (.lstore_n 1, 1) := by decide +kernel
theorem dM_isOwed_20 : decode prog_6_method_7_code 20 = .ok (.lload_n 1, 1) := by decide +kernel
theorem dM_isOwed_21 : decode prog_6_method_7_code 21 = .ok (.ldc2_w 83, 3) := by decide +kernel
theorem dM_isOwed_24 : decode prog_6_method_7_code 24 = .ok (.lcmp, 1) := by decide +kernel
theorem dM_isOwed_25 : decode prog_6_method_7_code 25 = .ok (.ifCond .le 9, 3) := by decide +kernel
theorem dM_isOwed_28 : decode prog_6_method_7_code 28 = .ok (.ldc2_w 83, 3) := by decide +kernel
theorem dM_isOwed_31 : decode prog_6_method_7_code 31 = .ok (.goto 4, 3) := by decide +kernel
theorem dM_isOwed_34 : decode prog_6_method_7_code 34 = .ok (.lload_n 1, 1) := by decide +kernel
theorem dM_isOwed_35 : decode prog_6_method_7_code 35 = .ok (.lstore_n 1, 1) := by decide +kernel
theorem dM_isOwed_36 : decode prog_6_method_7_code 36 = .ok (.iinc 3 1, 3) := by decide +kernel
theorem dM_isOwed_39 : decode prog_6_method_7_code 39 = .ok (.goto (-35), 3) := by decide +kernel
theorem dM_isOwed_42 : decode prog_6_method_7_code 42 = .ok (.lload_n 1, 1) := by decide +kernel
theorem dM_isOwed_43 : decode prog_6_method_7_code 43 = .ok (.ldc2_w 100, 3) := by decide +kernel
theorem dM_isOwed_46 : decode prog_6_method_7_code 46 = .ok (.lcmp, 1) := by decide +kernel
theorem dM_isOwed_47 : decode prog_6_method_7_code 47 = .ok (.ifCond .le 7, 3) := by decide +kernel
theorem dM_isOwed_50 : decode prog_6_method_7_code 50 = .ok (.iconst 1, 1) := by decide +kernel
theorem dM_isOwed_51 : decode prog_6_method_7_code 51 = .ok (.goto 4, 3) := by decide +kernel
theorem dM_isOwed_54 : decode prog_6_method_7_code 54 = .ok (.iconst 0, 1) := by decide +kernel
theorem dM_isOwed_55 : decode prog_6_method_7_code 55 = .ok (.ireturn, 1) := by decide +kernel
def f_M_isOwed_l (m : MS) : Nat → Nat → Int64 → Int32
  | 0, _, _ => 0
  | n + 1, p, v => if (nI (m.1 0)) ≤ (nI p) then (if 4000000000000000000 < v then 1 else 0) else (if 4100000000000000000 < (v + (f_M_creditOf m (nI p))) then (f_M_isOwed_l m n (p + 1) 4100000000000000000) else (f_M_isOwed_l m n (p + 1) (v + (f_M_creditOf m (nI p)))))
theorem f_M_isOwed_l_s (m : MS) (n : Nat) (p : Nat) (v : Int64) : f_M_isOwed_l m (n + 1) p v = (if (nI (m.1 0)) ≤ (nI p) then (if 4000000000000000000 < v then 1 else 0) else (if 4100000000000000000 < (v + (f_M_creditOf m (nI p))) then (f_M_isOwed_l m n (p + 1) 4100000000000000000) else (f_M_isOwed_l m n (p + 1) (v + (f_M_creditOf m (nI p)))))) := rfl
def f_M_isOwed (m : MS) : Int32 := f_M_isOwed_l m (m.1 0 + 1) 1 0
set_option maxHeartbeats 4000000 in
set_option maxRecDepth 100000 in
theorem c_M_isOwed (l : Launch) (D : va_G) (cI cL cQ : ClassId) (d : Nat → Nat) (κ : Nat → Option va_E) (m : MS) (hm : IsM cI cL d κ m) (hB : MB m) (sz : Nat)   : Met l yM_isOwed wM_isOwed { frames := 2, cells := 0, slots := 0, locals := 56 } (va_Pc [.ref (d 0)] (kC D vCl (kT cI cL cQ) d κ sz)) (vp_Si (fun r => r = f_M_isOwed m)) 0 0 (fun _ => False) := by
  refine kMet (by decide) (Nat.le_of_ble_eq_true rfl) ?_
  intro p0 e0 s0 m0 below0 meth0 c0 hx hb hr hml hown hlocks hin hts hsz hP hK ls hl
  have hl : lv_has ls 4 [(0, .ref (d 0))] := hl
  have hB9 := hB
  obtain ⟨hb0, hb1, hb2, hb3, hb4, hb5, hb6, hb7, hb8, hb9, hb10⟩ := hB9
  refine lv_lconst (v := 0) hx hb dM_isOwed_0 (by decide) ?_
  refine lv_lstore_n (lv' := [(1, .long (0)), (0, .ref (d 0))]) hx hb dM_isOwed_1 rfl hl (by decide) rfl (fun ls hl => ?_)
  refine lv_iconst (v := 1) hx hb dM_isOwed_2 (by decide) ?_
  refine lv_istore_n (lv' := [(3, .int (1)), (1, .long (0)), (0, .ref (d 0))]) hx hb dM_isOwed_3 rfl hl (by decide) rfl (fun ls hl => ?_)
  refine k_rec (σ := Nat × Int64) (fun n z9 ls => z9.1 ≤ m.1 0 ∧ m.1 0 < z9.1 + n ∧ f_M_isOwed_l m n z9.1 z9.2 = f_M_isOwed m ∧ lv_has ls 4 [(3, .int (nI z9.1)), (1, .long z9.2), (0, .ref (d 0))]) (m.1 0 + 1) (1, 0) ⟨by omega, by omega, by rw [f_M_isOwed], lv_sub hl [0, 1, 2] rfl⟩ ?_
  intro n z9 ls hI ih
  obtain ⟨p, v⟩ := z9
  obtain ⟨hk, hn, hE, hl⟩ := hI
  dsimp only at hk hn hE hl
  obtain ⟨n, rfl⟩ : ∃ q, n = q + 1 := ⟨n - 1, by omega⟩
  refine lv_iload_n hx hb dM_isOwed_4 rfl (lv_at hl 0 rfl) ?_
  refine lv_aload_n hx hb dM_isOwed_5 rfl (lv_at hl 2 rfl) ?_
  refine ka_get (ci := 4) (C := RM) (T := TM) (N := 26) hx hb hts inM hown hK hP (q := 0) hm.1 rfl 0 (by decide) (hts _ tw_384) (fun _ h9 => h9) rfl dM_isOwed_6 ?_
  refine lv_icmp_ge (tgt := 42) hx hb dM_isOwed_9 (by decide) (fun c_9 => ?_) (fun c_9 => ?_)
  · refine lv_lload_n hx hb dM_isOwed_42 rfl (lv_at hl 1 rfl) ?_
    refine lv_ldc2 (v := 4000000000000000000) hx hb hown (hts _ tw_524) dM_isOwed_43 ?_
    refine kl_le (tgt := 54) hx hb dM_isOwed_46 dM_isOwed_47 (by decide) (fun c_46 => ?_) (fun c_46 => ?_)
    · refine lv_iconst (v := 0) hx hb dM_isOwed_54 (by decide) ?_
      exact W.zret (v := 0) hx hb hr k_nar0 (fun t ht hW => ⟨_, rfl, by rw [← hE, f_M_isOwed_l_s, if_pos c_9, if_neg c_46], ht⟩) (fun q h => by cases h) dM_isOwed_55
    · refine lv_iconst (v := 1) hx hb dM_isOwed_50 (by decide) ?_
      refine lv_goto (tgt := 55) hx hb dM_isOwed_51 (by decide) ?_
      exact W.zret (v := 1) hx hb hr k_nar1 (fun t ht hW => ⟨_, rfl, by rw [← hE, f_M_isOwed_l_s, if_pos c_9, if_pos c_46], ht⟩) (fun q h => by cases h) dM_isOwed_55
  · have hlt : p < m.1 0 := Nat.lt_of_not_le (fun q => c_9 (nI_le q (by omega)))
    refine lv_lload_n hx hb dM_isOwed_12 rfl (lv_at hl 1 rfl) ?_
    refine lv_aload_n hx hb dM_isOwed_13 rfl (lv_at hl 2 rfl) ?_
    refine lv_iload_n hx hb dM_isOwed_14 rfl (lv_at hl 0 rfl) ?_
    refine vp_callSl (W.runV (C := RM) (As := [.int (nI p)]) (rest := [.long (v)]) ⟨hx, hb, hml, hown, hts⟩ (c_M_creditOf l D cI cL cQ d κ m hm hB _ (nI p)) (cwV 1 hts (k_gV tw_507 tw_509 tw_28 tw_41 tw_510) rfl rfl rfl (by decide +kernel) ⟨Nat.le_of_ble_eq_true rfl, Nat.le_of_ble_eq_true rfl⟩) (kPreV hP hK (q := 0) hm.1 rfl) rfl rfl hl.1 rfl (lv_room (Nat.le_of_ble_eq_true rfl)) dM_isOwed_15 ⟨Nat.le_of_ble_eq_true rfl, Nat.le_of_ble_eq_true rfl⟩) (fun r_15 e_15 => ?_)
    subst e_15
    refine lv_ladd hx hb dM_isOwed_18 ?_
    refine lv_lstore_n (lv' := [(1, .long (v + (f_M_creditOf m (nI p)))), (3, .int (nI p)), (0, .ref (d 0))]) hx hb dM_isOwed_19 rfl hl (by decide) rfl (fun ls hl => ?_)
    refine lv_lload_n hx hb dM_isOwed_20 rfl (lv_at hl 0 rfl) ?_
    refine lv_ldc2 (v := 4100000000000000000) hx hb hown (hts _ tw_519) dM_isOwed_21 ?_
    refine kl_le (tgt := 34) hx hb dM_isOwed_24 dM_isOwed_25 (by decide) (fun c_24 => ?_) (fun c_24 => ?_)
    · refine lv_lload_n hx hb dM_isOwed_34 rfl (lv_at hl 0 rfl) ?_
      refine lv_lstore_n (lv' := [(1, .long (v + (f_M_creditOf m (nI p)))), (3, .int (nI p)), (0, .ref (d 0))]) hx hb dM_isOwed_35 rfl hl (by decide) rfl (fun ls hl => ?_)
      refine lv_iinc (v := nI (p + 1)) (lv' := [(3, .int (nI (p + 1))), (1, .long (v + (f_M_creditOf m (nI p)))), (0, .ref (d 0))]) hx hb dM_isOwed_36 hl (k := 1) rfl (nI_add p 1) (by decide) rfl (fun ls hl => ?_)
      refine lv_goto (tgt := 4) hx hb dM_isOwed_39 (by decide) ?_
      exact ih n (p + 1, v + (f_M_creditOf m (nI p))) ls (by omega) ⟨by omega, by omega, by rw [← hE, f_M_isOwed_l_s, if_neg c_9, if_neg c_24], lv_sub hl [0, 1, 2] rfl⟩
    · refine lv_ldc2 (v := 4100000000000000000) hx hb hown (hts _ tw_519) dM_isOwed_28 ?_
      refine lv_goto (tgt := 35) hx hb dM_isOwed_31 (by decide) ?_
      refine lv_lstore_n (lv' := [(1, .long (4100000000000000000)), (3, .int (nI p)), (0, .ref (d 0))]) hx hb dM_isOwed_35 rfl hl (by decide) rfl (fun ls hl => ?_)
      refine lv_iinc (v := nI (p + 1)) (lv' := [(3, .int (nI (p + 1))), (1, .long (4100000000000000000)), (0, .ref (d 0))]) hx hb dM_isOwed_36 hl (k := 1) rfl (nI_add p 1) (by decide) rfl (fun ls hl => ?_)
      refine lv_goto (tgt := 4) hx hb dM_isOwed_39 (by decide) ?_
      exact ih n (p + 1, 4100000000000000000) ls (by omega) ⟨by omega, by omega, by rw [← hE, f_M_isOwed_l_s, if_neg c_9, if_pos c_24], lv_sub hl [0, 1, 2] rfl⟩

theorem dM_isShort_0 : decode prog_6_method_8_code 0 = .ok (.aload_n 0, 1) := by decide +kernel
theorem dM_isShort_1 : decode prog_6_method_8_code 1 = .ok (.getfield 7, 3) := by decide +kernel
theorem dM_isShort_4 : decode prog_6_method_8_code 4 = .ok (.ifCond .lt 26, 3) := by decide +kernel
theorem dM_isShort_7 : decode prog_6_method_8_code 7 = .ok (.aload_n 0, 1) := by decide +kernel
theorem dM_isShort_8 : decode prog_6_method_8_code 8 = .ok (.iload_n 1, 1) := by decide +kernel
theorem dM_isShort_9 : decode prog_6_method_8_code 9 = .ok (.aload_n 0, 1) := by decide +kernel
theorem dM_isShort_10 : decode prog_6_method_8_code 10 = .ok (.getfield 7, 3) := by decide +kernel
theorem dM_isShort_13 : decode prog_6_method_8_code 13 = .ok (.invokevirtual 102, 3) := by decide +kernel
theorem dM_isShort_16 : decode prog_6_method_8_code 16 = .ok (.aload_n 0, 1) := by decide +kernel
theorem dM_isShort_17 : decode prog_6_method_8_code 17 = .ok (.iload_n 1, 1) := by decide +kernel
theorem dM_isShort_18 : decode prog_6_method_8_code 18 = .ok (.invokevirtual 96, 3) := by decide +kernel
theorem dM_isShort_21 : decode prog_6_method_8_code 21 = .ok (.lneg, 1) := by decide +kernel
theorem dM_isShort_22 : decode prog_6_method_8_code 22 = .ok (.lcmp, 1) := by decide +kernel
theorem dM_isShort_23 : decode prog_6_method_8_code 23 = .ok (.ifCond .ge 7, 3) := by decide +kernel
theorem dM_isShort_26 : decode prog_6_method_8_code 26 = .ok (.iconst 1, 1) := by decide +kernel
theorem dM_isShort_27 : decode prog_6_method_8_code 27 = .ok (.goto 4, 3) := by decide +kernel
theorem dM_isShort_30 : decode prog_6_method_8_code 30 = .ok (.iconst 0, 1) := by decide +kernel
theorem dM_isShort_31 : decode prog_6_method_8_code 31 = .ok (.ireturn, 1) := by decide +kernel
def f_M_isShort (m : MS) (p : Int32) : Int32 := if m.2.1 < 0 then 0 else (if (f_M_position m p m.2.1) < (-(f_M_creditOf m p)) then 1 else 0)
theorem b_M_isShort (m : MS) (p : Int32) : f_M_isShort m p = 0 ∨ f_M_isShort m p = 1 := by
  unfold f_M_isShort
  repeat' (first | split | exact Or.inl rfl | exact Or.inr rfl)
set_option maxHeartbeats 4000000 in
set_option maxRecDepth 100000 in
theorem c_M_isShort (l : Launch) (D : va_G) (cI cL cQ : ClassId) (d : Nat → Nat) (κ : Nat → Option va_E) (m : MS) (hm : IsM cI cL d κ m) (hB : MB m) (sz : Nat) (p : Int32)  : Met l yM_isShort wM_isShort { frames := 2, cells := 0, slots := 0, locals := 56 } (va_Pc [.ref (d 0), .int (p)] (kC D vCl (kT cI cL cQ) d κ sz)) (vp_Si (fun r => r = f_M_isShort m p)) 0 0 (fun _ => False) := by
  refine kMet (by decide) (Nat.le_of_ble_eq_true rfl) ?_
  intro p0 e0 s0 m0 below0 meth0 c0 hx hb hr hml hown hlocks hin hts hsz hP hK ls hl
  have hl : lv_has ls 2 [(0, .ref (d 0)), (1, .int (p))] := hl
  have hB9 := hB
  obtain ⟨hb0, hb1, hb2, hb3, hb4, hb5, hb6, hb7, hb8, hb9, hb10⟩ := hB9
  refine lv_aload_n hx hb dM_isShort_0 rfl (lv_at hl 0 rfl) ?_
  refine ka_get (ci := 4) (C := RM) (T := TM) (N := 26) hx hb hts inM hown hK hP (q := 0) hm.1 rfl 3 (by decide) (hts _ tw_387) (fun _ h9 => h9) rfl dM_isShort_1 ?_
  refine lv_if_lt (tgt := 30) hx hb dM_isShort_4 (by decide) (fun c_4 => ?_) (fun c_4 => ?_)
  · refine lv_iconst (v := 0) hx hb dM_isShort_30 (by decide) ?_
    exact W.zret (v := 0) hx hb hr k_nar0 (fun t ht hW => ⟨_, rfl, by rw [f_M_isShort, if_pos c_4], ht⟩) (fun q h => by cases h) dM_isShort_31
  · refine lv_aload_n hx hb dM_isShort_7 rfl (lv_at hl 0 rfl) ?_
    refine lv_iload_n hx hb dM_isShort_8 rfl (lv_at hl 1 rfl) ?_
    refine lv_aload_n hx hb dM_isShort_9 rfl (lv_at hl 0 rfl) ?_
    refine ka_get (ci := 4) (C := RM) (T := TM) (N := 26) hx hb hts inM hown hK hP (q := 0) hm.1 rfl 3 (by decide) (hts _ tw_387) (fun _ h9 => h9) rfl dM_isShort_10 ?_
    refine vp_callSl (W.runV (C := RM) (As := [.int (p), .int (m.2.1)]) (rest := []) ⟨hx, hb, hml, hown, hts⟩ (c_M_position l D cI cL cQ d κ m hm hB _ p m.2.1) (cwV 2 hts (k_gV tw_503 tw_505 tw_27 tw_41 tw_506) rfl rfl rfl (by decide +kernel) ⟨Nat.le_of_ble_eq_true rfl, Nat.le_of_ble_eq_true rfl⟩) (kPreV hP hK (q := 0) hm.1 rfl) rfl rfl hl.1 rfl (lv_room (Nat.le_of_ble_eq_true rfl)) dM_isShort_13 ⟨Nat.le_of_ble_eq_true rfl, Nat.le_of_ble_eq_true rfl⟩) (fun r_13 e_13 => ?_)
    subst e_13
    refine lv_aload_n hx hb dM_isShort_16 rfl (lv_at hl 0 rfl) ?_
    refine lv_iload_n hx hb dM_isShort_17 rfl (lv_at hl 1 rfl) ?_
    refine vp_callSl (W.runV (C := RM) (As := [.int (p)]) (rest := [.long (f_M_position m p m.2.1)]) ⟨hx, hb, hml, hown, hts⟩ (c_M_creditOf l D cI cL cQ d κ m hm hB _ p) (cwV 1 hts (k_gV tw_507 tw_509 tw_28 tw_41 tw_510) rfl rfl rfl (by decide +kernel) ⟨Nat.le_of_ble_eq_true rfl, Nat.le_of_ble_eq_true rfl⟩) (kPreV hP hK (q := 0) hm.1 rfl) rfl rfl hl.1 rfl (lv_room (Nat.le_of_ble_eq_true rfl)) dM_isShort_18 ⟨Nat.le_of_ble_eq_true rfl, Nat.le_of_ble_eq_true rfl⟩) (fun r_18 e_18 => ?_)
    subst e_18
    refine lv_lneg hx hb dM_isShort_21 ?_
    refine kl_ge (tgt := 30) hx hb dM_isShort_22 dM_isShort_23 (by decide) (fun c_22 => ?_) (fun c_22 => ?_)
    · refine lv_iconst (v := 0) hx hb dM_isShort_30 (by decide) ?_
      exact W.zret (v := 0) hx hb hr k_nar0 (fun t ht hW => ⟨_, rfl, by rw [f_M_isShort, if_neg c_4, if_neg c_22], ht⟩) (fun q h => by cases h) dM_isShort_31
    · refine lv_iconst (v := 1) hx hb dM_isShort_26 (by decide) ?_
      refine lv_goto (tgt := 31) hx hb dM_isShort_27 (by decide) ?_
      exact W.zret (v := 1) hx hb hr k_nar1 (fun t ht hW => ⟨_, rfl, by rw [f_M_isShort, if_neg c_4, if_pos c_22], ht⟩) (fun q h => by cases h) dM_isShort_31

theorem dM_floorOf_0 : decode prog_6_method_9_code 0 = .ok (.iload_n 1, 1) := by decide +kernel
theorem dM_floorOf_1 : decode prog_6_method_9_code 1 = .ok (.ifCond .ne 9, 3) := by decide +kernel
theorem dM_floorOf_4 : decode prog_6_method_9_code 4 = .ok (.ldc2_w 105, 3) := by decide +kernel
theorem dM_floorOf_7 : decode prog_6_method_9_code 7 = .ok (.goto 40, 3) := by decide +kernel
theorem dM_floorOf_10 : decode prog_6_method_9_code 10 = .ok (.aload_n 0, 1) := by decide +kernel
theorem dM_floorOf_11 : decode prog_6_method_9_code 11 = .ok (.getfield 13, 3) := by decide +kernel
theorem dM_floorOf_14 : decode prog_6_method_9_code 14 = .ok (.iload_n 2, 1) := by decide +kernel
theorem dM_floorOf_15 : decode prog_6_method_9_code 15 = .ok (.iaload, 1) := by decide +kernel
theorem dM_floorOf_16 : decode prog_6_method_9_code 16 = .ok (.iconst 1, 1) := by decide +kernel
theorem dM_floorOf_17 : decode prog_6_method_9_code 17 = .ok (.if_icmp .ne 12, 3) := by decide +kernel
theorem dM_floorOf_20 : decode prog_6_method_9_code 20 = .ok (.aload_n 0, 1) := by decide +kernel
theorem dM_floorOf_21 : decode prog_6_method_9_code 21 = .ok (.iload_n 1, 1) := by decide +kernel
theorem dM_floorOf_22 : decode prog_6_method_9_code 22 = .ok (.iload_n 2, 1) := by decide +kernel
theorem dM_floorOf_23 : decode prog_6_method_9_code 23 = .ok (.invokevirtual 88, 3) := by decide +kernel
theorem dM_floorOf_26 : decode prog_6_method_9_code 26 = .ok (.goto 21, 3) := by decide +kernel
theorem dM_floorOf_29 : decode prog_6_method_9_code 29 = .ok (.iload_n 2, 1) := by decide +kernel
theorem dM_floorOf_30 : decode prog_6_method_9_code 30 = .ok (.aload_n 0, 1) := by decide +kernel
theorem dM_floorOf_31 : decode prog_6_method_9_code 31 = .ok (.getfield 7, 3) := by decide +kernel
theorem dM_floorOf_34 : decode prog_6_method_9_code 34 = .ok (.if_icmp .ne 12, 3) := by decide +kernel
theorem dM_floorOf_37 : decode prog_6_method_9_code 37 = .ok (.aload_n 0, 1) := by decide +kernel
theorem dM_floorOf_38 : decode prog_6_method_9_code 38 = .ok (.iload_n 1, 1) := by decide +kernel
theorem dM_floorOf_39 : decode prog_6_method_9_code 39 = .ok (.invokevirtual 96, 3) := by decide +kernel
theorem dM_floorOf_42 : decode prog_6_method_9_code 42 = .ok (.lneg, 1) := by decide +kernel
theorem dM_floorOf_43 : decode prog_6_method_9_code 43 = .ok (.goto 4, 3) := by decide +kernel
theorem dM_floorOf_46 : decode prog_6_method_9_code 46 = .ok (.lconst 0, 1) := by decide +kernel
theorem dM_floorOf_47 : decode prog_6_method_9_code 47 = .ok (.lreturn, 1) := by decide +kernel
def f_M_floorOf (m : MS) (p : Int32) (a : Int32) : Int64 := if p = 0 then (-9223372036854775808) else (if ((m.2.2.1 0) (a).toNatClampNeg) = 1 then (f_M_pledged m p a) else (if a = m.2.1 then (-(f_M_creditOf m p)) else 0))
set_option maxHeartbeats 4000000 in
set_option maxRecDepth 100000 in
theorem c_M_floorOf (l : Launch) (D : va_G) (cI cL cQ : ClassId) (d : Nat → Nat) (κ : Nat → Option va_E) (m : MS) (hm : IsM cI cL d κ m) (hB : MB m) (sz : Nat) (p : Int32) (a : Int32) (ha : vp_in a 64) : Met l yM_floorOf wM_floorOf { frames := 2, cells := 0, slots := 0, locals := 56 } (va_Pc [.ref (d 0), .int (p), .int (a)] (kC D vCl (kT cI cL cQ) d κ sz)) (vp_Sl (fun r => r = f_M_floorOf m p a)) 0 0 (fun _ => False) := by
  refine kMet (by decide) (Nat.le_of_ble_eq_true rfl) ?_
  intro p0 e0 s0 m0 below0 meth0 c0 hx hb hr hml hown hlocks hin hts hsz hP hK ls hl
  have hl : lv_has ls 3 [(0, .ref (d 0)), (1, .int (p)), (2, .int (a))] := hl
  have hB9 := hB
  obtain ⟨hb0, hb1, hb2, hb3, hb4, hb5, hb6, hb7, hb8, hb9, hb10⟩ := hB9
  refine lv_iload_n hx hb dM_floorOf_0 rfl (lv_at hl 1 rfl) ?_
  refine lv_if_ne (tgt := 10) hx hb dM_floorOf_1 (by decide) (fun c_1 => ?_) (fun c_1 => ?_)
  · refine lv_aload_n hx hb dM_floorOf_10 rfl (lv_at hl 0 rfl) ?_
    refine ka_get (ci := 4) (C := RM) (T := TM) (N := 26) hx hb hts inM hown hK hP (q := 0) hm.1 rfl 4 (by decide) (hts _ tw_388) (fun _ h9 => h9) rfl dM_floorOf_11 ?_
    refine lv_iload_n hx hb dM_floorOf_14 rfl (lv_at hl 2 rfl) ?_
    refine ka_iald hx hb hK hP 0 (q := 1) hm.2.1 rfl (by first | assumption | exact vp_in_nI (by omega) (by omega)) dM_floorOf_15 ?_
    refine lv_iconst (v := 1) hx hb dM_floorOf_16 (by decide) ?_
    refine lv_icmp_ne (tgt := 29) hx hb dM_floorOf_17 (by decide) (fun c_17 => ?_) (fun c_17 => ?_)
    · refine lv_iload_n hx hb dM_floorOf_29 rfl (lv_at hl 2 rfl) ?_
      refine lv_aload_n hx hb dM_floorOf_30 rfl (lv_at hl 0 rfl) ?_
      refine ka_get (ci := 4) (C := RM) (T := TM) (N := 26) hx hb hts inM hown hK hP (q := 0) hm.1 rfl 3 (by decide) (hts _ tw_387) (fun _ h9 => h9) rfl dM_floorOf_31 ?_
      refine lv_icmp_ne (tgt := 46) hx hb dM_floorOf_34 (by decide) (fun c_34 => ?_) (fun c_34 => ?_)
      · refine lv_lconst (v := 0) hx hb dM_floorOf_46 (by decide) ?_
        exact W.lret (v := 0) hx hb hr (fun t ht hW => ⟨_, rfl, by rw [f_M_floorOf, if_neg c_1, if_neg c_17, if_neg c_34], ht⟩) (fun q h => by cases h) dM_floorOf_47
      · refine lv_aload_n hx hb dM_floorOf_37 rfl (lv_at hl 0 rfl) ?_
        refine lv_iload_n hx hb dM_floorOf_38 rfl (lv_at hl 1 rfl) ?_
        refine vp_callSl (W.runV (C := RM) (As := [.int (p)]) (rest := []) ⟨hx, hb, hml, hown, hts⟩ (c_M_creditOf l D cI cL cQ d κ m hm hB _ p) (cwV 1 hts (k_gV tw_507 tw_509 tw_28 tw_41 tw_510) rfl rfl rfl (by decide +kernel) ⟨Nat.le_of_ble_eq_true rfl, Nat.le_of_ble_eq_true rfl⟩) (kPreV hP hK (q := 0) hm.1 rfl) rfl rfl hl.1 rfl (lv_room (Nat.le_of_ble_eq_true rfl)) dM_floorOf_39 ⟨Nat.le_of_ble_eq_true rfl, Nat.le_of_ble_eq_true rfl⟩) (fun r_39 e_39 => ?_)
        subst e_39
        refine lv_lneg hx hb dM_floorOf_42 ?_
        refine lv_goto (tgt := 47) hx hb dM_floorOf_43 (by decide) ?_
        exact W.lret (v := -(f_M_creditOf m p)) hx hb hr (fun t ht hW => ⟨_, rfl, by rw [f_M_floorOf, if_neg c_1, if_neg c_17, if_pos c_34], ht⟩) (fun q h => by cases h) dM_floorOf_47
    · refine lv_aload_n hx hb dM_floorOf_20 rfl (lv_at hl 0 rfl) ?_
      refine lv_iload_n hx hb dM_floorOf_21 rfl (lv_at hl 1 rfl) ?_
      refine lv_iload_n hx hb dM_floorOf_22 rfl (lv_at hl 2 rfl) ?_
      refine vp_callSl (W.runV (C := RM) (As := [.int (p), .int (a)]) (rest := []) ⟨hx, hb, hml, hown, hts⟩ (c_M_pledged l D cI cL cQ d κ m hm hB _ p a) (cwV 2 hts (k_gV tw_511 tw_513 tw_29 tw_41 tw_514) rfl rfl rfl (by decide +kernel) ⟨Nat.le_of_ble_eq_true rfl, Nat.le_of_ble_eq_true rfl⟩) (kPreV hP hK (q := 0) hm.1 rfl) rfl rfl hl.1 rfl (lv_room (Nat.le_of_ble_eq_true rfl)) dM_floorOf_23 ⟨Nat.le_of_ble_eq_true rfl, Nat.le_of_ble_eq_true rfl⟩) (fun r_23 e_23 => ?_)
      subst e_23
      refine lv_goto (tgt := 47) hx hb dM_floorOf_26 (by decide) ?_
      exact W.lret (v := f_M_pledged m p a) hx hb hr (fun t ht hW => ⟨_, rfl, by rw [f_M_floorOf, if_neg c_1, if_pos c_17], ht⟩) (fun q h => by cases h) dM_floorOf_47
  · refine lv_ldc2 (v := -9223372036854775808) hx hb hown (hts _ tw_549) dM_floorOf_4 ?_
    refine lv_goto (tgt := 47) hx hb dM_floorOf_7 (by decide) ?_
    exact W.lret (v := -9223372036854775808) hx hb hr (fun t ht hW => ⟨_, rfl, by rw [f_M_floorOf, if_pos c_1], ht⟩) (fun q h => by cases h) dM_floorOf_47

theorem dM_isRoom_0 : decode prog_6_method_15_code 0 = .ok (.iload_n 1, 1) := by decide +kernel
theorem dM_isRoom_1 : decode prog_6_method_15_code 1 = .ok (.aload_n 0, 1) := by decide +kernel
theorem dM_isRoom_2 : decode prog_6_method_15_code 2 = .ok (.getfield 66, 3) := by decide +kernel
theorem dM_isRoom_5 : decode prog_6_method_15_code 5 = .ok (.aload_n 0, 1) := by decide +kernel
theorem dM_isRoom_6 : decode prog_6_method_15_code 6 = .ok (.getfield 69, 3) := by decide +kernel
theorem dM_isRoom_9 : decode prog_6_method_15_code 9 = .ok (.imul, 1) := by decide +kernel
theorem dM_isRoom_10 : decode prog_6_method_15_code 10 = .ok (.if_icmp .lt 57, 3) := by decide +kernel
theorem dM_isRoom_13 : decode prog_6_method_15_code 13 = .ok (.iload_n 1, 1) := by decide +kernel
theorem dM_isRoom_14 : decode prog_6_method_15_code 14 = .ok (.aload_n 0, 1) := by decide +kernel
theorem dM_isRoom_15 : decode prog_6_method_15_code 15 = .ok (.getfield 66, 3) := by decide +kernel
theorem dM_isRoom_18 : decode prog_6_method_15_code 18 = .ok (.aload_n 0, 1) := by decide +kernel
theorem dM_isRoom_19 : decode prog_6_method_15_code 19 = .ok (.getfield 69, 3) := by decide +kernel
theorem dM_isRoom_22 : decode prog_6_method_15_code 22 = .ok (.imul, 1) := by decide +kernel
theorem dM_isRoom_23 : decode prog_6_method_15_code 23 = .ok (.aload_n 0, 1) := by decide +kernel
theorem dM_isRoom_24 : decode prog_6_method_15_code 24 = .ok (.getfield 66, 3) := by decide +kernel
theorem dM_isRoom_27 : decode prog_6_method_15_code 27 = .ok (.aload_n 0, 1) := by decide +kernel
theorem dM_isRoom_28 : decode prog_6_method_15_code 28 = .ok (.getfield 66, 3) := by decide +kernel
theorem dM_isRoom_31 : decode prog_6_method_15_code 31 = .ok (.imul, 1) := by decide +kernel
theorem dM_isRoom_32 : decode prog_6_method_15_code 32 = .ok (.iadd, 1) := by decide +kernel
theorem dM_isRoom_33 : decode prog_6_method_15_code 33 = .ok (.if_icmp .ge 34, 3) := by decide +kernel
theorem dM_isRoom_36 : decode prog_6_method_15_code 36 = .ok (.aload_n 0, 1) := by decide +kernel
theorem dM_isRoom_37 : decode prog_6_method_15_code 37 = .ok (.aload_n 0, 1) := by decide +kernel
theorem dM_isRoom_38 : decode prog_6_method_15_code 38 = .ok (.iload_n 1, 1) := by decide +kernel
theorem dM_isRoom_39 : decode prog_6_method_15_code 39 = .ok (.invokevirtual 112, 3) := by decide +kernel
theorem dM_isRoom_42 : decode prog_6_method_15_code 42 = .ok (.aload_n 0, 1) := by decide +kernel
theorem dM_isRoom_43 : decode prog_6_method_15_code 43 = .ok (.getfield 66, 3) := by decide +kernel
theorem dM_isRoom_46 : decode prog_6_method_15_code 46 = .ok (.idiv, 1) := by decide +kernel
theorem dM_isRoom_47 : decode prog_6_method_15_code 47 = .ok (.aload_n 0, 1) := by decide +kernel
theorem dM_isRoom_48 : decode prog_6_method_15_code 48 = .ok (.iload_n 1, 1) := by decide +kernel
theorem dM_isRoom_49 : decode prog_6_method_15_code 49 = .ok (.invokevirtual 112, 3) := by decide +kernel
theorem dM_isRoom_52 : decode prog_6_method_15_code 52 = .ok (.aload_n 0, 1) := by decide +kernel
theorem dM_isRoom_53 : decode prog_6_method_15_code 53 = .ok (.getfield 66, 3) := by decide +kernel
theorem dM_isRoom_56 : decode prog_6_method_15_code 56 = .ok (.irem, 1) := by decide +kernel
theorem dM_isRoom_57 : decode prog_6_method_15_code 57 = .ok (.invokevirtual 116, 3) := by decide +kernel
theorem dM_isRoom_60 : decode prog_6_method_15_code 60 = .ok (.ifCond .lt 7, 3) := by decide +kernel
theorem dM_isRoom_63 : decode prog_6_method_15_code 63 = .ok (.iconst 1, 1) := by decide +kernel
theorem dM_isRoom_64 : decode prog_6_method_15_code 64 = .ok (.goto 4, 3) := by decide +kernel
theorem dM_isRoom_67 : decode prog_6_method_15_code 67 = .ok (.iconst 0, 1) := by decide +kernel
theorem dM_isRoom_68 : decode prog_6_method_15_code 68 = .ok (.ireturn, 1) := by decide +kernel
def f_M_isRoom (m : MS) (id : Int32) : Int32 := if id < ((nI (m.1 0)) * (nI (m.1 1))) then 0 else (if (((nI (m.1 0)) * (nI (m.1 1))) + ((nI (m.1 0)) * (nI (m.1 0)))) ≤ id then 0 else (if (f_M_limitAt m ((f_M_pair m id) / (nI (m.1 0))) ((f_M_pair m id) - (f_M_pair m id) / (nI (m.1 0)) * (nI (m.1 0)))) < 0 then 0 else 1))
theorem b_M_isRoom (m : MS) (id : Int32) : f_M_isRoom m id = 0 ∨ f_M_isRoom m id = 1 := by
  unfold f_M_isRoom
  repeat' (first | split | exact Or.inl rfl | exact Or.inr rfl)
set_option maxHeartbeats 4000000 in
set_option maxRecDepth 100000 in
theorem c_M_isRoom (l : Launch) (D : va_G) (cI cL cQ : ClassId) (d : Nat → Nat) (κ : Nat → Option va_E) (m : MS) (hm : IsM cI cL d κ m) (hB : MB m) (sz : Nat) (id : Int32)  : Met l yM_isRoom wM_isRoom { frames := 1, cells := 0, slots := 0, locals := 24 } (va_Pc [.ref (d 0), .int (id)] (kC D vCl (kT cI cL cQ) d κ sz)) (vp_Si (fun r => r = f_M_isRoom m id)) 0 0 (fun _ => False) := by
  refine kMet (by decide) (Nat.le_of_ble_eq_true rfl) ?_
  intro p0 e0 s0 m0 below0 meth0 c0 hx hb hr hml hown hlocks hin hts hsz hP hK ls hl
  have hl : lv_has ls 2 [(0, .ref (d 0)), (1, .int (id))] := hl
  have hB9 := hB
  obtain ⟨hb0, hb1, hb2, hb3, hb4, hb5, hb6, hb7, hb8, hb9, hb10⟩ := hB9
  refine lv_iload_n hx hb dM_isRoom_0 rfl (lv_at hl 1 rfl) ?_
  refine lv_aload_n hx hb dM_isRoom_1 rfl (lv_at hl 0 rfl) ?_
  refine ka_get (ci := 4) (C := RM) (T := TM) (N := 26) hx hb hts inM hown hK hP (q := 0) hm.1 rfl 0 (by decide) (hts _ tw_384) (fun _ h9 => h9) rfl dM_isRoom_2 ?_
  refine lv_aload_n hx hb dM_isRoom_5 rfl (lv_at hl 0 rfl) ?_
  refine ka_get (ci := 4) (C := RM) (T := TM) (N := 26) hx hb hts inM hown hK hP (q := 0) hm.1 rfl 1 (by decide) (hts _ tw_385) (fun _ h9 => h9) rfl dM_isRoom_6 ?_
  refine lv_imul hx hb dM_isRoom_9 ?_
  refine lv_icmp_lt (tgt := 67) hx hb dM_isRoom_10 (by decide) (fun c_10 => ?_) (fun c_10 => ?_)
  · refine lv_iconst (v := 0) hx hb dM_isRoom_67 (by decide) ?_
    exact W.zret (v := 0) hx hb hr k_nar0 (fun t ht hW => ⟨_, rfl, by rw [f_M_isRoom, if_pos c_10], ht⟩) (fun q h => by cases h) dM_isRoom_68
  · refine lv_iload_n hx hb dM_isRoom_13 rfl (lv_at hl 1 rfl) ?_
    refine lv_aload_n hx hb dM_isRoom_14 rfl (lv_at hl 0 rfl) ?_
    refine ka_get (ci := 4) (C := RM) (T := TM) (N := 26) hx hb hts inM hown hK hP (q := 0) hm.1 rfl 0 (by decide) (hts _ tw_384) (fun _ h9 => h9) rfl dM_isRoom_15 ?_
    refine lv_aload_n hx hb dM_isRoom_18 rfl (lv_at hl 0 rfl) ?_
    refine ka_get (ci := 4) (C := RM) (T := TM) (N := 26) hx hb hts inM hown hK hP (q := 0) hm.1 rfl 1 (by decide) (hts _ tw_385) (fun _ h9 => h9) rfl dM_isRoom_19 ?_
    refine lv_imul hx hb dM_isRoom_22 ?_
    refine lv_aload_n hx hb dM_isRoom_23 rfl (lv_at hl 0 rfl) ?_
    refine ka_get (ci := 4) (C := RM) (T := TM) (N := 26) hx hb hts inM hown hK hP (q := 0) hm.1 rfl 0 (by decide) (hts _ tw_384) (fun _ h9 => h9) rfl dM_isRoom_24 ?_
    refine lv_aload_n hx hb dM_isRoom_27 rfl (lv_at hl 0 rfl) ?_
    refine ka_get (ci := 4) (C := RM) (T := TM) (N := 26) hx hb hts inM hown hK hP (q := 0) hm.1 rfl 0 (by decide) (hts _ tw_384) (fun _ h9 => h9) rfl dM_isRoom_28 ?_
    refine lv_imul hx hb dM_isRoom_31 ?_
    refine lv_iadd hx hb dM_isRoom_32 ?_
    refine lv_icmp_ge (tgt := 67) hx hb dM_isRoom_33 (by decide) (fun c_33 => ?_) (fun c_33 => ?_)
    · refine lv_iconst (v := 0) hx hb dM_isRoom_67 (by decide) ?_
      exact W.zret (v := 0) hx hb hr k_nar0 (fun t ht hW => ⟨_, rfl, by rw [f_M_isRoom, if_neg c_10, if_pos c_33], ht⟩) (fun q h => by cases h) dM_isRoom_68
    · refine lv_aload_n hx hb dM_isRoom_36 rfl (lv_at hl 0 rfl) ?_
      refine lv_aload_n hx hb dM_isRoom_37 rfl (lv_at hl 0 rfl) ?_
      refine lv_iload_n hx hb dM_isRoom_38 rfl (lv_at hl 1 rfl) ?_
      refine vp_callSi (W.runV (C := RM) (As := [.int (id)]) (rest := [.ref (d 0)]) ⟨hx, hb, hml, hown, hts⟩ (c_M_pair l D cI cL cQ d κ m hm hB _ id) (cwV 1 hts (k_gV tw_471 tw_473 tw_23 tw_41 tw_474) rfl rfl rfl (by decide +kernel) ⟨Nat.le_of_ble_eq_true rfl, Nat.le_of_ble_eq_true rfl⟩) (kPreV hP hK (q := 0) hm.1 rfl) rfl rfl hl.1 rfl (lv_room (Nat.le_of_ble_eq_true rfl)) dM_isRoom_39 ⟨Nat.le_of_ble_eq_true rfl, Nat.le_of_ble_eq_true rfl⟩) (fun r_39 e_39 => ?_)
      subst e_39
      refine lv_aload_n hx hb dM_isRoom_42 rfl (lv_at hl 0 rfl) ?_
      refine ka_get (ci := 4) (C := RM) (T := TM) (N := 26) hx hb hts inM hown hK hP (q := 0) hm.1 rfl 0 (by decide) (hts _ tw_384) (fun _ h9 => h9) rfl dM_isRoom_43 ?_
      refine lv_idiv hx hb dM_isRoom_46 (nI_ne0 (by omega) (by omega)) ?_
      refine lv_aload_n hx hb dM_isRoom_47 rfl (lv_at hl 0 rfl) ?_
      refine lv_iload_n hx hb dM_isRoom_48 rfl (lv_at hl 1 rfl) ?_
      refine vp_callSi (W.runV (C := RM) (As := [.int (id)]) (rest := [.int ((f_M_pair m id) / (nI (m.1 0))), .ref (d 0)]) ⟨hx, hb, hml, hown, hts⟩ (c_M_pair l D cI cL cQ d κ m hm hB _ id) (cwV 1 hts (k_gV tw_471 tw_473 tw_23 tw_41 tw_474) rfl rfl rfl (by decide +kernel) ⟨Nat.le_of_ble_eq_true rfl, Nat.le_of_ble_eq_true rfl⟩) (kPreV hP hK (q := 0) hm.1 rfl) rfl rfl hl.1 rfl (lv_room (Nat.le_of_ble_eq_true rfl)) dM_isRoom_49 ⟨Nat.le_of_ble_eq_true rfl, Nat.le_of_ble_eq_true rfl⟩) (fun r_49 e_49 => ?_)
      subst e_49
      refine lv_aload_n hx hb dM_isRoom_52 rfl (lv_at hl 0 rfl) ?_
      refine ka_get (ci := 4) (C := RM) (T := TM) (N := 26) hx hb hts inM hown hK hP (q := 0) hm.1 rfl 0 (by decide) (hts _ tw_384) (fun _ h9 => h9) rfl dM_isRoom_53 ?_
      refine lv_irem hx hb dM_isRoom_56 (nI_ne0 (by omega) (by omega)) ?_
      refine vp_callSi (W.runV (C := RM) (As := [.int ((f_M_pair m id) / (nI (m.1 0))), .int ((f_M_pair m id) - (f_M_pair m id) / (nI (m.1 0)) * (nI (m.1 0)))]) (rest := []) ⟨hx, hb, hml, hown, hts⟩ (c_M_limitAt l D cI cL cQ d κ m hm hB _ ((f_M_pair m id) / (nI (m.1 0))) ((f_M_pair m id) - (f_M_pair m id) / (nI (m.1 0)) * (nI (m.1 0)))) (cwV 2 hts (k_gV tw_475 tw_477 tw_24 tw_41 tw_478) rfl rfl rfl (by decide +kernel) ⟨Nat.le_of_ble_eq_true rfl, Nat.le_of_ble_eq_true rfl⟩) (kPreV hP hK (q := 0) hm.1 rfl) rfl rfl hl.1 rfl (lv_room (Nat.le_of_ble_eq_true rfl)) dM_isRoom_57 ⟨Nat.le_of_ble_eq_true rfl, Nat.le_of_ble_eq_true rfl⟩) (fun r_57 e_57 => ?_)
      subst e_57
      refine lv_if_lt (tgt := 67) hx hb dM_isRoom_60 (by decide) (fun c_60 => ?_) (fun c_60 => ?_)
      · refine lv_iconst (v := 0) hx hb dM_isRoom_67 (by decide) ?_
        exact W.zret (v := 0) hx hb hr k_nar0 (fun t ht hW => ⟨_, rfl, by rw [f_M_isRoom, if_neg c_10, if_neg c_33, if_pos c_60], ht⟩) (fun q h => by cases h) dM_isRoom_68
      · refine lv_iconst (v := 1) hx hb dM_isRoom_63 (by decide) ?_
        refine lv_goto (tgt := 68) hx hb dM_isRoom_64 (by decide) ?_
        exact W.zret (v := 1) hx hb hr k_nar1 (fun t ht hW => ⟨_, rfl, by rw [f_M_isRoom, if_neg c_10, if_neg c_33, if_neg c_60], ht⟩) (fun q h => by cases h) dM_isRoom_68

theorem dM_isThere_0 : decode prog_6_method_16_code 0 = .ok (.aload_n 0, 1) := by decide +kernel
theorem dM_isThere_1 : decode prog_6_method_16_code 1 = .ok (.iload_n 1, 1) := by decide +kernel
theorem dM_isThere_2 : decode prog_6_method_16_code 2 = .ok (.invokevirtual 120, 3) := by decide +kernel
theorem dM_isThere_5 : decode prog_6_method_16_code 5 = .ok (.ifCond .ne 33, 3) := by decide +kernel
theorem dM_isThere_8 : decode prog_6_method_16_code 8 = .ok (.iload_n 1, 1) := by decide +kernel
theorem dM_isThere_9 : decode prog_6_method_16_code 9 = .ok (.ifCond .lt 33, 3) := by decide +kernel
theorem dM_isThere_12 : decode prog_6_method_16_code 12 = .ok (.iload_n 1, 1) := by decide +kernel
theorem dM_isThere_13 : decode prog_6_method_16_code 13 = .ok (.aload_n 0, 1) := by decide +kernel
theorem dM_isThere_14 : decode prog_6_method_16_code 14 = .ok (.getfield 66, 3) := by decide +kernel
theorem dM_isThere_17 : decode prog_6_method_16_code 17 = .ok (.aload_n 0, 1) := by decide +kernel
theorem dM_isThere_18 : decode prog_6_method_16_code 18 = .ok (.getfield 69, 3) := by decide +kernel
theorem dM_isThere_21 : decode prog_6_method_16_code 21 = .ok (.imul, 1) := by decide +kernel
theorem dM_isThere_22 : decode prog_6_method_16_code 22 = .ok (.if_icmp .ge 20, 3) := by decide +kernel
theorem dM_isThere_25 : decode prog_6_method_16_code 25 = .ok (.iload_n 1, 1) := by decide +kernel
theorem dM_isThere_26 : decode prog_6_method_16_code 26 = .ok (.aload_n 0, 1) := by decide +kernel
theorem dM_isThere_27 : decode prog_6_method_16_code 27 = .ok (.getfield 69, 3) := by decide +kernel
theorem dM_isThere_30 : decode prog_6_method_16_code 30 = .ok (.irem, 1) := by decide +kernel
theorem dM_isThere_31 : decode prog_6_method_16_code 31 = .ok (.aload_n 0, 1) := by decide +kernel
theorem dM_isThere_32 : decode prog_6_method_16_code 32 = .ok (.getfield 85, 3) := by decide +kernel
theorem dM_isThere_35 : decode prog_6_method_16_code 35 = .ok (.if_icmp .ge 7, 3) := by decide +kernel
theorem dM_isThere_38 : decode prog_6_method_16_code 38 = .ok (.iconst 1, 1) := by decide +kernel
theorem dM_isThere_39 : decode prog_6_method_16_code 39 = .ok (.goto 4, 3) := by decide +kernel
theorem dM_isThere_42 : decode prog_6_method_16_code 42 = .ok (.iconst 0, 1) := by decide +kernel
theorem dM_isThere_43 : decode prog_6_method_16_code 43 = .ok (.ireturn, 1) := by decide +kernel
def f_M_isThere (m : MS) (id : Int32) : Int32 := if (f_M_isRoom m id) = 0 then (if id < 0 then 0 else (if ((nI (m.1 0)) * (nI (m.1 1))) ≤ id then 0 else (if (nI (m.1 2)) ≤ (id - id / (nI (m.1 1)) * (nI (m.1 1))) then 0 else 1))) else 1
theorem b_M_isThere (m : MS) (id : Int32) : f_M_isThere m id = 0 ∨ f_M_isThere m id = 1 := by
  unfold f_M_isThere
  repeat' (first | split | exact Or.inl rfl | exact Or.inr rfl)
set_option maxHeartbeats 4000000 in
set_option maxRecDepth 100000 in
theorem c_M_isThere (l : Launch) (D : va_G) (cI cL cQ : ClassId) (d : Nat → Nat) (κ : Nat → Option va_E) (m : MS) (hm : IsM cI cL d κ m) (hB : MB m) (sz : Nat) (id : Int32)  : Met l yM_isThere wM_isThere { frames := 2, cells := 0, slots := 0, locals := 45 } (va_Pc [.ref (d 0), .int (id)] (kC D vCl (kT cI cL cQ) d κ sz)) (vp_Si (fun r => r = f_M_isThere m id)) 0 0 (fun _ => False) := by
  refine kMet (by decide) (Nat.le_of_ble_eq_true rfl) ?_
  intro p0 e0 s0 m0 below0 meth0 c0 hx hb hr hml hown hlocks hin hts hsz hP hK ls hl
  have hl : lv_has ls 2 [(0, .ref (d 0)), (1, .int (id))] := hl
  have hB9 := hB
  obtain ⟨hb0, hb1, hb2, hb3, hb4, hb5, hb6, hb7, hb8, hb9, hb10⟩ := hB9
  refine lv_aload_n hx hb dM_isThere_0 rfl (lv_at hl 0 rfl) ?_
  refine lv_iload_n hx hb dM_isThere_1 rfl (lv_at hl 1 rfl) ?_
  refine vp_callSi (W.runV (C := RM) (As := [.int (id)]) (rest := []) ⟨hx, hb, hml, hown, hts⟩ (c_M_isRoom l D cI cL cQ d κ m hm hB _ id) (cwV 1 hts (k_gV tw_467 tw_469 tw_22 tw_41 tw_470) rfl rfl rfl (by decide +kernel) ⟨Nat.le_of_ble_eq_true rfl, Nat.le_of_ble_eq_true rfl⟩) (kPreV hP hK (q := 0) hm.1 rfl) rfl rfl hl.1 rfl (lv_room (Nat.le_of_ble_eq_true rfl)) dM_isThere_2 ⟨Nat.le_of_ble_eq_true rfl, Nat.le_of_ble_eq_true rfl⟩) (fun r_2 e_2 => ?_)
  subst e_2
  refine lv_if_ne (tgt := 38) hx hb dM_isThere_5 (by decide) (fun c_5 => ?_) (fun c_5 => ?_)
  · refine lv_iconst (v := 1) hx hb dM_isThere_38 (by decide) ?_
    refine lv_goto (tgt := 43) hx hb dM_isThere_39 (by decide) ?_
    exact W.zret (v := 1) hx hb hr k_nar1 (fun t ht hW => ⟨_, rfl, by rw [f_M_isThere, if_neg c_5], ht⟩) (fun q h => by cases h) dM_isThere_43
  · refine lv_iload_n hx hb dM_isThere_8 rfl (lv_at hl 1 rfl) ?_
    refine lv_if_lt (tgt := 42) hx hb dM_isThere_9 (by decide) (fun c_9 => ?_) (fun c_9 => ?_)
    · refine lv_iconst (v := 0) hx hb dM_isThere_42 (by decide) ?_
      exact W.zret (v := 0) hx hb hr k_nar0 (fun t ht hW => ⟨_, rfl, by rw [f_M_isThere, if_pos c_5, if_pos c_9], ht⟩) (fun q h => by cases h) dM_isThere_43
    · refine lv_iload_n hx hb dM_isThere_12 rfl (lv_at hl 1 rfl) ?_
      refine lv_aload_n hx hb dM_isThere_13 rfl (lv_at hl 0 rfl) ?_
      refine ka_get (ci := 4) (C := RM) (T := TM) (N := 26) hx hb hts inM hown hK hP (q := 0) hm.1 rfl 0 (by decide) (hts _ tw_384) (fun _ h9 => h9) rfl dM_isThere_14 ?_
      refine lv_aload_n hx hb dM_isThere_17 rfl (lv_at hl 0 rfl) ?_
      refine ka_get (ci := 4) (C := RM) (T := TM) (N := 26) hx hb hts inM hown hK hP (q := 0) hm.1 rfl 1 (by decide) (hts _ tw_385) (fun _ h9 => h9) rfl dM_isThere_18 ?_
      refine lv_imul hx hb dM_isThere_21 ?_
      refine lv_icmp_ge (tgt := 42) hx hb dM_isThere_22 (by decide) (fun c_22 => ?_) (fun c_22 => ?_)
      · refine lv_iconst (v := 0) hx hb dM_isThere_42 (by decide) ?_
        exact W.zret (v := 0) hx hb hr k_nar0 (fun t ht hW => ⟨_, rfl, by rw [f_M_isThere, if_pos c_5, if_neg c_9, if_pos c_22], ht⟩) (fun q h => by cases h) dM_isThere_43
      · refine lv_iload_n hx hb dM_isThere_25 rfl (lv_at hl 1 rfl) ?_
        refine lv_aload_n hx hb dM_isThere_26 rfl (lv_at hl 0 rfl) ?_
        refine ka_get (ci := 4) (C := RM) (T := TM) (N := 26) hx hb hts inM hown hK hP (q := 0) hm.1 rfl 1 (by decide) (hts _ tw_385) (fun _ h9 => h9) rfl dM_isThere_27 ?_
        refine lv_irem hx hb dM_isThere_30 (nI_ne0 (by omega) (by omega)) ?_
        refine lv_aload_n hx hb dM_isThere_31 rfl (lv_at hl 0 rfl) ?_
        refine ka_get (ci := 4) (C := RM) (T := TM) (N := 26) hx hb hts inM hown hK hP (q := 0) hm.1 rfl 2 (by decide) (hts _ tw_386) (fun _ h9 => h9) rfl dM_isThere_32 ?_
        refine lv_icmp_ge (tgt := 42) hx hb dM_isThere_35 (by decide) (fun c_35 => ?_) (fun c_35 => ?_)
        · refine lv_iconst (v := 0) hx hb dM_isThere_42 (by decide) ?_
          exact W.zret (v := 0) hx hb hr k_nar0 (fun t ht hW => ⟨_, rfl, by rw [f_M_isThere, if_pos c_5, if_neg c_9, if_neg c_22, if_pos c_35], ht⟩) (fun q h => by cases h) dM_isThere_43
        · refine lv_iconst (v := 1) hx hb dM_isThere_38 (by decide) ?_
          refine lv_goto (tgt := 43) hx hb dM_isThere_39 (by decide) ?_
          exact W.zret (v := 1) hx hb hr k_nar1 (fun t ht hW => ⟨_, rfl, by rw [f_M_isThere, if_pos c_5, if_neg c_9, if_neg c_22, if_neg c_35], ht⟩) (fun q h => by cases h) dM_isThere_43

theorem dM_credit_0 : decode prog_6_method_38_code 0 = .ok (.aload_n 0, 1) := by decide +kernel
theorem dM_credit_1 : decode prog_6_method_38_code 1 = .ok (.iload_n 1, 1) := by decide +kernel
theorem dM_credit_2 : decode prog_6_method_38_code 2 = .ok (.invokevirtual 138, 3) := by decide +kernel
theorem dM_credit_5 : decode prog_6_method_38_code 5 = .ok (.ifCond .eq 11, 3) := by decide +kernel
theorem dM_credit_8 : decode prog_6_method_38_code 8 = .ok (.aload_n 0, 1) := by decide +kernel
theorem dM_credit_9 : decode prog_6_method_38_code 9 = .ok (.iload_n 1, 1) := by decide +kernel
theorem dM_credit_10 : decode prog_6_method_38_code 10 = .ok (.invokevirtual 96, 3) := by decide +kernel
theorem dM_credit_13 : decode prog_6_method_38_code 13 = .ok (.goto 4, 3) := by decide +kernel
theorem dM_credit_16 : decode prog_6_method_38_code 16 = .ok (.lconst 0, 1) := by decide +kernel
theorem dM_credit_17 : decode prog_6_method_38_code 17 = .ok (.lreturn, 1) := by decide +kernel
def f_M_credit (m : MS) (p : Int32) : Int64 := if (f_M_isParticipant m p) = 0 then 0 else (f_M_creditOf m p)
set_option maxHeartbeats 4000000 in
set_option maxRecDepth 100000 in
theorem c_M_credit (l : Launch) (D : va_G) (cI cL cQ : ClassId) (d : Nat → Nat) (κ : Nat → Option va_E) (m : MS) (hm : IsM cI cL d κ m) (hB : MB m) (sz : Nat) (p : Int32)  : Met l yM_credit wM_credit { frames := 2, cells := 0, slots := 0, locals := 56 } (va_Pc [.ref (d 0), .int (p)] (kC D vCl (kT cI cL cQ) d κ sz)) (vp_Sl (fun r => r = f_M_credit m p)) 0 0 (fun _ => False) := by
  refine kMet (by decide) (Nat.le_of_ble_eq_true rfl) ?_
  intro p0 e0 s0 m0 below0 meth0 c0 hx hb hr hml hown hlocks hin hts hsz hP hK ls hl
  have hl : lv_has ls 2 [(0, .ref (d 0)), (1, .int (p))] := hl
  have hB9 := hB
  obtain ⟨hb0, hb1, hb2, hb3, hb4, hb5, hb6, hb7, hb8, hb9, hb10⟩ := hB9
  refine lv_aload_n hx hb dM_credit_0 rfl (lv_at hl 0 rfl) ?_
  refine lv_iload_n hx hb dM_credit_1 rfl (lv_at hl 1 rfl) ?_
  refine vp_callSi (W.runV (C := RM) (As := [.int (p)]) (rest := []) ⟨hx, hb, hml, hown, hts⟩ (c_M_isParticipant l D cI cL cQ d κ m hm hB _ p) (cwV 1 hts (k_gV tw_529 tw_531 tw_31 tw_41 tw_532) rfl rfl rfl (by decide +kernel) ⟨Nat.le_of_ble_eq_true rfl, Nat.le_of_ble_eq_true rfl⟩) (kPreV hP hK (q := 0) hm.1 rfl) rfl rfl hl.1 rfl (lv_room (Nat.le_of_ble_eq_true rfl)) dM_credit_2 ⟨Nat.le_of_ble_eq_true rfl, Nat.le_of_ble_eq_true rfl⟩) (fun r_2 e_2 => ?_)
  subst e_2
  refine lv_if_eq (tgt := 16) hx hb dM_credit_5 (by decide) (fun c_5 => ?_) (fun c_5 => ?_)
  · refine lv_lconst (v := 0) hx hb dM_credit_16 (by decide) ?_
    exact W.lret (v := 0) hx hb hr (fun t ht hW => ⟨_, rfl, by rw [f_M_credit, if_pos c_5], ht⟩) (fun q h => by cases h) dM_credit_17
  · refine lv_aload_n hx hb dM_credit_8 rfl (lv_at hl 0 rfl) ?_
    refine lv_iload_n hx hb dM_credit_9 rfl (lv_at hl 1 rfl) ?_
    refine vp_callSl (W.runV (C := RM) (As := [.int (p)]) (rest := []) ⟨hx, hb, hml, hown, hts⟩ (c_M_creditOf l D cI cL cQ d κ m hm hB _ p) (cwV 1 hts (k_gV tw_507 tw_509 tw_28 tw_41 tw_510) rfl rfl rfl (by decide +kernel) ⟨Nat.le_of_ble_eq_true rfl, Nat.le_of_ble_eq_true rfl⟩) (kPreV hP hK (q := 0) hm.1 rfl) rfl rfl hl.1 rfl (lv_room (Nat.le_of_ble_eq_true rfl)) dM_credit_10 ⟨Nat.le_of_ble_eq_true rfl, Nat.le_of_ble_eq_true rfl⟩) (fun r_10 e_10 => ?_)
    subst e_10
    refine lv_goto (tgt := 17) hx hb dM_credit_13 (by decide) ?_
    exact W.lret (v := f_M_creditOf m p) hx hb hr (fun t ht hW => ⟨_, rfl, by rw [f_M_credit, if_neg c_5], ht⟩) (fun q h => by cases h) dM_credit_17
