theorem put_cnt {len cnt : Nat} {f : Nat → Int32} {g : Nat → Int64} {pair : Int32} {amount : Int64} (h : cnt ≤ len) (hl : len < 2 ^ 31) : (g_P_put len cnt f g pair amount).2.1 ≤ len := by
  unfold g_P_put
  split
  · split
    · rename_i c
      have hlt : cnt < len := Nat.lt_of_not_le (fun q => nI_nlt q (by omega) c)
      show cnt + 1 ≤ len
      omega
    · exact h
  · exact h
theorem XB_addPaid {x : XS} {p q : Int32} {v : Int64} (hB : XB x) : XB (g_X_addPaid x p q v) ∧ (g_X_addPaid x p q v).1 5 = x.1 5 := by
  obtain ⟨hb0, hb1, hb2, hb3, hb4, hb5, hb6, hb7, hb8⟩ := hB
  unfold g_X_addPaid
  split
  · exact ⟨⟨hb0, hb1, hb2, hb3, hb4, hb5, put_cnt hb6 (by decide), hb7, hb8⟩, rfl⟩
  · exact ⟨⟨hb0, hb1, hb2, hb3, hb4, hb5, put_cnt hb6 (by decide), hb7, hb8⟩, rfl⟩

theorem dX_doLeg_0 : decode prog_1_method_45_code 0 = .ok (.aload_n 0, 1) := by decide +kernel
theorem dX_doLeg_1 : decode prog_1_method_45_code 1 = .ok (.aload_n 0, 1) := by decide +kernel
theorem dX_doLeg_2 : decode prog_1_method_45_code 2 = .ok (.getfield 51, 3) := by decide +kernel
theorem dX_doLeg_5 : decode prog_1_method_45_code 5 = .ok (.getfield 145, 3) := by decide +kernel
theorem dX_doLeg_8 : decode prog_1_method_45_code 8 = .ok (.iload_n 1, 1) := by decide +kernel
theorem dX_doLeg_9 : decode prog_1_method_45_code 9 = .ok (.iaload, 1) := by decide +kernel
theorem dX_doLeg_10 : decode prog_1_method_45_code 10 = .ok (.invokevirtual 79, 3) := by decide +kernel
theorem dX_doLeg_13 : decode prog_1_method_45_code 13 = .ok (.astore_n 2, 1) := by decide +kernel
theorem dX_doLeg_14 : decode prog_1_method_45_code 14 = .ok (.aload_n 2, 1) := by decide +kernel
theorem dX_doLeg_15 : decode prog_1_method_45_code 15 = .ok (.ifnonnull 4, 3) := by decide +kernel
theorem dX_doLeg_18 : decode prog_1_method_45_code 18 = .ok (.return_, 1) := by decide +kernel
theorem dX_doLeg_19 : decode prog_1_method_45_code 19 = .ok (.aload_n 2, 1) := by decide +kernel
theorem dX_doLeg_20 : decode prog_1_method_45_code 20 = .ok (.aload_n 0, 1) := by decide +kernel
theorem dX_doLeg_21 : decode prog_1_method_45_code 21 = .ok (.getfield 51, 3) := by decide +kernel
theorem dX_doLeg_24 : decode prog_1_method_45_code 24 = .ok (.getfield 141, 3) := by decide +kernel
theorem dX_doLeg_27 : decode prog_1_method_45_code 27 = .ok (.iload_n 1, 1) := by decide +kernel
theorem dX_doLeg_28 : decode prog_1_method_45_code 28 = .ok (.iaload, 1) := by decide +kernel
theorem dX_doLeg_29 : decode prog_1_method_45_code 29 = .ok (.aload_n 0, 1) := by decide +kernel
theorem dX_doLeg_30 : decode prog_1_method_45_code 30 = .ok (.getfield 51, 3) := by decide +kernel
theorem dX_doLeg_33 : decode prog_1_method_45_code 33 = .ok (.getfield 224, 3) := by decide +kernel
theorem dX_doLeg_36 : decode prog_1_method_45_code 36 = .ok (.iload_n 1, 1) := by decide +kernel
theorem dX_doLeg_37 : decode prog_1_method_45_code 37 = .ok (.iaload, 1) := by decide +kernel
theorem dX_doLeg_38 : decode prog_1_method_45_code 38 = .ok (.aload_n 0, 1) := by decide +kernel
theorem dX_doLeg_39 : decode prog_1_method_45_code 39 = .ok (.getfield 51, 3) := by decide +kernel
theorem dX_doLeg_42 : decode prog_1_method_45_code 42 = .ok (.getfield 227, 3) := by decide +kernel
theorem dX_doLeg_45 : decode prog_1_method_45_code 45 = .ok (.iload_n 1, 1) := by decide +kernel
theorem dX_doLeg_46 : decode prog_1_method_45_code 46 = .ok (.laload, 1) := by decide +kernel
theorem dX_doLeg_47 : decode prog_1_method_45_code 47 = .ok (.invokevirtual 95, 3) := by decide +kernel
theorem dX_doLeg_50 : decode prog_1_method_45_code 50 = .ok (.aload_n 0, 1) := by decide +kernel
theorem dX_doLeg_51 : decode prog_1_method_45_code 51 = .ok (.getfield 51, 3) := by decide +kernel
theorem dX_doLeg_54 : decode prog_1_method_45_code 54 = .ok (.getfield 145, 3) := by decide +kernel
theorem dX_doLeg_57 : decode prog_1_method_45_code 57 = .ok (.iload_n 1, 1) := by decide +kernel
theorem dX_doLeg_58 : decode prog_1_method_45_code 58 = .ok (.iaload, 1) := by decide +kernel
theorem dX_doLeg_59 : decode prog_1_method_45_code 59 = .ok (.aload_n 0, 1) := by decide +kernel
theorem dX_doLeg_60 : decode prog_1_method_45_code 60 = .ok (.getfield 25, 3) := by decide +kernel
theorem dX_doLeg_63 : decode prog_1_method_45_code 63 = .ok (.if_icmp .ne 34, 3) := by decide +kernel
theorem dX_doLeg_66 : decode prog_1_method_45_code 66 = .ok (.aload_n 0, 1) := by decide +kernel
theorem dX_doLeg_67 : decode prog_1_method_45_code 67 = .ok (.aload_n 0, 1) := by decide +kernel
theorem dX_doLeg_68 : decode prog_1_method_45_code 68 = .ok (.getfield 51, 3) := by decide +kernel
theorem dX_doLeg_71 : decode prog_1_method_45_code 71 = .ok (.getfield 141, 3) := by decide +kernel
theorem dX_doLeg_74 : decode prog_1_method_45_code 74 = .ok (.iload_n 1, 1) := by decide +kernel
theorem dX_doLeg_75 : decode prog_1_method_45_code 75 = .ok (.iaload, 1) := by decide +kernel
theorem dX_doLeg_76 : decode prog_1_method_45_code 76 = .ok (.aload_n 0, 1) := by decide +kernel
theorem dX_doLeg_77 : decode prog_1_method_45_code 77 = .ok (.getfield 51, 3) := by decide +kernel
theorem dX_doLeg_80 : decode prog_1_method_45_code 80 = .ok (.getfield 224, 3) := by decide +kernel
theorem dX_doLeg_83 : decode prog_1_method_45_code 83 = .ok (.iload_n 1, 1) := by decide +kernel
theorem dX_doLeg_84 : decode prog_1_method_45_code 84 = .ok (.iaload, 1) := by decide +kernel
theorem dX_doLeg_85 : decode prog_1_method_45_code 85 = .ok (.aload_n 0, 1) := by decide +kernel
theorem dX_doLeg_86 : decode prog_1_method_45_code 86 = .ok (.getfield 51, 3) := by decide +kernel
theorem dX_doLeg_89 : decode prog_1_method_45_code 89 = .ok (.getfield 227, 3) := by decide +kernel
theorem dX_doLeg_92 : decode prog_1_method_45_code 92 = .ok (.iload_n 1, 1) := by decide +kernel
theorem dX_doLeg_93 : decode prog_1_method_45_code 93 = .ok (.laload, 1) := by decide +kernel
theorem dX_doLeg_94 : decode prog_1_method_45_code 94 = .ok (.invokevirtual 230, 3) := by decide +kernel
theorem dX_doLeg_97 : decode prog_1_method_45_code 97 = .ok (.return_, 1) := by decide +kernel
def g_X_doLeg (x : XS) (k : Int32) : XS := if xIs x ((x.2.2.2.1 4) (k).toNatClampNeg) then (if ((x.2.2.2.1 4) (k).toNatClampNeg) = x.2.1 then (g_X_addPaid (g_A_move x (((x.2.2.2.1 4) (k).toNatClampNeg).toNatClampNeg) ((x.2.2.2.1 2) (k).toNatClampNeg) ((x.2.2.2.1 3) (k).toNatClampNeg) ((x.2.2.2.2.1 3) (k).toNatClampNeg)) ((x.2.2.2.1 2) (k).toNatClampNeg) ((x.2.2.2.1 3) (k).toNatClampNeg) ((x.2.2.2.2.1 3) (k).toNatClampNeg)) else (g_A_move x (((x.2.2.2.1 4) (k).toNatClampNeg).toNatClampNeg) ((x.2.2.2.1 2) (k).toNatClampNeg) ((x.2.2.2.1 3) (k).toNatClampNeg) ((x.2.2.2.2.1 3) (k).toNatClampNeg))) else x
set_option maxHeartbeats 4000000 in
set_option maxRecDepth 100000 in
theorem c_X_doLeg (l : Launch) (D : va_G) (cI cL cQ : ClassId) (d : Nat → Nat) (κ0 : Nat → Option va_E) (x : XS) (hX : IsX cI cL cQ d κ0 x) (hB : XB x) (sz : Nat) (k : Int32) (hk4 : vp_in k 4) (hf : vp_in (x.2.2.2.1 2 (k).toNatClampNeg) (x.1 0)) (ht : vp_in (x.2.2.2.1 3 (k).toNatClampNeg) (x.1 0)) : Met l yX_doLeg wX_doLeg { frames := 3, cells := 0, slots := 0, locals := 71 } (va_Pc [.ref (d 18), .int (k)] (kC D vCl (kT cI cL cQ) d κ0 sz)) (kNv D vCl d (kA d κ0 sz) (fun κ' => XW cI cL cQ κ0 d κ' (g_X_doLeg x k))) 0 0 (kA d κ0 sz) := by
  refine kMet (by decide) (Nat.le_of_ble_eq_true rfl) ?_
  intro p0 e0 s0 m0 below0 meth0 c0 hx hb hr hml hown hlocks hin hts hsz hP hK ls hl
  subst hsz
  have hl : lv_has ls 3 [(0, .ref (d 18)), (1, .int (k))] := hl
  have hB9 := hB
  obtain ⟨hb0, hb1, hb2, hb3, hb4, hb5, hb6, hb7, hb8⟩ := hB9
  obtain ⟨κ, hM, hW⟩ : ∃ κ', kW D vCl d κ' (kA d κ0 s0.heap.size) s0.heap s0.heap [] ∧ XW cI cL cQ κ0 d κ' x := ⟨κ0, kW.start hP, ⟨hX, fun _ _ => rfl⟩⟩
  refine lv_aload_n hx hb dX_doLeg_0 rfl (lv_at hl 0 rfl) ?_
  refine lv_aload_n hx hb dX_doLeg_1 rfl (lv_at hl 0 rfl) ?_
  refine ka_get (v := .ref (d 27)) (ci := 3) (C := RX) (T := TX) (N := 10) hx hb hts inX hown hK hM.1 (q := 18) hW.1.1 rfl 9 (by decide) (hts _ tw_108) (fun _ h9 => h9) rfl dX_doLeg_2 ?_
  refine ka_get (v := .ref (d 30)) (ci := 1) (C := RG) (T := TG) (N := 5) hx hb hts inG hown hK hM.1 (q := 27) hW.1.2.2.2.2.2.2.2.2.2.1 rfl 2 (by decide) (hts _ tw_83) (fun _ h9 => h9) rfl dX_doLeg_5 ?_
  refine lv_iload_n hx hb dX_doLeg_8 rfl (lv_at hl 1 rfl) ?_
  refine ka_iald (f := x.2.2.2.1 4) hx hb hK hM.1 0 (q := 30) hW.1.2.2.2.2.2.2.2.2.2.2.2.2.1 rfl (by first | assumption | exact vp_in_nI (by omega) (by omega)) dX_doLeg_9 ?_
  refine va_csq (W.runV (C := RX) (As := [.int ((x.2.2.2.1 4) (k).toNatClampNeg)]) (rest := []) ⟨hx, hb, hml, hown, hts⟩ (c_X_assetAt l D cI cL cQ d κ x hW.1 hB _ ((x.2.2.2.1 4) (k).toNatClampNeg)) (cwV 1 hts (k_gV tw_179 tw_181 tw_2 tw_38 tw_182) rfl rfl rfl (by decide +kernel) ⟨Nat.le_of_ble_eq_true rfl, Nat.le_of_ble_eq_true rfl⟩) (kPreV hM.1 hK (q := 18) hW.1.1 rfl) rfl rfl hl.1 rfl (lv_room (Nat.le_of_ble_eq_true rfl)) dX_doLeg_10 ⟨Nat.le_of_ble_eq_true rfl, Nat.le_of_ble_eq_true rfl⟩) (fun r_10 e_10 => ?_)
  subst e_10
  by_cases hA_10 : xIs x ((x.2.2.2.1 4) (k).toNatClampNeg)
  · rw [if_pos hA_10]
    have hi_10 : ((x.2.2.2.1 4) (k).toNatClampNeg).toNatClampNeg < x.1 2 := (xIs_in hB hA_10).2
    refine lv_astore_n (lv' := [(2, .ref (d (32 + 3 * ((x.2.2.2.1 4) (k).toNatClampNeg).toNatClampNeg))), (0, .ref (d 18)), (1, .int (k))]) hx hb dX_doLeg_13 rfl hl (by decide) rfl (fun ls hl => ?_)
    refine lv_aload_n hx hb dX_doLeg_14 rfl (lv_at hl 0 rfl) ?_
    refine lv_ifnonnull (tgt := 19) hx hb dX_doLeg_15 (by decide) ?_
    refine lv_aload_n hx hb dX_doLeg_19 rfl (lv_at hl 0 rfl) ?_
    refine lv_aload_n hx hb dX_doLeg_20 rfl (lv_at hl 1 rfl) ?_
    refine ka_get (v := .ref (d 27)) (ci := 3) (C := RX) (T := TX) (N := 10) hx hb hts inX hown hK hM.1 (q := 18) hW.1.1 rfl 9 (by decide) (hts _ tw_108) (fun _ h9 => h9) rfl dX_doLeg_21 ?_
    refine ka_get (v := .ref (d 28)) (ci := 1) (C := RG) (T := TG) (N := 5) hx hb hts inG hown hK hM.1 (q := 27) hW.1.2.2.2.2.2.2.2.2.2.1 rfl 0 (by decide) (hts _ tw_79) (fun _ h9 => h9) rfl dX_doLeg_24 ?_
    refine lv_iload_n hx hb dX_doLeg_27 rfl (lv_at hl 2 rfl) ?_
    refine ka_iald (f := x.2.2.2.1 2) hx hb hK hM.1 0 (q := 28) hW.1.2.2.2.2.2.2.2.2.2.2.1 rfl (by first | assumption | exact vp_in_nI (by omega) (by omega)) dX_doLeg_28 ?_
    refine lv_aload_n hx hb dX_doLeg_29 rfl (lv_at hl 1 rfl) ?_
    refine ka_get (v := .ref (d 27)) (ci := 3) (C := RX) (T := TX) (N := 10) hx hb hts inX hown hK hM.1 (q := 18) hW.1.1 rfl 9 (by decide) (hts _ tw_108) (fun _ h9 => h9) rfl dX_doLeg_30 ?_
    refine ka_get (v := .ref (d 29)) (ci := 1) (C := RG) (T := TG) (N := 5) hx hb hts inG hown hK hM.1 (q := 27) hW.1.2.2.2.2.2.2.2.2.2.1 rfl 1 (by decide) (hts _ tw_81) (fun _ h9 => h9) rfl dX_doLeg_33 ?_
    refine lv_iload_n hx hb dX_doLeg_36 rfl (lv_at hl 2 rfl) ?_
    refine ka_iald (f := x.2.2.2.1 3) hx hb hK hM.1 0 (q := 29) hW.1.2.2.2.2.2.2.2.2.2.2.2.1 rfl (by first | assumption | exact vp_in_nI (by omega) (by omega)) dX_doLeg_37 ?_
    refine lv_aload_n hx hb dX_doLeg_38 rfl (lv_at hl 1 rfl) ?_
    refine ka_get (v := .ref (d 27)) (ci := 3) (C := RX) (T := TX) (N := 10) hx hb hts inX hown hK hM.1 (q := 18) hW.1.1 rfl 9 (by decide) (hts _ tw_108) (fun _ h9 => h9) rfl dX_doLeg_39 ?_
    refine ka_get (v := .ref (d 31)) (ci := 1) (C := RG) (T := TG) (N := 5) hx hb hts inG hown hK hM.1 (q := 27) hW.1.2.2.2.2.2.2.2.2.2.1 rfl 3 (by decide) (hts _ tw_85) (fun _ h9 => h9) rfl dX_doLeg_42 ?_
    refine lv_iload_n hx hb dX_doLeg_45 rfl (lv_at hl 2 rfl) ?_
    refine ka_lald (f := x.2.2.2.2.1 3) hx hb hK hM.1 1 (q := 31) hW.1.2.2.2.2.2.2.2.2.2.2.2.2.2.1 rfl (by first | assumption | exact vp_in_nI (by omega) (by omega)) dX_doLeg_46 ?_
    refine ka_ncallv (W.runV (C := RA) (As := [.int ((x.2.2.2.1 2) (k).toNatClampNeg), .int ((x.2.2.2.1 3) (k).toNatClampNeg), .long ((x.2.2.2.2.1 3) (k).toNatClampNeg)]) (rest := []) ⟨hx, hb, hml, hown, hts⟩ (c_A_move l D cI cL cQ d κ x hW.1 hB _ (((x.2.2.2.1 4) (k).toNatClampNeg).toNatClampNeg) hi_10 ((x.2.2.2.1 2) (k).toNatClampNeg) ((x.2.2.2.1 3) (k).toNatClampNeg) ((x.2.2.2.2.1 3) (k).toNatClampNeg) hf ht) (cwV 3 hts (k_gV tw_220 tw_221 tw_222 tw_42 tw_223) rfl rfl rfl (by decide +kernel) ⟨Nat.le_of_ble_eq_true rfl, Nat.le_of_ble_eq_true rfl⟩) (kPreV hM.1 hK (q := (32 + 3 * ((x.2.2.2.1 4) (k).toNatClampNeg).toNatClampNeg)) (hW.1.2.2.2.2.2.2.2.2.2.2.2.2.2.2.1 (((x.2.2.2.1 4) (k).toNatClampNeg).toNatClampNeg) hi_10).1 rfl) rfl rfl hl.1 rfl (lv_room (Nat.le_of_ble_eq_true rfl)) dX_doLeg_47 ⟨Nat.le_of_ble_eq_true rfl, Nat.le_of_ble_eq_true rfl⟩) hM (fun _ h9 => Or.inr h9) (fun κ1 H locs hW1 hM => ?_)
    obtain ⟨κ, hM, hW⟩ : ∃ κ', kW D vCl d κ' (kA d κ0 s0.heap.size) s0.heap H locs ∧ XW cI cL cQ κ0 d κ' (g_A_move x (((x.2.2.2.1 4) (k).toNatClampNeg).toNatClampNeg) ((x.2.2.2.1 2) (k).toNatClampNeg) ((x.2.2.2.1 3) (k).toNatClampNeg) ((x.2.2.2.2.1 3) (k).toNatClampNeg)) := ⟨κ1, hM, hW.trans hW1⟩
    refine lv_aload_n hx hb dX_doLeg_50 rfl (lv_at hl 1 rfl) ?_
    refine ka_get (v := .ref (d 27)) (ci := 3) (C := RX) (T := TX) (N := 10) hx hb hts inX hown hK hM.1 (q := 18) hW.1.1 rfl 9 (by decide) (hts _ tw_108) (fun _ h9 => h9) rfl dX_doLeg_51 ?_
    refine ka_get (v := .ref (d 30)) (ci := 1) (C := RG) (T := TG) (N := 5) hx hb hts inG hown hK hM.1 (q := 27) hW.1.2.2.2.2.2.2.2.2.2.1 rfl 2 (by decide) (hts _ tw_83) (fun _ h9 => h9) rfl dX_doLeg_54 ?_
    refine lv_iload_n hx hb dX_doLeg_57 rfl (lv_at hl 2 rfl) ?_
    refine ka_iald (f := x.2.2.2.1 4) hx hb hK hM.1 0 (q := 30) hW.1.2.2.2.2.2.2.2.2.2.2.2.2.1 rfl (by first | assumption | exact vp_in_nI (by omega) (by omega)) dX_doLeg_58 ?_
    refine lv_aload_n hx hb dX_doLeg_59 rfl (lv_at hl 1 rfl) ?_
    refine ka_get (v := .int (x.2.1)) (ci := 3) (C := RX) (T := TX) (N := 10) hx hb hts inX hown hK hM.1 (q := 18) hW.1.1 rfl 4 (by decide) (hts _ tw_103) (fun _ h9 => h9) rfl dX_doLeg_60 ?_
    refine lv_icmp_ne (tgt := 97) hx hb dX_doLeg_63 (by decide) (fun c_63 => ?_) (fun c_63 => ?_)
    · have hg : g_X_doLeg x k = g_A_move x (((x.2.2.2.1 4) (k).toNatClampNeg).toNatClampNeg) ((x.2.2.2.1 2) (k).toNatClampNeg) ((x.2.2.2.1 3) (k).toNatClampNeg) ((x.2.2.2.2.1 3) (k).toNatClampNeg) := by rw [g_X_doLeg, if_pos hA_10, if_neg c_63]
      exact W.vret hx hb hr (fun t ht h9 => kNv.of hM ht (by rw [hg]; exact hW)) hM.2.2.2.2 dX_doLeg_97
    · refine lv_aload_n hx hb dX_doLeg_66 rfl (lv_at hl 1 rfl) ?_
      refine lv_aload_n hx hb dX_doLeg_67 rfl (lv_at hl 1 rfl) ?_
      refine ka_get (v := .ref (d 27)) (ci := 3) (C := RX) (T := TX) (N := 10) hx hb hts inX hown hK hM.1 (q := 18) hW.1.1 rfl 9 (by decide) (hts _ tw_108) (fun _ h9 => h9) rfl dX_doLeg_68 ?_
      refine ka_get (v := .ref (d 28)) (ci := 1) (C := RG) (T := TG) (N := 5) hx hb hts inG hown hK hM.1 (q := 27) hW.1.2.2.2.2.2.2.2.2.2.1 rfl 0 (by decide) (hts _ tw_79) (fun _ h9 => h9) rfl dX_doLeg_71 ?_
      refine lv_iload_n hx hb dX_doLeg_74 rfl (lv_at hl 2 rfl) ?_
      refine ka_iald (f := x.2.2.2.1 2) hx hb hK hM.1 0 (q := 28) hW.1.2.2.2.2.2.2.2.2.2.2.1 rfl (by first | assumption | exact vp_in_nI (by omega) (by omega)) dX_doLeg_75 ?_
      refine lv_aload_n hx hb dX_doLeg_76 rfl (lv_at hl 1 rfl) ?_
      refine ka_get (v := .ref (d 27)) (ci := 3) (C := RX) (T := TX) (N := 10) hx hb hts inX hown hK hM.1 (q := 18) hW.1.1 rfl 9 (by decide) (hts _ tw_108) (fun _ h9 => h9) rfl dX_doLeg_77 ?_
      refine ka_get (v := .ref (d 29)) (ci := 1) (C := RG) (T := TG) (N := 5) hx hb hts inG hown hK hM.1 (q := 27) hW.1.2.2.2.2.2.2.2.2.2.1 rfl 1 (by decide) (hts _ tw_81) (fun _ h9 => h9) rfl dX_doLeg_80 ?_
      refine lv_iload_n hx hb dX_doLeg_83 rfl (lv_at hl 2 rfl) ?_
      refine ka_iald (f := x.2.2.2.1 3) hx hb hK hM.1 0 (q := 29) hW.1.2.2.2.2.2.2.2.2.2.2.2.1 rfl (by first | assumption | exact vp_in_nI (by omega) (by omega)) dX_doLeg_84 ?_
      refine lv_aload_n hx hb dX_doLeg_85 rfl (lv_at hl 1 rfl) ?_
      refine ka_get (v := .ref (d 27)) (ci := 3) (C := RX) (T := TX) (N := 10) hx hb hts inX hown hK hM.1 (q := 18) hW.1.1 rfl 9 (by decide) (hts _ tw_108) (fun _ h9 => h9) rfl dX_doLeg_86 ?_
      refine ka_get (v := .ref (d 31)) (ci := 1) (C := RG) (T := TG) (N := 5) hx hb hts inG hown hK hM.1 (q := 27) hW.1.2.2.2.2.2.2.2.2.2.1 rfl 3 (by decide) (hts _ tw_85) (fun _ h9 => h9) rfl dX_doLeg_89 ?_
      refine lv_iload_n hx hb dX_doLeg_92 rfl (lv_at hl 2 rfl) ?_
      refine ka_lald (f := x.2.2.2.2.1 3) hx hb hK hM.1 1 (q := 31) hW.1.2.2.2.2.2.2.2.2.2.2.2.2.2.1 rfl (by first | assumption | exact vp_in_nI (by omega) (by omega)) dX_doLeg_93 ?_
      refine ka_ncallv (W.runV (C := RX) (As := [.int ((x.2.2.2.1 2) (k).toNatClampNeg), .int ((x.2.2.2.1 3) (k).toNatClampNeg), .long ((x.2.2.2.2.1 3) (k).toNatClampNeg)]) (rest := []) ⟨hx, hb, hml, hown, hts⟩ (c_X_addPaid l D cI cL cQ d κ (g_A_move x (((x.2.2.2.1 4) (k).toNatClampNeg).toNatClampNeg) ((x.2.2.2.1 2) (k).toNatClampNeg) ((x.2.2.2.1 3) (k).toNatClampNeg) ((x.2.2.2.2.1 3) (k).toNatClampNeg)) hW.1 hB _ ((x.2.2.2.1 2) (k).toNatClampNeg) ((x.2.2.2.1 3) (k).toNatClampNeg) ((x.2.2.2.2.1 3) (k).toNatClampNeg)) (cwV 3 hts (k_gV tw_334 tw_336 tw_18 tw_38 tw_337) rfl rfl rfl (by decide +kernel) ⟨Nat.le_of_ble_eq_true rfl, Nat.le_of_ble_eq_true rfl⟩) (kPreV hM.1 hK (q := 18) hW.1.1 rfl) rfl rfl hl.1 rfl (lv_room (Nat.le_of_ble_eq_true rfl)) dX_doLeg_94 ⟨Nat.le_of_ble_eq_true rfl, Nat.le_of_ble_eq_true rfl⟩) hM (fun _ h9 => Or.inr h9) (fun κ1 H locs hW1 hM => ?_)
      obtain ⟨κ, hM, hW⟩ : ∃ κ', kW D vCl d κ' (kA d κ0 s0.heap.size) s0.heap H locs ∧ XW cI cL cQ κ0 d κ' (g_X_addPaid (g_A_move x (((x.2.2.2.1 4) (k).toNatClampNeg).toNatClampNeg) ((x.2.2.2.1 2) (k).toNatClampNeg) ((x.2.2.2.1 3) (k).toNatClampNeg) ((x.2.2.2.2.1 3) (k).toNatClampNeg)) ((x.2.2.2.1 2) (k).toNatClampNeg) ((x.2.2.2.1 3) (k).toNatClampNeg) ((x.2.2.2.2.1 3) (k).toNatClampNeg)) := ⟨κ1, hM, hW.trans hW1⟩
      have hg : g_X_doLeg x k = (g_X_addPaid (g_A_move x (((x.2.2.2.1 4) (k).toNatClampNeg).toNatClampNeg) ((x.2.2.2.1 2) (k).toNatClampNeg) ((x.2.2.2.1 3) (k).toNatClampNeg) ((x.2.2.2.2.1 3) (k).toNatClampNeg)) ((x.2.2.2.1 2) (k).toNatClampNeg) ((x.2.2.2.1 3) (k).toNatClampNeg) ((x.2.2.2.2.1 3) (k).toNatClampNeg)) := by rw [g_X_doLeg, if_pos hA_10, if_pos c_63]
      exact W.vret hx hb hr (fun t ht h9 => kNv.of hM ht (by rw [hg]; exact hW)) hM.2.2.2.2 dX_doLeg_97
  · rw [if_neg hA_10]
    refine lv_astore_nN (lv' := [(2, .null), (0, .ref (d 18)), (1, .int (k))]) hx hb dX_doLeg_13 rfl hl (by decide) rfl (fun ls hl => ?_)
    refine lv_aload_nN hx hb dX_doLeg_14 rfl (lv_at hl 0 rfl) ?_
    refine lv_ifnonnullN hx hb dX_doLeg_15 ?_
    have hg : g_X_doLeg x k = x := by rw [g_X_doLeg, if_neg hA_10]
    exact W.vret hx hb hr (fun t ht h9 => kNv.of hM ht (by rw [hg]; exact hW)) hM.2.2.2.2 dX_doLeg_18

theorem XB_doLeg {x : XS} {k : Int32} (hB : XB x) : XB (g_X_doLeg x k) ∧ (g_X_doLeg x k).1 5 = x.1 5 := by
  unfold g_X_doLeg
  split
  · split
    · exact XB_addPaid (x := g_A_move x _ _ _ _) hB
    · exact ⟨hB, rfl⟩
  · exact ⟨hB, rfl⟩

theorem dX_post_0 : decode prog_1_method_14_code 0 = .ok (.aload_n 0, 1) := by decide +kernel
theorem dX_post_1 : decode prog_1_method_14_code 1 = .ok (.invokevirtual 154, 3) := by decide +kernel
theorem dX_post_4 : decode prog_1_method_14_code 4 = .ok (.ifCond .ne 5, 3) := by decide +kernel
theorem dX_post_7 : decode prog_1_method_14_code 7 = .ok (.iconst 0, 1) := by decide +kernel
theorem dX_post_8 : decode prog_1_method_14_code 8 = .ok (.ireturn, 1) := by decide +kernel
theorem dX_post_9 : decode prog_1_method_14_code 9 = .ok (.iconst 0, 1) := by decide +kernel
theorem dX_post_10 : decode prog_1_method_14_code 10 = .ok (.istore_n 1, 1) := by decide +kernel
theorem dX_post_11 : decode prog_1_method_14_code 11 = .ok (.iload_n 1, 1) := by decide +kernel
theorem dX_post_12 : decode prog_1_method_14_code 12 = .ok (.aload_n 0, 1) := by decide +kernel
theorem dX_post_13 : decode prog_1_method_14_code 13 = .ok (.getfield 51, 3) := by decide +kernel
theorem dX_post_16 : decode prog_1_method_14_code 16 = .ok (.getfield 138, 3) := by decide +kernel
theorem dX_post_19 : decode prog_1_method_14_code 19 = .ok (.if_icmp .ge 14, 3) := by decide +kernel
theorem dX_post_22 : decode prog_1_method_14_code 22 = .ok (.aload_n 0, 1) := by decide +kernel
theorem dX_post_23 : decode prog_1_method_14_code 23 = .ok (.iload_n 1, 1) := by decide +kernel
theorem dX_post_24 : decode prog_1_method_14_code 24 = .ok (.invokevirtual 158, 3) := by decide +kernel
theorem dX_post_27 : decode prog_1_method_14_code 27 = .ok (.iinc 1 1, 3) := by decide +kernel
theorem dX_post_30 : decode prog_1_method_14_code 30 = .ok (.goto (-19), 3) := by decide +kernel
theorem dX_post_33 : decode prog_1_method_14_code 33 = .ok (.aload_n 0, 1) := by decide +kernel
theorem dX_post_34 : decode prog_1_method_14_code 34 = .ok (.getfield 51, 3) := by decide +kernel
theorem dX_post_37 : decode prog_1_method_14_code 37 = .ok (.iconst 0, 1) := by decide +kernel
theorem dX_post_38 : decode prog_1_method_14_code 38 = .ok (.putfield 138, 3) := by decide +kernel
theorem dX_post_41 : decode prog_1_method_14_code 41 = .ok (.iconst 1, 1) := by decide +kernel
theorem dX_post_42 : decode prog_1_method_14_code 42 = .ok (.ireturn, 1) := by decide +kernel
def g_X_post_l (x : XS) : Nat → Nat → XS → Int32 × XS
  | 0, _, xs => (0, xs)
  | n + 1, k, xs => if (nI (xs.1 5)) ≤ (nI k) then (1, xN xs 5 0) else (g_X_post_l x n (k + 1) (g_X_doLeg xs (nI k)))
theorem g_X_post_l_s (x : XS) (n : Nat) (k : Nat) (xs : XS) : g_X_post_l x (n + 1) k xs = (if (nI (xs.1 5)) ≤ (nI k) then (1, xN xs 5 0) else (g_X_post_l x n (k + 1) (g_X_doLeg xs (nI k)))) := rfl
def g_X_post (x : XS) : Int32 × XS := if (f_X_holds x) = 0 then (0, x) else (g_X_post_l x (x.1 5 + 1) 0 x)
set_option maxHeartbeats 4000000 in
set_option maxRecDepth 100000 in
theorem c_X_post (l : Launch) (D : va_G) (cI cL cQ : ClassId) (d : Nat → Nat) (κ0 : Nat → Option va_E) (x : XS) (hX : IsX cI cL cQ d κ0 x) (hB : XB x) (sz : Nat)   : Met l yX_post wX_post { frames := 6, cells := 0, slots := 0, locals := 132 } (va_Pc [.ref (d 18)] (kC D vCl (kT cI cL cQ) d κ0 sz)) (kNi D vCl d (kA d κ0 sz) (fun r κ' => r = (g_X_post x).1 ∧ XW cI cL cQ κ0 d κ' (g_X_post x).2)) 0 0 (kA d κ0 sz) := by
  refine kMet (by decide) (Nat.le_of_ble_eq_true rfl) ?_
  intro p0 e0 s0 m0 below0 meth0 c0 hx hb hr hml hown hlocks hin hts hsz hP hK ls hl
  subst hsz
  have hl : lv_has ls 2 [(0, .ref (d 18))] := hl
  have hB9 := hB
  obtain ⟨hb0, hb1, hb2, hb3, hb4, hb5, hb6, hb7, hb8⟩ := hB9
  obtain ⟨κ, hM, hW⟩ : ∃ κ', kW D vCl d κ' (kA d κ0 s0.heap.size) s0.heap s0.heap [] ∧ XW cI cL cQ κ0 d κ' x := ⟨κ0, kW.start hP, ⟨hX, fun _ _ => rfl⟩⟩
  refine lv_aload_n hx hb dX_post_0 rfl (lv_at hl 0 rfl) ?_
  refine vp_callSi (W.runV (C := RX) (As := []) (rest := []) ⟨hx, hb, hml, hown, hts⟩ (c_X_holds l D cI cL cQ d κ x hW.1 hB _ ) (cwV 0 hts (k_gV tw_329 tw_298 tw_299 tw_38 tw_300) rfl rfl rfl (by decide +kernel) ⟨Nat.le_of_ble_eq_true rfl, Nat.le_of_ble_eq_true rfl⟩) (kPreV hM.1 hK (q := 18) hW.1.1 rfl) rfl rfl hl.1 rfl (lv_room (Nat.le_of_ble_eq_true rfl)) dX_post_1 ⟨Nat.le_of_ble_eq_true rfl, Nat.le_of_ble_eq_true rfl⟩) (fun r_1 e_1 => ?_)
  subst e_1
  refine lv_if_ne (tgt := 9) hx hb dX_post_4 (by decide) (fun c_4 => ?_) (fun c_4 => ?_)
  · refine lv_iconst (v := 0) hx hb dX_post_9 (by decide) ?_
    refine lv_istore_n (lv' := [(1, .int (0)), (0, .ref (d 18))]) hx hb dX_post_10 rfl hl (by decide) rfl (fun ls hl => ?_)
    refine k_recW (σ := Nat × XS × (Nat → Option va_E)) (fun n z9 H locs ls => z9.1 ≤ x.1 5 ∧ x.1 5 < z9.1 + n ∧ g_X_post_l x n z9.1 z9.2.1 = g_X_post x ∧ kW D vCl d z9.2.2 (kA d κ0 s0.heap.size) s0.heap H locs ∧ XW cI cL cQ κ0 d z9.2.2 z9.2.1 ∧ (XB z9.2.1 ∧ z9.2.1.1 5 = x.1 5) ∧ lv_has ls 2 [(1, .int (nI z9.1)), (0, .ref (d 18))]) (x.1 5 + 1) (0, x, κ) ⟨by omega, by omega, by rw [g_X_post, if_neg c_4], hM, hW, ⟨hB, rfl⟩, lv_sub hl [0, 1] rfl⟩ ?_
    intro n z9 H locs ls hI ih
    obtain ⟨k, xs, κ⟩ := z9
    obtain ⟨hk, hn, hE, hM, hW, hx9, hl⟩ := hI
    dsimp only at hk hn hE hM hW hx9 hl
    obtain ⟨n, rfl⟩ : ∃ q, n = q + 1 := ⟨n - 1, by omega⟩
    refine lv_iload_n hx hb dX_post_11 rfl (lv_at hl 0 rfl) ?_
    refine lv_aload_n hx hb dX_post_12 rfl (lv_at hl 1 rfl) ?_
    refine ka_get (v := .ref (d 27)) (ci := 3) (C := RX) (T := TX) (N := 10) hx hb hts inX hown hK hM.1 (q := 18) hW.1.1 rfl 9 (by decide) (hts _ tw_108) (fun _ h9 => h9) rfl dX_post_13 ?_
    refine ka_get (v := .int (nI (xs.1 5))) (ci := 1) (C := RG) (T := TG) (N := 5) hx hb hts inG hown hK hM.1 (q := 27) hW.1.2.2.2.2.2.2.2.2.2.1 rfl 4 (by decide) (hts _ tw_87) (fun _ h9 => h9) rfl dX_post_16 ?_
    refine lv_icmp_ge (tgt := 33) hx hb dX_post_19 (by decide) (fun c_19 => ?_) (fun c_19 => ?_)
    · refine lv_aload_n hx hb dX_post_33 rfl (lv_at hl 1 rfl) ?_
      refine ka_get (v := .ref (d 27)) (ci := 3) (C := RX) (T := TX) (N := 10) hx hb hts inX hown hK hM.1 (q := 18) hW.1.1 rfl 9 (by decide) (hts _ tw_108) (fun _ h9 => h9) rfl dX_post_34 ?_
      refine lv_iconst (v := 0) hx hb dX_post_37 (by decide) ?_
      refine ka_put (D := D) (ci := 1) (v := .int (0)) (ty := .int) (C := RG) (T := TG) (N := 5) hx hb hts inG tG tG_ok nG hown hK hM (q := 27) hW.1.2.2.2.2.2.2.2.2.2.1 rfl 4 (by decide) (hts _ tw_87) (fun _ h9 => h9) rfl (by decide +kernel) rfl rfl (Nat.le_of_ble_eq_true rfl) dX_post_38 (fun H locs hM => ?_)
      obtain ⟨κ, hM, hW⟩ : ∃ κ', kW D vCl d κ' (kA d κ0 s0.heap.size) s0.heap H locs ∧ XW cI cL cQ κ0 d κ' (xN xs 5 0) := ⟨_, hM, xw_n5 0 hW⟩
      refine lv_iconst (v := 1) hx hb dX_post_41 (by decide) ?_
      have hg : g_X_post x = (1, xN xs 5 0) := (by rw [← hE, g_X_post_l_s, if_pos c_19] : (1, xN xs 5 0) = g_X_post x).symm
      exact W.zret (v := 1) hx hb hr k_nar1 (fun t ht h9 => kNi.of hM ht (by rw [hg]; exact ⟨rfl, hW⟩)) hM.2.2.2.2 dX_post_42
    · have hlt : k < x.1 5 := Nat.lt_of_not_le (fun q => c_19 (nI_le (by rw [hx9.2]; exact q) (by omega)))
      refine lv_aload_n hx hb dX_post_22 rfl (lv_at hl 1 rfl) ?_
      refine lv_iload_n hx hb dX_post_23 rfl (lv_at hl 0 rfl) ?_
      refine ka_ncallv (W.runV (C := RX) (As := [.int (nI k)]) (rest := []) ⟨hx, hb, hml, hown, hts⟩ (c_X_doLeg l D cI cL cQ d κ xs hW.1 hx9.1 _ (nI k) (vp_in_nI (by omega) (by omega)) (by rw [nI_clamp (by omega)]; exact (hx9.1.2.2.2.2.2.2.2.2 k (by rw [hx9.2]; exact hlt)).1) (by rw [nI_clamp (by omega)]; exact (hx9.1.2.2.2.2.2.2.2.2 k (by rw [hx9.2]; exact hlt)).2)) (cwV 1 hts (k_gV tw_330 tw_332 tw_17 tw_38 tw_333) rfl rfl rfl (by decide +kernel) ⟨Nat.le_of_ble_eq_true rfl, Nat.le_of_ble_eq_true rfl⟩) (kPreV hM.1 hK (q := 18) hW.1.1 rfl) rfl rfl hl.1 rfl (lv_room (Nat.le_of_ble_eq_true rfl)) dX_post_24 ⟨Nat.le_of_ble_eq_true rfl, Nat.le_of_ble_eq_true rfl⟩) hM (fun _ h9 => Or.inr h9) (fun κ1 H locs hW1 hM => ?_)
      obtain ⟨κ, hM, hW⟩ : ∃ κ', kW D vCl d κ' (kA d κ0 s0.heap.size) s0.heap H locs ∧ XW cI cL cQ κ0 d κ' (g_X_doLeg xs (nI k)) := ⟨κ1, hM, hW.trans hW1⟩
      refine lv_iinc (v := nI (k + 1)) (lv' := [(1, .int (nI (k + 1))), (0, .ref (d 18))]) hx hb dX_post_27 hl (k := 0) rfl (nI_add k 1) (by decide) rfl (fun ls hl => ?_)
      refine lv_goto (tgt := 11) hx hb dX_post_30 (by decide) ?_
      exact ih n (k + 1, (g_X_doLeg xs (nI k)), κ) H locs ls (by omega) ⟨by omega, by omega, by rw [← hE, g_X_post_l_s, if_neg c_19], hM, hW, ⟨(XB_doLeg hx9.1).1, (XB_doLeg hx9.1).2.trans hx9.2⟩, lv_sub hl [0, 1] rfl⟩
  · refine lv_iconst (v := 0) hx hb dX_post_7 (by decide) ?_
    have hg : g_X_post x = (0, x) := by rw [g_X_post, if_pos c_4]
    exact W.zret (v := 0) hx hb hr k_nar0 (fun t ht h9 => kNi.of hM ht (by rw [hg]; exact ⟨rfl, hW⟩)) hM.2.2.2.2 dX_post_8

theorem dX_setRate_0 : decode prog_1_method_39_code 0 = .ok (.lconst 0, 1) := by decide +kernel
theorem dX_setRate_1 : decode prog_1_method_39_code 1 = .ok (.lstore 4, 2) := by decide +kernel
theorem dX_setRate_3 : decode prog_1_method_39_code 3 = .ok (.iconst 1, 1) := by decide +kernel
theorem dX_setRate_4 : decode prog_1_method_39_code 4 = .ok (.istore 6, 2) := by decide +kernel
theorem dX_setRate_6 : decode prog_1_method_39_code 6 = .ok (.iload 6, 2) := by decide +kernel
theorem dX_setRate_8 : decode prog_1_method_39_code 8 = .ok (.aload_n 0, 1) := by decide +kernel
theorem dX_setRate_9 : decode prog_1_method_39_code 9 = .ok (.getfield 9, 3) := by decide +kernel
theorem dX_setRate_12 : decode prog_1_method_39_code 12 = .ok (.if_icmp .ge 43, 3) := by decide +kernel
theorem dX_setRate_15 : decode prog_1_method_39_code 15 = .ok (.aload_n 0, 1) := by decide +kernel
theorem dX_setRate_16 : decode prog_1_method_39_code 16 = .ok (.getfield 28, 3) := by decide +kernel
theorem dX_setRate_19 : decode prog_1_method_39_code 19 = .ok (.iload 6, 2) := by decide +kernel
theorem dX_setRate_21 : decode prog_1_method_39_code 21 = .ok (.aload_n 0, 1) := by decide +kernel
theorem dX_setRate_22 : decode prog_1_method_39_code 22 = .ok (.aload_n 1, 1) := by decide +kernel
theorem dX_setRate_23 : decode prog_1_method_39_code 23 = .ok (.iload 6, 2) := by decide +kernel
theorem dX_setRate_25 : decode prog_1_method_39_code 25 = .ok (.aload_n 1, 1) := by decide +kernel
theorem dX_setRate_26 : decode prog_1_method_39_code 26 = .ok (.getfield 103, 3) := by decide +kernel
theorem dX_setRate_29 : decode prog_1_method_39_code 29 = .ok (.iload 6, 2) := by decide +kernel
theorem dX_setRate_31 : decode prog_1_method_39_code 31 = .ok (.laload, 1) := by decide +kernel
theorem dX_setRate_32 : decode prog_1_method_39_code 32 = .ok (.lload_n 2, 1) := by decide +kernel
theorem dX_setRate_33 : decode prog_1_method_39_code 33 = .ok (.invokevirtual 214, 3) := by decide +kernel
theorem dX_setRate_36 : decode prog_1_method_39_code 36 = .ok (.lastore, 1) := by decide +kernel
theorem dX_setRate_37 : decode prog_1_method_39_code 37 = .ok (.lload 4, 2) := by decide +kernel
theorem dX_setRate_39 : decode prog_1_method_39_code 39 = .ok (.aload_n 0, 1) := by decide +kernel
theorem dX_setRate_40 : decode prog_1_method_39_code 40 = .ok (.getfield 28, 3) := by decide +kernel
theorem dX_setRate_43 : decode prog_1_method_39_code 43 = .ok (.iload 6, 2) := by decide +kernel
theorem dX_setRate_45 : decode prog_1_method_39_code 45 = .ok (.laload, 1) := by decide +kernel
theorem dX_setRate_46 : decode prog_1_method_39_code 46 = .ok (.ladd, 1) := by decide +kernel
theorem dX_setRate_47 : decode prog_1_method_39_code 47 = .ok (.lstore 4, 2) := by decide +kernel
theorem dX_setRate_49 : decode prog_1_method_39_code 49 = .ok (.iinc 6 1, 3) := by decide +kernel
theorem dX_setRate_52 : decode prog_1_method_39_code 52 = .ok (.goto (-46), 3) := by decide +kernel
theorem dX_setRate_55 : decode prog_1_method_39_code 55 = .ok (.aload_n 1, 1) := by decide +kernel
theorem dX_setRate_56 : decode prog_1_method_39_code 56 = .ok (.lload_n 2, 1) := by decide +kernel
theorem dX_setRate_57 : decode prog_1_method_39_code 57 = .ok (.putfield 196, 3) := by decide +kernel
theorem dX_setRate_60 : decode prog_1_method_39_code 60 = .ok (.aload_n 0, 1) := by decide +kernel
theorem dX_setRate_61 : decode prog_1_method_39_code 61 = .ok (.lload 4, 2) := by decide +kernel
theorem dX_setRate_63 : decode prog_1_method_39_code 63 = .ok (.putfield 32, 3) := by decide +kernel
theorem dX_setRate_66 : decode prog_1_method_39_code 66 = .ok (.return_, 1) := by decide +kernel
def g_X_setRate_l (x : XS) (i : Nat) (rate : Int64) : Nat → Nat → Int64 → (Nat → Int64) → XS
  | 0, _, _, cr => xL x 0 cr
  | n + 1, p, all, cr => if (nI (x.1 0)) ≤ (nI p) then (xA (xR1 (xL x 0 cr) i rate) all) else (g_X_setRate_l x i rate n (p + 1) (all + ((va_up cr (nI p).toNatClampNeg (f_X_creditWith (xL x 0 cr) i (nI p) ((xP x i) (nI p).toNatClampNeg) rate)) (nI p).toNatClampNeg)) (va_up cr (nI p).toNatClampNeg (f_X_creditWith (xL x 0 cr) i (nI p) ((xP x i) (nI p).toNatClampNeg) rate)))
theorem g_X_setRate_l_s (x : XS) (i : Nat) (rate : Int64) (n : Nat) (p : Nat) (all : Int64) (cr : Nat → Int64) : g_X_setRate_l x i rate (n + 1) p all cr = (if (nI (x.1 0)) ≤ (nI p) then (xA (xR1 (xL x 0 cr) i rate) all) else (g_X_setRate_l x i rate n (p + 1) (all + ((va_up cr (nI p).toNatClampNeg (f_X_creditWith (xL x 0 cr) i (nI p) ((xP x i) (nI p).toNatClampNeg) rate)) (nI p).toNatClampNeg)) (va_up cr (nI p).toNatClampNeg (f_X_creditWith (xL x 0 cr) i (nI p) ((xP x i) (nI p).toNatClampNeg) rate)))) := rfl
def g_X_setRate (x : XS) (i : Nat) (rate : Int64) : XS := g_X_setRate_l x i rate (x.1 0 + 1) 1 0 (x.2.2.2.2.1 0)
set_option maxHeartbeats 4000000 in
set_option maxRecDepth 100000 in
theorem c_X_setRate (l : Launch) (D : va_G) (cI cL cQ : ClassId) (d : Nat → Nat) (κ0 : Nat → Option va_E) (x : XS) (hX : IsX cI cL cQ d κ0 x) (hB : XB x) (sz : Nat) (i : Nat) (hi : i < x.1 2) (rate : Int64) (hsec : ¬ xS x i = 0) : Met l yX_setRate wX_setRate { frames := 3, cells := 0, slots := 0, locals := 80 } (va_Pc [.ref (d 18), .ref (d (32 + 3 * i)), .long (rate)] (kC D vCl (kT cI cL cQ) d κ0 sz)) (kNv D vCl d (kA d κ0 sz) (fun κ' => XW cI cL cQ κ0 d κ' (g_X_setRate x i rate))) 0 0 (kA d κ0 sz) := by
  refine kMet (by decide) (Nat.le_of_ble_eq_true rfl) ?_
  intro p0 e0 s0 m0 below0 meth0 c0 hx hb hr hml hown hlocks hin hts hsz hP hK ls hl
  subst hsz
  have hl : lv_has ls 7 [(0, .ref (d 18)), (1, .ref (d (32 + 3 * i))), (2, .long (rate))] := hl
  have hB9 := hB
  obtain ⟨hb0, hb1, hb2, hb3, hb4, hb5, hb6, hb7, hb8⟩ := hB9
  obtain ⟨κ, hM, hW⟩ : ∃ κ', kW D vCl d κ' (kA d κ0 s0.heap.size) s0.heap s0.heap [] ∧ XW cI cL cQ κ0 d κ' x := ⟨κ0, kW.start hP, ⟨hX, fun _ _ => rfl⟩⟩
  refine lv_lconst (v := 0) hx hb dX_setRate_0 (by decide) ?_
  refine lv_lstore (lv' := [(4, .long (0)), (0, .ref (d 18)), (1, .ref (d (32 + 3 * i))), (2, .long (rate))]) hx hb dX_setRate_1 hl (by decide) rfl (fun ls hl => ?_)
  refine lv_iconst (v := 1) hx hb dX_setRate_3 (by decide) ?_
  refine lv_istore (lv' := [(6, .int (1)), (4, .long (0)), (0, .ref (d 18)), (1, .ref (d (32 + 3 * i))), (2, .long (rate))]) hx hb dX_setRate_4 hl (by decide) rfl (fun ls hl => ?_)
  refine k_recW (σ := Nat × Int64 × (Nat → Int64) × (Nat → Option va_E)) (fun n z9 H locs ls => z9.1 ≤ x.1 0 ∧ x.1 0 < z9.1 + n ∧ g_X_setRate_l x i rate n z9.1 z9.2.1 z9.2.2.1 = g_X_setRate x i rate ∧ kW D vCl d z9.2.2.2 (kA d κ0 s0.heap.size) s0.heap H locs ∧ XW cI cL cQ κ0 d z9.2.2.2 (xL x 0 z9.2.2.1) ∧ (True) ∧ lv_has ls 7 [(6, .int (nI z9.1)), (4, .long z9.2.1), (0, .ref (d 18)), (1, .ref (d (32 + 3 * i))), (2, .long (rate))]) (x.1 0 + 1) (1, 0, x.2.2.2.2.1 0, κ) ⟨by omega, by omega, by rw [g_X_setRate], hM, hW, trivial, lv_sub hl [0, 1, 2, 3, 4] rfl⟩ ?_
  intro n z9 H locs ls hI ih
  obtain ⟨p, all, cr, κ⟩ := z9
  obtain ⟨hk, hn, hE, hM, hW, hx9, hl⟩ := hI
  dsimp only at hk hn hE hM hW hx9 hl
  obtain ⟨n, rfl⟩ : ∃ q, n = q + 1 := ⟨n - 1, by omega⟩
  refine lv_iload hx hb dX_setRate_6 (lv_at hl 0 rfl) ?_
  refine lv_aload_n hx hb dX_setRate_8 rfl (lv_at hl 2 rfl) ?_
  refine ka_get (v := .int (nI (x.1 0))) (ci := 3) (C := RX) (T := TX) (N := 10) hx hb hts inX hown hK hM.1 (q := 18) hW.1.1 rfl 0 (by decide) (hts _ tw_99) (fun _ h9 => h9) rfl dX_setRate_9 ?_
  refine lv_icmp_ge (tgt := 55) hx hb dX_setRate_12 (by decide) (fun c_12 => ?_) (fun c_12 => ?_)
  · refine lv_aload_n hx hb dX_setRate_55 rfl (lv_at hl 3 rfl) ?_
    refine lv_lload_n hx hb dX_setRate_56 rfl (lv_at hl 4 rfl) ?_
    refine ka_put (D := D) (ci := 0) (v := .long (rate)) (ty := .long) (C := RA) (T := TA) (N := 4) hx hb hts inA tA tA_ok nA hown hK hM (q := (32 + 3 * i)) (hW.1.2.2.2.2.2.2.2.2.2.2.2.2.2.2.1 i hi).1 rfl 3 (by decide) (hts _ tw_150) (fun _ h9 => h9) rfl (by decide +kernel) rfl rfl (Nat.le_of_ble_eq_true rfl) dX_setRate_57 (fun H locs hM => ?_)
    obtain ⟨κ, hM, hW⟩ : ∃ κ', kW D vCl d κ' (kA d κ0 s0.heap.size) s0.heap H locs ∧ XW cI cL cQ κ0 d κ' (xR1 (xL x 0 cr) i rate) := ⟨_, hM, xw_rate (x := xL x 0 cr) hi rate hW⟩
    refine lv_aload_n hx hb dX_setRate_60 rfl (lv_at hl 2 rfl) ?_
    refine lv_lload hx hb dX_setRate_61 (lv_at hl 1 rfl) ?_
    refine ka_put (D := D) (ci := 3) (v := .long (all)) (ty := .long) (C := RX) (T := TX) (N := 10) hx hb hts inX tX tX_ok nX hown hK hM (q := 18) hW.1.1 rfl 6 (by decide) (hts _ tw_105) (fun _ h9 => h9) rfl (by decide +kernel) rfl rfl (Nat.le_of_ble_eq_true rfl) dX_setRate_63 (fun H locs hM => ?_)
    obtain ⟨κ, hM, hW⟩ : ∃ κ', kW D vCl d κ' (kA d κ0 s0.heap.size) s0.heap H locs ∧ XW cI cL cQ κ0 d κ' (xA (xR1 (xL x 0 cr) i rate) all) := ⟨_, hM, xw_allCredits all hW⟩
    have hg : g_X_setRate x i rate = xA (xR1 (xL x 0 cr) i rate) all := (by rw [← hE, g_X_setRate_l_s, if_pos c_12] : xA (xR1 (xL x 0 cr) i rate) all = g_X_setRate x i rate).symm
    exact W.vret hx hb hr (fun t ht h9 => kNv.of hM ht (by rw [hg]; exact hW)) hM.2.2.2.2 dX_setRate_66
  · have hlt : p < x.1 0 := Nat.lt_of_not_le (fun q => c_12 (nI_le q (by omega)))
    refine lv_aload_n hx hb dX_setRate_15 rfl (lv_at hl 2 rfl) ?_
    refine ka_get (v := .ref (d 20)) (ci := 3) (C := RX) (T := TX) (N := 10) hx hb hts inX hown hK hM.1 (q := 18) hW.1.1 rfl 5 (by decide) (hts _ tw_104) (fun _ h9 => h9) rfl dX_setRate_16 ?_
    refine lv_iload hx hb dX_setRate_19 (lv_at hl 0 rfl) ?_
    refine lv_aload_n hx hb dX_setRate_21 rfl (lv_at hl 2 rfl) ?_
    refine lv_aload_n hx hb dX_setRate_22 rfl (lv_at hl 3 rfl) ?_
    refine lv_iload hx hb dX_setRate_23 (lv_at hl 0 rfl) ?_
    refine lv_aload_n hx hb dX_setRate_25 rfl (lv_at hl 3 rfl) ?_
    refine ka_get (v := .ref (d (34 + 3 * i))) (ci := 0) (C := RA) (T := TA) (N := 4) hx hb hts inA hown hK hM.1 (q := (32 + 3 * i)) (hW.1.2.2.2.2.2.2.2.2.2.2.2.2.2.2.1 i hi).1 rfl 2 (by decide) (hts _ tw_148) (fun _ h9 => h9) rfl dX_setRate_26 ?_
    refine lv_iload hx hb dX_setRate_29 (lv_at hl 0 rfl) ?_
    refine ka_lald (f := xP x i) hx hb hK hM.1 1 (q := (34 + 3 * i)) (hW.1.2.2.2.2.2.2.2.2.2.2.2.2.2.2.1 i hi).2.2 rfl (show vp_in (nI p) (xPl x i) from (by unfold xPl; rw [if_neg hsec]; exact (vp_in_nI (by omega) (by omega)))) dX_setRate_31 ?_
    refine lv_lload_n hx hb dX_setRate_32 rfl (lv_at hl 4 rfl) ?_
    refine vp_callSl (W.runV (C := RX) (As := [.ref (d (32 + 3 * i)), .int (nI p), .long ((xP x i) (nI p).toNatClampNeg), .long (rate)]) (rest := [.int (nI p), .ref (d 20)]) ⟨hx, hb, hml, hown, hts⟩ (c_X_creditWith l D cI cL cQ d κ (xL x 0 cr) hW.1 hB _ i hi (nI p) ((xP x i) (nI p).toNatClampNeg) rate (show vp_in (nI p) (x.1 0) from vp_in_nI (by omega) (by omega)) hsec) (cwV 4 hts (k_gV tw_187 tw_189 tw_4 tw_38 tw_190) rfl rfl rfl (by decide +kernel) ⟨Nat.le_of_ble_eq_true rfl, Nat.le_of_ble_eq_true rfl⟩) (kPreV hM.1 hK (q := 18) hW.1.1 rfl) rfl rfl hl.1 rfl (lv_room (Nat.le_of_ble_eq_true rfl)) dX_setRate_33 ⟨Nat.le_of_ble_eq_true rfl, Nat.le_of_ble_eq_true rfl⟩) (fun r_33 e_33 => ?_)
    subst e_33
    refine ka_last (f := cr) hx hb hK hM 1 (q := 20) hW.1.2.2.1 rfl (i := nI p) (x := f_X_creditWith (xL x 0 cr) i (nI p) ((xP x i) (nI p).toNatClampNeg) rate) (show vp_in (nI p) (x.1 0) from vp_in_nI (by omega) (by omega)) dX_setRate_36 (fun H locs hM => ?_)
    obtain ⟨κ, hM, hW⟩ : ∃ κ', kW D vCl d κ' (kA d κ0 s0.heap.size) s0.heap H locs ∧ XW cI cL cQ κ0 d κ' (xL x 0 (va_up cr (nI p).toNatClampNeg (f_X_creditWith (xL x 0 cr) i (nI p) ((xP x i) (nI p).toNatClampNeg) rate))) := ⟨_, hM, (by have h9 := xw_l0 (va_up cr (nI p).toNatClampNeg (f_X_creditWith (xL x 0 cr) i (nI p) ((xP x i) (nI p).toNatClampNeg) rate)) hW; rw [xL_xL] at h9; exact h9)⟩
    refine lv_lload hx hb dX_setRate_37 (lv_at hl 1 rfl) ?_
    refine lv_aload_n hx hb dX_setRate_39 rfl (lv_at hl 2 rfl) ?_
    refine ka_get (v := .ref (d 20)) (ci := 3) (C := RX) (T := TX) (N := 10) hx hb hts inX hown hK hM.1 (q := 18) hW.1.1 rfl 5 (by decide) (hts _ tw_104) (fun _ h9 => h9) rfl dX_setRate_40 ?_
    refine lv_iload hx hb dX_setRate_43 (lv_at hl 0 rfl) ?_
    refine ka_lald (f := va_up cr (nI p).toNatClampNeg (f_X_creditWith (xL x 0 cr) i (nI p) ((xP x i) (nI p).toNatClampNeg) rate)) hx hb hK hM.1 1 (q := 20) hW.1.2.2.1 rfl (show vp_in (nI p) (x.1 0) from vp_in_nI (by omega) (by omega)) dX_setRate_45 ?_
    refine lv_ladd hx hb dX_setRate_46 ?_
    refine lv_lstore (lv' := [(4, .long (all + ((va_up cr (nI p).toNatClampNeg (f_X_creditWith (xL x 0 cr) i (nI p) ((xP x i) (nI p).toNatClampNeg) rate)) (nI p).toNatClampNeg))), (6, .int (nI p)), (0, .ref (d 18)), (1, .ref (d (32 + 3 * i))), (2, .long (rate))]) hx hb dX_setRate_47 hl (by decide) rfl (fun ls hl => ?_)
    refine lv_iinc (v := nI (p + 1)) (lv' := [(6, .int (nI (p + 1))), (4, .long (all + ((va_up cr (nI p).toNatClampNeg (f_X_creditWith (xL x 0 cr) i (nI p) ((xP x i) (nI p).toNatClampNeg) rate)) (nI p).toNatClampNeg))), (0, .ref (d 18)), (1, .ref (d (32 + 3 * i))), (2, .long (rate))]) hx hb dX_setRate_49 hl (k := 1) rfl (nI_add p 1) (by decide) rfl (fun ls hl => ?_)
    refine lv_goto (tgt := 6) hx hb dX_setRate_52 (by decide) ?_
    exact ih n (p + 1, all + ((va_up cr (nI p).toNatClampNeg (f_X_creditWith (xL x 0 cr) i (nI p) ((xP x i) (nI p).toNatClampNeg) rate)) (nI p).toNatClampNeg), va_up cr (nI p).toNatClampNeg (f_X_creditWith (xL x 0 cr) i (nI p) ((xP x i) (nI p).toNatClampNeg) rate), κ) H locs ls (by omega) ⟨by omega, by omega, by rw [← hE, g_X_setRate_l_s, if_neg c_12], hM, hW, trivial, lv_sub hl [0, 1, 2, 3, 4] rfl⟩

theorem dX_price_0 : decode prog_1_method_4_code 0 = .ok (.aload_n 0, 1) := by decide +kernel
theorem dX_price_1 : decode prog_1_method_4_code 1 = .ok (.iload_n 1, 1) := by decide +kernel
theorem dX_price_2 : decode prog_1_method_4_code 2 = .ok (.invokevirtual 67, 3) := by decide +kernel
theorem dX_price_5 : decode prog_1_method_4_code 5 = .ok (.astore 5, 2) := by decide +kernel
theorem dX_price_7 : decode prog_1_method_4_code 7 = .ok (.aload 5, 2) := by decide +kernel
theorem dX_price_9 : decode prog_1_method_4_code 9 = .ok (.ifnull 12, 3) := by decide +kernel
theorem dX_price_12 : decode prog_1_method_4_code 12 = .ok (.lload_n 2, 1) := by decide +kernel
theorem dX_price_13 : decode prog_1_method_4_code 13 = .ok (.iload 4, 2) := by decide +kernel
theorem dX_price_15 : decode prog_1_method_4_code 15 = .ok (.invokestatic 59, 3) := by decide +kernel
theorem dX_price_18 : decode prog_1_method_4_code 18 = .ok (.ifCond .ne 6, 3) := by decide +kernel
theorem dX_price_21 : decode prog_1_method_4_code 21 = .ok (.bipush 8, 2) := by decide +kernel
theorem dX_price_23 : decode prog_1_method_4_code 23 = .ok (.ireturn, 1) := by decide +kernel
theorem dX_price_24 : decode prog_1_method_4_code 24 = .ok (.lload_n 2, 1) := by decide +kernel
theorem dX_price_25 : decode prog_1_method_4_code 25 = .ok (.iload 4, 2) := by decide +kernel
theorem dX_price_27 : decode prog_1_method_4_code 27 = .ok (.invokestatic 63, 3) := by decide +kernel
theorem dX_price_30 : decode prog_1_method_4_code 30 = .ok (.lstore 6, 2) := by decide +kernel
theorem dX_price_32 : decode prog_1_method_4_code 32 = .ok (.aload_n 0, 1) := by decide +kernel
theorem dX_price_33 : decode prog_1_method_4_code 33 = .ok (.aload 5, 2) := by decide +kernel
theorem dX_price_35 : decode prog_1_method_4_code 35 = .ok (.lload 6, 2) := by decide +kernel
theorem dX_price_37 : decode prog_1_method_4_code 37 = .ok (.invokevirtual 71, 3) := by decide +kernel
theorem dX_price_40 : decode prog_1_method_4_code 40 = .ok (.istore 8, 2) := by decide +kernel
theorem dX_price_42 : decode prog_1_method_4_code 42 = .ok (.iload 8, 2) := by decide +kernel
theorem dX_price_44 : decode prog_1_method_4_code 44 = .ok (.ifCond .ne 11, 3) := by decide +kernel
theorem dX_price_47 : decode prog_1_method_4_code 47 = .ok (.aload_n 0, 1) := by decide +kernel
theorem dX_price_48 : decode prog_1_method_4_code 48 = .ok (.aload 5, 2) := by decide +kernel
theorem dX_price_50 : decode prog_1_method_4_code 50 = .ok (.lload 6, 2) := by decide +kernel
theorem dX_price_52 : decode prog_1_method_4_code 52 = .ok (.invokevirtual 75, 3) := by decide +kernel
theorem dX_price_55 : decode prog_1_method_4_code 55 = .ok (.iload 8, 2) := by decide +kernel
theorem dX_price_57 : decode prog_1_method_4_code 57 = .ok (.ireturn, 1) := by decide +kernel
def g_X_price (x : XS) (a : Int32) (price : Int64) (haircut : Int32) : Int32 × XS := if xSec x a then (if (f_X_isPriced price haircut) = 0 then (8, x) else (if (f_X_faultOfRate x ((a).toNatClampNeg) (f_X_rateOf price haircut)) = 0 then (f_X_faultOfRate x ((a).toNatClampNeg) (f_X_rateOf price haircut), (g_X_setRate x ((a).toNatClampNeg) (f_X_rateOf price haircut))) else (f_X_faultOfRate x ((a).toNatClampNeg) (f_X_rateOf price haircut), x))) else (8, x)
set_option maxHeartbeats 4000000 in
set_option maxRecDepth 100000 in
theorem c_X_price (l : Launch) (D : va_G) (cI cL cQ : ClassId) (d : Nat → Nat) (κ0 : Nat → Option va_E) (x : XS) (hX : IsX cI cL cQ d κ0 x) (hB : XB x) (sz : Nat) (a : Int32) (price : Int64) (haircut : Int32)  : Met l yX_price wX_price { frames := 4, cells := 0, slots := 0, locals := 108 } (va_Pc [.ref (d 18), .int (a), .long (price), .int (haircut)] (kC D vCl (kT cI cL cQ) d κ0 sz)) (kNi D vCl d (kA d κ0 sz) (fun r κ' => r = (g_X_price x a price haircut).1 ∧ XW cI cL cQ κ0 d κ' (g_X_price x a price haircut).2)) 0 0 (kA d κ0 sz) := by
  refine kMet (by decide) (Nat.le_of_ble_eq_true rfl) ?_
  intro p0 e0 s0 m0 below0 meth0 c0 hx hb hr hml hown hlocks hin hts hsz hP hK ls hl
  subst hsz
  have hl : lv_has ls 9 [(0, .ref (d 18)), (1, .int (a)), (2, .long (price)), (4, .int (haircut))] := hl
  have hB9 := hB
  obtain ⟨hb0, hb1, hb2, hb3, hb4, hb5, hb6, hb7, hb8⟩ := hB9
  obtain ⟨κ, hM, hW⟩ : ∃ κ', kW D vCl d κ' (kA d κ0 s0.heap.size) s0.heap s0.heap [] ∧ XW cI cL cQ κ0 d κ' x := ⟨κ0, kW.start hP, ⟨hX, fun _ _ => rfl⟩⟩
  refine lv_aload_n hx hb dX_price_0 rfl (lv_at hl 0 rfl) ?_
  refine lv_iload_n hx hb dX_price_1 rfl (lv_at hl 1 rfl) ?_
  refine va_csq (W.runV (C := RX) (As := [.int (a)]) (rest := []) ⟨hx, hb, hml, hown, hts⟩ (c_X_securityAt l D cI cL cQ d κ x hW.1 hB _ a) (cwV 1 hts (k_gV tw_175 tw_177 tw_1 tw_38 tw_178) rfl rfl rfl (by decide +kernel) ⟨Nat.le_of_ble_eq_true rfl, Nat.le_of_ble_eq_true rfl⟩) (kPreV hM.1 hK (q := 18) hW.1.1 rfl) rfl rfl hl.1 rfl (lv_room (Nat.le_of_ble_eq_true rfl)) dX_price_2 ⟨Nat.le_of_ble_eq_true rfl, Nat.le_of_ble_eq_true rfl⟩) (fun r_2 e_2 => ?_)
  subst e_2
  by_cases hA_2 : xSec x a
  · rw [if_pos hA_2]
    have hi_2 : (a).toNatClampNeg < x.1 2 := (xIs_in hB hA_2.1).2
    refine lv_astore (lv' := [(5, .ref (d (32 + 3 * (a).toNatClampNeg))), (0, .ref (d 18)), (1, .int (a)), (2, .long (price)), (4, .int (haircut))]) hx hb dX_price_5 hl (by decide) rfl (fun ls hl => ?_)
    refine lv_aload hx hb dX_price_7 (lv_at hl 0 rfl) ?_
    refine lv_ifnull hx hb dX_price_9 ?_
    refine lv_lload_n hx hb dX_price_12 rfl (lv_at hl 3 rfl) ?_
    refine lv_iload hx hb dX_price_13 (lv_at hl 4 rfl) ?_
    refine vp_callSi (W.runS (As := [.long (price), .int (haircut)]) (rest := []) ⟨hx, hb, hml, hown, hts⟩ (c_X_isPriced l D cI cL cQ d κ _ price haircut) (cwS 2 hts (k_gS tw_164 tw_165 tw_38 tw_166) rfl rfl rfl (by decide +kernel) ⟨Nat.le_of_ble_eq_true rfl, Nat.le_of_ble_eq_true rfl⟩) (kPreS hM.1 hK) rfl rfl hl.1 rfl (lv_room (Nat.le_of_ble_eq_true rfl)) dX_price_15 ⟨Nat.le_of_ble_eq_true rfl, Nat.le_of_ble_eq_true rfl⟩) (fun r_15 e_15 => ?_)
    subst e_15
    refine lv_if_ne (tgt := 24) hx hb dX_price_18 (by decide) (fun c_18 => ?_) (fun c_18 => ?_)
    · refine lv_lload_n hx hb dX_price_24 rfl (lv_at hl 3 rfl) ?_
      refine lv_iload hx hb dX_price_25 (lv_at hl 4 rfl) ?_
      refine vp_callSl (W.runS (As := [.long (price), .int (haircut)]) (rest := []) ⟨hx, hb, hml, hown, hts⟩ (c_X_rateOf l D cI cL cQ d κ _ price haircut) (cwS 2 hts (k_gS tw_168 tw_169 tw_38 tw_170) rfl rfl rfl (by decide +kernel) ⟨Nat.le_of_ble_eq_true rfl, Nat.le_of_ble_eq_true rfl⟩) (kPreS hM.1 hK) rfl rfl hl.1 rfl (lv_room (Nat.le_of_ble_eq_true rfl)) dX_price_27 ⟨Nat.le_of_ble_eq_true rfl, Nat.le_of_ble_eq_true rfl⟩) (fun r_27 e_27 => ?_)
      subst e_27
      refine lv_lstore (lv' := [(6, .long (f_X_rateOf price haircut)), (5, .ref (d (32 + 3 * (a).toNatClampNeg))), (0, .ref (d 18)), (1, .int (a)), (2, .long (price)), (4, .int (haircut))]) hx hb dX_price_30 hl (by decide) rfl (fun ls hl => ?_)
      refine lv_aload_n hx hb dX_price_32 rfl (lv_at hl 2 rfl) ?_
      refine lv_aload hx hb dX_price_33 (lv_at hl 1 rfl) ?_
      refine lv_lload hx hb dX_price_35 (lv_at hl 0 rfl) ?_
      refine vp_callSi (W.runV (C := RX) (As := [.ref (d (32 + 3 * (a).toNatClampNeg)), .long (f_X_rateOf price haircut)]) (rest := []) ⟨hx, hb, hml, hown, hts⟩ (c_X_faultOfRate l D cI cL cQ d κ x hW.1 hB _ ((a).toNatClampNeg) hi_2 (f_X_rateOf price haircut) hA_2.2) (cwV 2 hts (k_gV tw_183 tw_185 tw_3 tw_38 tw_186) rfl rfl rfl (by decide +kernel) ⟨Nat.le_of_ble_eq_true rfl, Nat.le_of_ble_eq_true rfl⟩) (kPreV hM.1 hK (q := 18) hW.1.1 rfl) rfl rfl hl.1 rfl (lv_room (Nat.le_of_ble_eq_true rfl)) dX_price_37 ⟨Nat.le_of_ble_eq_true rfl, Nat.le_of_ble_eq_true rfl⟩) (fun r_37 e_37 => ?_)
      subst e_37
      refine lv_istore (lv' := [(8, .int (f_X_faultOfRate x ((a).toNatClampNeg) (f_X_rateOf price haircut))), (6, .long (f_X_rateOf price haircut)), (5, .ref (d (32 + 3 * (a).toNatClampNeg))), (0, .ref (d 18)), (1, .int (a)), (2, .long (price)), (4, .int (haircut))]) hx hb dX_price_40 hl (by decide) rfl (fun ls hl => ?_)
      refine lv_iload hx hb dX_price_42 (lv_at hl 0 rfl) ?_
      refine lv_if_ne (tgt := 55) hx hb dX_price_44 (by decide) (fun c_44 => ?_) (fun c_44 => ?_)
      · refine lv_iload hx hb dX_price_55 (lv_at hl 0 rfl) ?_
        have hg : g_X_price x a price haircut = (f_X_faultOfRate x ((a).toNatClampNeg) (f_X_rateOf price haircut), x) := by rw [g_X_price, if_pos hA_2, if_neg c_18, if_neg c_44]
        exact W.iret (v := f_X_faultOfRate x ((a).toNatClampNeg) (f_X_rateOf price haircut)) hx hb hr (fun t ht h9 => kNi.of hM ht (by rw [hg]; exact ⟨rfl, hW⟩)) hM.2.2.2.2 dX_price_57
      · refine lv_aload_n hx hb dX_price_47 rfl (lv_at hl 3 rfl) ?_
        refine lv_aload hx hb dX_price_48 (lv_at hl 2 rfl) ?_
        refine lv_lload hx hb dX_price_50 (lv_at hl 1 rfl) ?_
        refine ka_ncallv (W.runV (C := RX) (As := [.ref (d (32 + 3 * (a).toNatClampNeg)), .long (f_X_rateOf price haircut)]) (rest := []) ⟨hx, hb, hml, hown, hts⟩ (c_X_setRate l D cI cL cQ d κ x hW.1 hB _ ((a).toNatClampNeg) hi_2 (f_X_rateOf price haircut) hA_2.2) (cwV 2 hts (k_gV tw_204 tw_206 tw_6 tw_38 tw_207) rfl rfl rfl (by decide +kernel) ⟨Nat.le_of_ble_eq_true rfl, Nat.le_of_ble_eq_true rfl⟩) (kPreV hM.1 hK (q := 18) hW.1.1 rfl) rfl rfl hl.1 rfl (lv_room (Nat.le_of_ble_eq_true rfl)) dX_price_52 ⟨Nat.le_of_ble_eq_true rfl, Nat.le_of_ble_eq_true rfl⟩) hM (fun _ h9 => Or.inr h9) (fun κ1 H locs hW1 hM => ?_)
        obtain ⟨κ, hM, hW⟩ : ∃ κ', kW D vCl d κ' (kA d κ0 s0.heap.size) s0.heap H locs ∧ XW cI cL cQ κ0 d κ' (g_X_setRate x ((a).toNatClampNeg) (f_X_rateOf price haircut)) := ⟨κ1, hM, hW.trans hW1⟩
        refine lv_iload hx hb dX_price_55 (lv_at hl 0 rfl) ?_
        have hg : g_X_price x a price haircut = (f_X_faultOfRate x ((a).toNatClampNeg) (f_X_rateOf price haircut), (g_X_setRate x ((a).toNatClampNeg) (f_X_rateOf price haircut))) := by rw [g_X_price, if_pos hA_2, if_neg c_18, if_pos c_44]
        exact W.iret (v := f_X_faultOfRate x ((a).toNatClampNeg) (f_X_rateOf price haircut)) hx hb hr (fun t ht h9 => kNi.of hM ht (by rw [hg]; exact ⟨rfl, hW⟩)) hM.2.2.2.2 dX_price_57
    · refine lv_bipush (v := 8) hx hb dX_price_21 (by decide) ?_
      have hg : g_X_price x a price haircut = (8, x) := by rw [g_X_price, if_pos hA_2, if_pos c_18]
      exact W.iret (v := 8) hx hb hr (fun t ht h9 => kNi.of hM ht (by rw [hg]; exact ⟨rfl, hW⟩)) hM.2.2.2.2 dX_price_23
  · rw [if_neg hA_2]
    refine lv_astoreN (lv' := [(5, .null), (0, .ref (d 18)), (1, .int (a)), (2, .long (price)), (4, .int (haircut))]) hx hb dX_price_5 hl (by decide) rfl (fun ls hl => ?_)
    refine lv_aloadN hx hb dX_price_7 (lv_at hl 0 rfl) ?_
    refine lv_ifnullN (tgt := 21) hx hb dX_price_9 (by decide) ?_
    refine lv_bipush (v := 8) hx hb dX_price_21 (by decide) ?_
    have hg : g_X_price x a price haircut = (8, x) := by rw [g_X_price, if_neg hA_2]
    exact W.iret (v := 8) hx hb hr (fun t ht h9 => kNi.of hM ht (by rw [hg]; exact ⟨rfl, hW⟩)) hM.2.2.2.2 dX_price_23
