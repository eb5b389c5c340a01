theorem MB_move {m : MS} {p a : Int32} {b : Int64} (hB : MB m) (h : m.1 3 < 1040) : MB (g_M_move m p a b) := by
  obtain ⟨hb0, hb1, hb2, hb3, hb4, hb5, hb6, hb7, hb8, hb9, hb10⟩ := hB
  exact ⟨hb0, hb1, hb2, hb3, hb4, (by show m.1 3 + 1 ≤ 1040; omega), hb6, hb7, hb8, hb9, hb10⟩
theorem MB_pledge {m : MS} {p a : Int32} {b : Int64} (hB : MB m) (h : m.1 5 < 520) : MB (g_M_pledgeMore m p a b) := by
  obtain ⟨hb0, hb1, hb2, hb3, hb4, hb5, hb6, hb7, hb8, hb9, hb10⟩ := hB
  exact ⟨hb0, hb1, hb2, hb3, hb4, hb5, hb6, (by show m.1 5 + 1 ≤ 520; omega), hb8, hb9, hb10⟩
theorem asset_64 {m : MS} (hB : MB m) {a : Int32} (h : ¬ f_M_isAsset m a = 0) : vp_in a 64 := by
  unfold f_M_isAsset at h
  by_cases c1 : a < 0
  · rw [if_pos c1] at h; exact absurd rfl h
  · rw [if_neg c1] at h
    by_cases c2 : nI (m.1 2) ≤ a
    · rw [if_pos c2] at h; exact absurd rfl h
    · obtain ⟨hb0, hb1, hb2, hb3, hb4, -⟩ := hB
      obtain ⟨j, hj, rfl⟩ := nI_of c1
      have h3 : j < m.1 2 := Nat.lt_of_not_le (fun q => c2 (nI_le q hj))
      exact vp_in_nI (by omega) (by decide)
theorem limitAt_pos {m : MS} {p q : Int32} (hB : MB m) (h : 0 ≤ f_M_limitAt m p q) : 1 ≤ m.1 6 := by
  rcases limitAt_in (p := p) (q := q) hB with e | ⟨j, hj, e⟩
  · rw [e] at h; exact absurd h (by decide)
  · omega

theorem dM_give_0 : decode prog_6_method_22_code 0 = .ok (.aload_n 0, 1) := by decide +kernel
theorem dM_give_1 : decode prog_6_method_22_code 1 = .ok (.iload_n 1, 1) := by decide +kernel
theorem dM_give_2 : decode prog_6_method_22_code 2 = .ok (.invokevirtual 138, 3) := by decide +kernel
theorem dM_give_5 : decode prog_6_method_22_code 5 = .ok (.ifCond .eq 18, 3) := by decide +kernel
theorem dM_give_8 : decode prog_6_method_22_code 8 = .ok (.aload_n 0, 1) := by decide +kernel
theorem dM_give_9 : decode prog_6_method_22_code 9 = .ok (.iload_n 2, 1) := by decide +kernel
theorem dM_give_10 : decode prog_6_method_22_code 10 = .ok (.invokevirtual 128, 3) := by decide +kernel
theorem dM_give_13 : decode prog_6_method_22_code 13 = .ok (.ifCond .eq 10, 3) := by decide +kernel
theorem dM_give_16 : decode prog_6_method_22_code 16 = .ok (.lload_n 3, 1) := by decide +kernel
theorem dM_give_17 : decode prog_6_method_22_code 17 = .ok (.invokestatic 141, 3) := by decide +kernel
theorem dM_give_20 : decode prog_6_method_22_code 20 = .ok (.ifCond .ne 6, 3) := by decide +kernel
theorem dM_give_23 : decode prog_6_method_22_code 23 = .ok (.bipush 8, 2) := by decide +kernel
theorem dM_give_25 : decode prog_6_method_22_code 25 = .ok (.ireturn, 1) := by decide +kernel
theorem dM_give_26 : decode prog_6_method_22_code 26 = .ok (.aload_n 0, 1) := by decide +kernel
theorem dM_give_27 : decode prog_6_method_22_code 27 = .ok (.iconst 0, 1) := by decide +kernel
theorem dM_give_28 : decode prog_6_method_22_code 28 = .ok (.iload_n 2, 1) := by decide +kernel
theorem dM_give_29 : decode prog_6_method_22_code 29 = .ok (.invokevirtual 102, 3) := by decide +kernel
theorem dM_give_32 : decode prog_6_method_22_code 32 = .ok (.lload_n 3, 1) := by decide +kernel
theorem dM_give_33 : decode prog_6_method_22_code 33 = .ok (.lsub, 1) := by decide +kernel
theorem dM_give_34 : decode prog_6_method_22_code 34 = .ok (.ldc2_w 145, 3) := by decide +kernel
theorem dM_give_37 : decode prog_6_method_22_code 37 = .ok (.lcmp, 1) := by decide +kernel
theorem dM_give_38 : decode prog_6_method_22_code 38 = .ok (.ifCond .ge 6, 3) := by decide +kernel
theorem dM_give_41 : decode prog_6_method_22_code 41 = .ok (.bipush 10, 2) := by decide +kernel
theorem dM_give_43 : decode prog_6_method_22_code 43 = .ok (.ireturn, 1) := by decide +kernel
theorem dM_give_44 : decode prog_6_method_22_code 44 = .ok (.aload_n 0, 1) := by decide +kernel
theorem dM_give_45 : decode prog_6_method_22_code 45 = .ok (.iconst 0, 1) := by decide +kernel
theorem dM_give_46 : decode prog_6_method_22_code 46 = .ok (.iload_n 2, 1) := by decide +kernel
theorem dM_give_47 : decode prog_6_method_22_code 47 = .ok (.lload_n 3, 1) := by decide +kernel
theorem dM_give_48 : decode prog_6_method_22_code 48 = .ok (.lneg, 1) := by decide +kernel
theorem dM_give_49 : decode prog_6_method_22_code 49 = .ok (.invokevirtual 147, 3) := by decide +kernel
theorem dM_give_52 : decode prog_6_method_22_code 52 = .ok (.aload_n 0, 1) := by decide +kernel
theorem dM_give_53 : decode prog_6_method_22_code 53 = .ok (.iload_n 1, 1) := by decide +kernel
theorem dM_give_54 : decode prog_6_method_22_code 54 = .ok (.iload_n 2, 1) := by decide +kernel
theorem dM_give_55 : decode prog_6_method_22_code 55 = .ok (.lload_n 3, 1) := by decide +kernel
theorem dM_give_56 : decode prog_6_method_22_code 56 = .ok (.invokevirtual 147, 3) := by decide +kernel
theorem dM_give_59 : decode prog_6_method_22_code 59 = .ok (.iconst 0, 1) := by decide +kernel
theorem dM_give_60 : decode prog_6_method_22_code 60 = .ok (.ireturn, 1) := by decide +kernel
def g_M_give (m : MS) (p : Int32) (a : Int32) (v : Int64) : Int32 × MS := if (f_M_isParticipant m p) = 0 then (8, m) else (if (f_M_isAsset m a) = 0 then (8, m) else (if (f_M_isAmount v) = 0 then (8, m) else (if ((f_M_position m 0 a) - v) < (-4000000000000000000) then (10, m) else (0, g_M_move (g_M_move m 0 a (-v)) p a v))))
set_option maxHeartbeats 4000000 in
set_option maxRecDepth 100000 in
theorem c_M_give (l : Launch) (D : va_G) (cI cL cQ : ClassId) (d : Nat → Nat) (κ0 : Nat → Option va_E) (m : MS) (hm : IsM cI cL d κ0 m) (hB : MB m) (sz : Nat) (p : Int32) (a : Int32) (v : Int64) (hmv : m.1 3 + 1 < 1040) : Met l yM_give wM_give { frames := 1, cells := 0, slots := 0, locals := 25 } (va_Pc [.ref (d 0), .int (p), .int (a), .long (v)] (kC D vCl (kT cI cL cQ) d κ0 sz)) (kNi D vCl d (kA d κ0 sz) (fun r κ' => r = (g_M_give m p a v).1 ∧ MW cI cL κ0 d κ' (g_M_give m p a v).2)) 0 0 (kA d κ0 sz) := by
  refine kMet (by decide) (Nat.le_of_ble_eq_true rfl) ?_
  intro p0 e0 s0 m0 below0 meth0 c0 hx hb hr hml hown hlocks hin hts hsz hP hK ls hl
  subst hsz
  have hl : lv_has ls 5 [(0, .ref (d 0)), (1, .int (p)), (2, .int (a)), (3, .long (v))] := hl
  have hB9 := hB
  obtain ⟨hb0, hb1, hb2, hb3, hb4, hb5, hb6, hb7, hb8, hb9, hb10⟩ := hB9
  obtain ⟨κ, hM, hW⟩ : ∃ κ', kW D vCl d κ' (kA d κ0 s0.heap.size) s0.heap s0.heap [] ∧ MW cI cL κ0 d κ' m := ⟨κ0, kW.start hP, ⟨hm, fun _ _ => rfl⟩⟩
  refine lv_aload_n hx hb dM_give_0 rfl (lv_at hl 0 rfl) ?_
  refine lv_iload_n hx hb dM_give_1 rfl (lv_at hl 1 rfl) ?_
  refine vp_callSi (W.runV (C := RM) (As := [.int (p)]) (rest := []) ⟨hx, hb, hml, hown, hts⟩ (c_M_isParticipant l D cI cL cQ d κ m hW.1 hB _ p) (cwV 1 hts (k_gV tw_529 tw_531 tw_31 tw_41 tw_532) rfl rfl rfl (by decide +kernel) ⟨Nat.le_of_ble_eq_true rfl, Nat.le_of_ble_eq_true rfl⟩) (kPreV hM.1 hK (q := 0) hW.1.1 rfl) rfl rfl hl.1 rfl (lv_room (Nat.le_of_ble_eq_true rfl)) dM_give_2 ⟨Nat.le_of_ble_eq_true rfl, Nat.le_of_ble_eq_true rfl⟩) (fun r_2 e_2 => ?_)
  subst e_2
  refine lv_if_eq (tgt := 23) hx hb dM_give_5 (by decide) (fun c_5 => ?_) (fun c_5 => ?_)
  · refine lv_bipush (v := 8) hx hb dM_give_23 (by decide) ?_
    have hg : g_M_give m p a v = (8, m) := by rw [g_M_give, if_pos c_5]
    exact W.iret (v := 8) hx hb hr (fun t ht h9 => kNi.of hM ht (by rw [hg]; exact ⟨rfl, hW⟩)) hM.2.2.2.2 dM_give_25
  · refine lv_aload_n hx hb dM_give_8 rfl (lv_at hl 0 rfl) ?_
    refine lv_iload_n hx hb dM_give_9 rfl (lv_at hl 2 rfl) ?_
    refine vp_callSi (W.runV (C := RM) (As := [.int (a)]) (rest := []) ⟨hx, hb, hml, hown, hts⟩ (c_M_isAsset l D cI cL cQ d κ m hW.1 hB _ a) (cwV 1 hts (k_gV tw_495 tw_497 tw_25 tw_41 tw_498) rfl rfl rfl (by decide +kernel) ⟨Nat.le_of_ble_eq_true rfl, Nat.le_of_ble_eq_true rfl⟩) (kPreV hM.1 hK (q := 0) hW.1.1 rfl) rfl rfl hl.1 rfl (lv_room (Nat.le_of_ble_eq_true rfl)) dM_give_10 ⟨Nat.le_of_ble_eq_true rfl, Nat.le_of_ble_eq_true rfl⟩) (fun r_10 e_10 => ?_)
    subst e_10
    refine lv_if_eq (tgt := 23) hx hb dM_give_13 (by decide) (fun c_13 => ?_) (fun c_13 => ?_)
    · refine lv_bipush (v := 8) hx hb dM_give_23 (by decide) ?_
      have hg : g_M_give m p a v = (8, m) := by rw [g_M_give, if_neg c_5, if_pos c_13]
      exact W.iret (v := 8) hx hb hr (fun t ht h9 => kNi.of hM ht (by rw [hg]; exact ⟨rfl, hW⟩)) hM.2.2.2.2 dM_give_25
    · refine lv_lload_n hx hb dM_give_16 rfl (lv_at hl 3 rfl) ?_
      refine vp_callSi (W.runS (As := [.long (v)]) (rest := []) ⟨hx, hb, hml, hown, hts⟩ (c_M_isAmount l D cI cL cQ d κ _ v) (cwS 1 hts (k_gS tw_533 tw_534 tw_41 tw_535) rfl rfl rfl (by decide +kernel) ⟨Nat.le_of_ble_eq_true rfl, Nat.le_of_ble_eq_true rfl⟩) (kPreS hM.1 hK) rfl rfl hl.1 rfl (lv_room (Nat.le_of_ble_eq_true rfl)) dM_give_17 ⟨Nat.le_of_ble_eq_true rfl, Nat.le_of_ble_eq_true rfl⟩) (fun r_17 e_17 => ?_)
      subst e_17
      refine lv_if_ne (tgt := 26) hx hb dM_give_20 (by decide) (fun c_20 => ?_) (fun c_20 => ?_)
      · refine lv_aload_n hx hb dM_give_26 rfl (lv_at hl 0 rfl) ?_
        refine lv_iconst (v := 0) hx hb dM_give_27 (by decide) ?_
        refine lv_iload_n hx hb dM_give_28 rfl (lv_at hl 2 rfl) ?_
        refine vp_callSl (W.runV (C := RM) (As := [.int (0), .int (a)]) (rest := []) ⟨hx, hb, hml, hown, hts⟩ (c_M_position l D cI cL cQ d κ m hW.1 hB _ 0 a) (cwV 2 hts (k_gV tw_503 tw_505 tw_27 tw_41 tw_506) rfl rfl rfl (by decide +kernel) ⟨Nat.le_of_ble_eq_true rfl, Nat.le_of_ble_eq_true rfl⟩) (kPreV hM.1 hK (q := 0) hW.1.1 rfl) rfl rfl hl.1 rfl (lv_room (Nat.le_of_ble_eq_true rfl)) dM_give_29 ⟨Nat.le_of_ble_eq_true rfl, Nat.le_of_ble_eq_true rfl⟩) (fun r_29 e_29 => ?_)
        subst e_29
        refine lv_lload_n hx hb dM_give_32 rfl (lv_at hl 3 rfl) ?_
        refine lv_lsub hx hb dM_give_33 ?_
        refine lv_ldc2 (v := -4000000000000000000) hx hb hown (hts _ tw_536) dM_give_34 ?_
        refine kl_ge (tgt := 44) hx hb dM_give_37 dM_give_38 (by decide) (fun c_37 => ?_) (fun c_37 => ?_)
        · refine lv_aload_n hx hb dM_give_44 rfl (lv_at hl 0 rfl) ?_
          refine lv_iconst (v := 0) hx hb dM_give_45 (by decide) ?_
          refine lv_iload_n hx hb dM_give_46 rfl (lv_at hl 2 rfl) ?_
          refine lv_lload_n hx hb dM_give_47 rfl (lv_at hl 3 rfl) ?_
          refine lv_lneg hx hb dM_give_48 ?_
          refine ka_ncallv (W.runV (C := RM) (As := [.int (0), .int (a), .long (-v)]) (rest := []) ⟨hx, hb, hml, hown, hts⟩ (c_M_move l D cI cL cQ d κ m hW.1 hB _ 0 a (-v) (by omega)) (cwV 3 hts (k_gV tw_537 tw_539 tw_32 tw_41 tw_540) rfl rfl rfl (by decide +kernel) ⟨Nat.le_of_ble_eq_true rfl, Nat.le_of_ble_eq_true rfl⟩) (kPreV hM.1 hK (q := 0) hW.1.1 rfl) rfl rfl hl.1 rfl (lv_room (Nat.le_of_ble_eq_true rfl)) dM_give_49 ⟨Nat.le_of_ble_eq_true rfl, Nat.le_of_ble_eq_true rfl⟩) hM (fun _ h9 => Or.inr h9) (fun κ1 H locs hW1 hM => ?_)
          obtain ⟨κ, hM, hW⟩ : ∃ κ', kW D vCl d κ' (kA d κ0 s0.heap.size) s0.heap H locs ∧ MW cI cL κ0 d κ' (g_M_move m 0 a (-v)) := ⟨κ1, hM, hW.trans hW1⟩
          refine lv_aload_n hx hb dM_give_52 rfl (lv_at hl 0 rfl) ?_
          refine lv_iload_n hx hb dM_give_53 rfl (lv_at hl 1 rfl) ?_
          refine lv_iload_n hx hb dM_give_54 rfl (lv_at hl 2 rfl) ?_
          refine lv_lload_n hx hb dM_give_55 rfl (lv_at hl 3 rfl) ?_
          refine ka_ncallv (W.runV (C := RM) (As := [.int (p), .int (a), .long (v)]) (rest := []) ⟨hx, hb, hml, hown, hts⟩ (c_M_move l D cI cL cQ d κ (g_M_move m 0 a (-v)) hW.1 (MB_move hB (by omega)) _ p a v (by show m.1 3 + 1 < 1040; omega)) (cwV 3 hts (k_gV tw_537 tw_539 tw_32 tw_41 tw_540) rfl rfl rfl (by decide +kernel) ⟨Nat.le_of_ble_eq_true rfl, Nat.le_of_ble_eq_true rfl⟩) (kPreV hM.1 hK (q := 0) hW.1.1 rfl) rfl rfl hl.1 rfl (lv_room (Nat.le_of_ble_eq_true rfl)) dM_give_56 ⟨Nat.le_of_ble_eq_true rfl, Nat.le_of_ble_eq_true rfl⟩) hM (fun _ h9 => Or.inr h9) (fun κ1 H locs hW1 hM => ?_)
          obtain ⟨κ, hM, hW⟩ : ∃ κ', kW D vCl d κ' (kA d κ0 s0.heap.size) s0.heap H locs ∧ MW cI cL κ0 d κ' (g_M_move (g_M_move m 0 a (-v)) p a v) := ⟨κ1, hM, hW.trans hW1⟩
          refine lv_iconst (v := 0) hx hb dM_give_59 (by decide) ?_
          have hg : g_M_give m p a v = (0, g_M_move (g_M_move m 0 a (-v)) p a v) := by rw [g_M_give, if_neg c_5, if_neg c_13, if_neg c_20, if_neg c_37]
          exact W.iret (v := 0) hx hb hr (fun t ht h9 => kNi.of hM ht (by rw [hg]; exact ⟨rfl, hW⟩)) hM.2.2.2.2 dM_give_60
        · refine lv_bipush (v := 10) hx hb dM_give_41 (by decide) ?_
          have hg : g_M_give m p a v = (10, m) := by rw [g_M_give, if_neg c_5, if_neg c_13, if_neg c_20, if_pos c_37]
          exact W.iret (v := 10) hx hb hr (fun t ht h9 => kNi.of hM ht (by rw [hg]; exact ⟨rfl, hW⟩)) hM.2.2.2.2 dM_give_43
      · refine lv_bipush (v := 8) hx hb dM_give_23 (by decide) ?_
        have hg : g_M_give m p a v = (8, m) := by rw [g_M_give, if_neg c_5, if_neg c_13, if_pos c_20]
        exact W.iret (v := 8) hx hb hr (fun t ht h9 => kNi.of hM ht (by rw [hg]; exact ⟨rfl, hW⟩)) hM.2.2.2.2 dM_give_25

theorem dM_back_0 : decode prog_6_method_23_code 0 = .ok (.aload_n 0, 1) := by decide +kernel
theorem dM_back_1 : decode prog_6_method_23_code 1 = .ok (.iload_n 1, 1) := by decide +kernel
theorem dM_back_2 : decode prog_6_method_23_code 2 = .ok (.invokevirtual 138, 3) := by decide +kernel
theorem dM_back_5 : decode prog_6_method_23_code 5 = .ok (.ifCond .eq 18, 3) := by decide +kernel
theorem dM_back_8 : decode prog_6_method_23_code 8 = .ok (.aload_n 0, 1) := by decide +kernel
theorem dM_back_9 : decode prog_6_method_23_code 9 = .ok (.iload_n 2, 1) := by decide +kernel
theorem dM_back_10 : decode prog_6_method_23_code 10 = .ok (.invokevirtual 128, 3) := by decide +kernel
theorem dM_back_13 : decode prog_6_method_23_code 13 = .ok (.ifCond .eq 10, 3) := by decide +kernel
theorem dM_back_16 : decode prog_6_method_23_code 16 = .ok (.lload_n 3, 1) := by decide +kernel
theorem dM_back_17 : decode prog_6_method_23_code 17 = .ok (.invokestatic 141, 3) := by decide +kernel
theorem dM_back_20 : decode prog_6_method_23_code 20 = .ok (.ifCond .ne 6, 3) := by decide +kernel
theorem dM_back_23 : decode prog_6_method_23_code 23 = .ok (.bipush 8, 2) := by decide +kernel
theorem dM_back_25 : decode prog_6_method_23_code 25 = .ok (.ireturn, 1) := by decide +kernel
theorem dM_back_26 : decode prog_6_method_23_code 26 = .ok (.aload_n 0, 1) := by decide +kernel
theorem dM_back_27 : decode prog_6_method_23_code 27 = .ok (.iload_n 1, 1) := by decide +kernel
theorem dM_back_28 : decode prog_6_method_23_code 28 = .ok (.iload_n 2, 1) := by decide +kernel
theorem dM_back_29 : decode prog_6_method_23_code 29 = .ok (.invokevirtual 102, 3) := by decide +kernel
theorem dM_back_32 : decode prog_6_method_23_code 32 = .ok (.lload_n 3, 1) := by decide +kernel
theorem dM_back_33 : decode prog_6_method_23_code 33 = .ok (.lsub, 1) := by decide +kernel
theorem dM_back_34 : decode prog_6_method_23_code 34 = .ok (.aload_n 0, 1) := by decide +kernel
theorem dM_back_35 : decode prog_6_method_23_code 35 = .ok (.iload_n 1, 1) := by decide +kernel
theorem dM_back_36 : decode prog_6_method_23_code 36 = .ok (.iload_n 2, 1) := by decide +kernel
theorem dM_back_37 : decode prog_6_method_23_code 37 = .ok (.invokevirtual 151, 3) := by decide +kernel
theorem dM_back_40 : decode prog_6_method_23_code 40 = .ok (.lcmp, 1) := by decide +kernel
theorem dM_back_41 : decode prog_6_method_23_code 41 = .ok (.ifCond .ge 6, 3) := by decide +kernel
theorem dM_back_44 : decode prog_6_method_23_code 44 = .ok (.bipush 9, 2) := by decide +kernel
theorem dM_back_46 : decode prog_6_method_23_code 46 = .ok (.ireturn, 1) := by decide +kernel
theorem dM_back_47 : decode prog_6_method_23_code 47 = .ok (.aload_n 0, 1) := by decide +kernel
theorem dM_back_48 : decode prog_6_method_23_code 48 = .ok (.iload_n 1, 1) := by decide +kernel
theorem dM_back_49 : decode prog_6_method_23_code 49 = .ok (.iload_n 2, 1) := by decide +kernel
theorem dM_back_50 : decode prog_6_method_23_code 50 = .ok (.lload_n 3, 1) := by decide +kernel
theorem dM_back_51 : decode prog_6_method_23_code 51 = .ok (.lneg, 1) := by decide +kernel
theorem dM_back_52 : decode prog_6_method_23_code 52 = .ok (.invokevirtual 147, 3) := by decide +kernel
theorem dM_back_55 : decode prog_6_method_23_code 55 = .ok (.aload_n 0, 1) := by decide +kernel
theorem dM_back_56 : decode prog_6_method_23_code 56 = .ok (.iconst 0, 1) := by decide +kernel
theorem dM_back_57 : decode prog_6_method_23_code 57 = .ok (.iload_n 2, 1) := by decide +kernel
theorem dM_back_58 : decode prog_6_method_23_code 58 = .ok (.lload_n 3, 1) := by decide +kernel
theorem dM_back_59 : decode prog_6_method_23_code 59 = .ok (.invokevirtual 147, 3) := by decide +kernel
theorem dM_back_62 : decode prog_6_method_23_code 62 = .ok (.iconst 0, 1) := by decide +kernel
theorem dM_back_63 : decode prog_6_method_23_code 63 = .ok (.ireturn, 1) := by decide +kernel
def g_M_back (m : MS) (p : Int32) (a : Int32) (v : Int64) : Int32 × MS := if (f_M_isParticipant m p) = 0 then (8, m) else (if (f_M_isAsset m a) = 0 then (8, m) else (if (f_M_isAmount v) = 0 then (8, m) else (if ((f_M_position m p a) - v) < (f_M_floorOf m p a) then (9, m) else (0, g_M_move (g_M_move m p a (-v)) 0 a v))))
set_option maxHeartbeats 4000000 in
set_option maxRecDepth 100000 in
theorem c_M_back (l : Launch) (D : va_G) (cI cL cQ : ClassId) (d : Nat → Nat) (κ0 : Nat → Option va_E) (m : MS) (hm : IsM cI cL d κ0 m) (hB : MB m) (sz : Nat) (p : Int32) (a : Int32) (v : Int64) (hmv : m.1 3 + 1 < 1040) : Met l yM_back wM_back { frames := 3, cells := 0, slots := 0, locals := 78 } (va_Pc [.ref (d 0), .int (p), .int (a), .long (v)] (kC D vCl (kT cI cL cQ) d κ0 sz)) (kNi D vCl d (kA d κ0 sz) (fun r κ' => r = (g_M_back m p a v).1 ∧ MW cI cL κ0 d κ' (g_M_back m p a v).2)) 0 0 (kA d κ0 sz) := by
  refine kMet (by decide) (Nat.le_of_ble_eq_true rfl) ?_
  intro p0 e0 s0 m0 below0 meth0 c0 hx hb hr hml hown hlocks hin hts hsz hP hK ls hl
  subst hsz
  have hl : lv_has ls 5 [(0, .ref (d 0)), (1, .int (p)), (2, .int (a)), (3, .long (v))] := hl
  have hB9 := hB
  obtain ⟨hb0, hb1, hb2, hb3, hb4, hb5, hb6, hb7, hb8, hb9, hb10⟩ := hB9
  obtain ⟨κ, hM, hW⟩ : ∃ κ', kW D vCl d κ' (kA d κ0 s0.heap.size) s0.heap s0.heap [] ∧ MW cI cL κ0 d κ' m := ⟨κ0, kW.start hP, ⟨hm, fun _ _ => rfl⟩⟩
  refine lv_aload_n hx hb dM_back_0 rfl (lv_at hl 0 rfl) ?_
  refine lv_iload_n hx hb dM_back_1 rfl (lv_at hl 1 rfl) ?_
  refine vp_callSi (W.runV (C := RM) (As := [.int (p)]) (rest := []) ⟨hx, hb, hml, hown, hts⟩ (c_M_isParticipant l D cI cL cQ d κ m hW.1 hB _ p) (cwV 1 hts (k_gV tw_529 tw_531 tw_31 tw_41 tw_532) rfl rfl rfl (by decide +kernel) ⟨Nat.le_of_ble_eq_true rfl, Nat.le_of_ble_eq_true rfl⟩) (kPreV hM.1 hK (q := 0) hW.1.1 rfl) rfl rfl hl.1 rfl (lv_room (Nat.le_of_ble_eq_true rfl)) dM_back_2 ⟨Nat.le_of_ble_eq_true rfl, Nat.le_of_ble_eq_true rfl⟩) (fun r_2 e_2 => ?_)
  subst e_2
  refine lv_if_eq (tgt := 23) hx hb dM_back_5 (by decide) (fun c_5 => ?_) (fun c_5 => ?_)
  · refine lv_bipush (v := 8) hx hb dM_back_23 (by decide) ?_
    have hg : g_M_back m p a v = (8, m) := by rw [g_M_back, if_pos c_5]
    exact W.iret (v := 8) hx hb hr (fun t ht h9 => kNi.of hM ht (by rw [hg]; exact ⟨rfl, hW⟩)) hM.2.2.2.2 dM_back_25
  · refine lv_aload_n hx hb dM_back_8 rfl (lv_at hl 0 rfl) ?_
    refine lv_iload_n hx hb dM_back_9 rfl (lv_at hl 2 rfl) ?_
    refine vp_callSi (W.runV (C := RM) (As := [.int (a)]) (rest := []) ⟨hx, hb, hml, hown, hts⟩ (c_M_isAsset l D cI cL cQ d κ m hW.1 hB _ a) (cwV 1 hts (k_gV tw_495 tw_497 tw_25 tw_41 tw_498) rfl rfl rfl (by decide +kernel) ⟨Nat.le_of_ble_eq_true rfl, Nat.le_of_ble_eq_true rfl⟩) (kPreV hM.1 hK (q := 0) hW.1.1 rfl) rfl rfl hl.1 rfl (lv_room (Nat.le_of_ble_eq_true rfl)) dM_back_10 ⟨Nat.le_of_ble_eq_true rfl, Nat.le_of_ble_eq_true rfl⟩) (fun r_10 e_10 => ?_)
    subst e_10
    refine lv_if_eq (tgt := 23) hx hb dM_back_13 (by decide) (fun c_13 => ?_) (fun c_13 => ?_)
    · refine lv_bipush (v := 8) hx hb dM_back_23 (by decide) ?_
      have hg : g_M_back m p a v = (8, m) := by rw [g_M_back, if_neg c_5, if_pos c_13]
      exact W.iret (v := 8) hx hb hr (fun t ht h9 => kNi.of hM ht (by rw [hg]; exact ⟨rfl, hW⟩)) hM.2.2.2.2 dM_back_25
    · refine lv_lload_n hx hb dM_back_16 rfl (lv_at hl 3 rfl) ?_
      refine vp_callSi (W.runS (As := [.long (v)]) (rest := []) ⟨hx, hb, hml, hown, hts⟩ (c_M_isAmount l D cI cL cQ d κ _ v) (cwS 1 hts (k_gS tw_533 tw_534 tw_41 tw_535) rfl rfl rfl (by decide +kernel) ⟨Nat.le_of_ble_eq_true rfl, Nat.le_of_ble_eq_true rfl⟩) (kPreS hM.1 hK) rfl rfl hl.1 rfl (lv_room (Nat.le_of_ble_eq_true rfl)) dM_back_17 ⟨Nat.le_of_ble_eq_true rfl, Nat.le_of_ble_eq_true rfl⟩) (fun r_17 e_17 => ?_)
      subst e_17
      refine lv_if_ne (tgt := 26) hx hb dM_back_20 (by decide) (fun c_20 => ?_) (fun c_20 => ?_)
      · refine lv_aload_n hx hb dM_back_26 rfl (lv_at hl 0 rfl) ?_
        refine lv_iload_n hx hb dM_back_27 rfl (lv_at hl 1 rfl) ?_
        refine lv_iload_n hx hb dM_back_28 rfl (lv_at hl 2 rfl) ?_
        refine vp_callSl (W.runV (C := RM) (As := [.int (p), .int (a)]) (rest := []) ⟨hx, hb, hml, hown, hts⟩ (c_M_position l D cI cL cQ d κ m hW.1 hB _ p a) (cwV 2 hts (k_gV tw_503 tw_505 tw_27 tw_41 tw_506) rfl rfl rfl (by decide +kernel) ⟨Nat.le_of_ble_eq_true rfl, Nat.le_of_ble_eq_true rfl⟩) (kPreV hM.1 hK (q := 0) hW.1.1 rfl) rfl rfl hl.1 rfl (lv_room (Nat.le_of_ble_eq_true rfl)) dM_back_29 ⟨Nat.le_of_ble_eq_true rfl, Nat.le_of_ble_eq_true rfl⟩) (fun r_29 e_29 => ?_)
        subst e_29
        refine lv_lload_n hx hb dM_back_32 rfl (lv_at hl 3 rfl) ?_
        refine lv_lsub hx hb dM_back_33 ?_
        refine lv_aload_n hx hb dM_back_34 rfl (lv_at hl 0 rfl) ?_
        refine lv_iload_n hx hb dM_back_35 rfl (lv_at hl 1 rfl) ?_
        refine lv_iload_n hx hb dM_back_36 rfl (lv_at hl 2 rfl) ?_
        refine vp_callSl (W.runV (C := RM) (As := [.int (p), .int (a)]) (rest := [.long ((f_M_position m p a) - v)]) ⟨hx, hb, hml, hown, hts⟩ (c_M_floorOf l D cI cL cQ d κ m hW.1 hB _ p a (asset_64 hB (by assumption))) (cwV 2 hts (k_gV tw_545 tw_547 tw_33 tw_41 tw_548) rfl rfl rfl (by decide +kernel) ⟨Nat.le_of_ble_eq_true rfl, Nat.le_of_ble_eq_true rfl⟩) (kPreV hM.1 hK (q := 0) hW.1.1 rfl) rfl rfl hl.1 rfl (lv_room (Nat.le_of_ble_eq_true rfl)) dM_back_37 ⟨Nat.le_of_ble_eq_true rfl, Nat.le_of_ble_eq_true rfl⟩) (fun r_37 e_37 => ?_)
        subst e_37
        refine kl_ge (tgt := 47) hx hb dM_back_40 dM_back_41 (by decide) (fun c_40 => ?_) (fun c_40 => ?_)
        · refine lv_aload_n hx hb dM_back_47 rfl (lv_at hl 0 rfl) ?_
          refine lv_iload_n hx hb dM_back_48 rfl (lv_at hl 1 rfl) ?_
          refine lv_iload_n hx hb dM_back_49 rfl (lv_at hl 2 rfl) ?_
          refine lv_lload_n hx hb dM_back_50 rfl (lv_at hl 3 rfl) ?_
          refine lv_lneg hx hb dM_back_51 ?_
          refine ka_ncallv (W.runV (C := RM) (As := [.int (p), .int (a), .long (-v)]) (rest := []) ⟨hx, hb, hml, hown, hts⟩ (c_M_move l D cI cL cQ d κ m hW.1 hB _ p a (-v) (by omega)) (cwV 3 hts (k_gV tw_537 tw_539 tw_32 tw_41 tw_540) rfl rfl rfl (by decide +kernel) ⟨Nat.le_of_ble_eq_true rfl, Nat.le_of_ble_eq_true rfl⟩) (kPreV hM.1 hK (q := 0) hW.1.1 rfl) rfl rfl hl.1 rfl (lv_room (Nat.le_of_ble_eq_true rfl)) dM_back_52 ⟨Nat.le_of_ble_eq_true rfl, Nat.le_of_ble_eq_true rfl⟩) hM (fun _ h9 => Or.inr h9) (fun κ1 H locs hW1 hM => ?_)
          obtain ⟨κ, hM, hW⟩ : ∃ κ', kW D vCl d κ' (kA d κ0 s0.heap.size) s0.heap H locs ∧ MW cI cL κ0 d κ' (g_M_move m p a (-v)) := ⟨κ1, hM, hW.trans hW1⟩
          refine lv_aload_n hx hb dM_back_55 rfl (lv_at hl 0 rfl) ?_
          refine lv_iconst (v := 0) hx hb dM_back_56 (by decide) ?_
          refine lv_iload_n hx hb dM_back_57 rfl (lv_at hl 2 rfl) ?_
          refine lv_lload_n hx hb dM_back_58 rfl (lv_at hl 3 rfl) ?_
          refine ka_ncallv (W.runV (C := RM) (As := [.int (0), .int (a), .long (v)]) (rest := []) ⟨hx, hb, hml, hown, hts⟩ (c_M_move l D cI cL cQ d κ (g_M_move m p a (-v)) hW.1 (MB_move hB (by omega)) _ 0 a v (by show m.1 3 + 1 < 1040; omega)) (cwV 3 hts (k_gV tw_537 tw_539 tw_32 tw_41 tw_540) rfl rfl rfl (by decide +kernel) ⟨Nat.le_of_ble_eq_true rfl, Nat.le_of_ble_eq_true rfl⟩) (kPreV hM.1 hK (q := 0) hW.1.1 rfl) rfl rfl hl.1 rfl (lv_room (Nat.le_of_ble_eq_true rfl)) dM_back_59 ⟨Nat.le_of_ble_eq_true rfl, Nat.le_of_ble_eq_true rfl⟩) hM (fun _ h9 => Or.inr h9) (fun κ1 H locs hW1 hM => ?_)
          obtain ⟨κ, hM, hW⟩ : ∃ κ', kW D vCl d κ' (kA d κ0 s0.heap.size) s0.heap H locs ∧ MW cI cL κ0 d κ' (g_M_move (g_M_move m p a (-v)) 0 a v) := ⟨κ1, hM, hW.trans hW1⟩
          refine lv_iconst (v := 0) hx hb dM_back_62 (by decide) ?_
          have hg : g_M_back m p a v = (0, g_M_move (g_M_move m p a (-v)) 0 a v) := by rw [g_M_back, if_neg c_5, if_neg c_13, if_neg c_20, if_neg c_40]
          exact W.iret (v := 0) hx hb hr (fun t ht h9 => kNi.of hM ht (by rw [hg]; exact ⟨rfl, hW⟩)) hM.2.2.2.2 dM_back_63
        · refine lv_bipush (v := 9) hx hb dM_back_44 (by decide) ?_
          have hg : g_M_back m p a v = (9, m) := by rw [g_M_back, if_neg c_5, if_neg c_13, if_neg c_20, if_pos c_40]
          exact W.iret (v := 9) hx hb hr (fun t ht h9 => kNi.of hM ht (by rw [hg]; exact ⟨rfl, hW⟩)) hM.2.2.2.2 dM_back_46
      · refine lv_bipush (v := 8) hx hb dM_back_23 (by decide) ?_
        have hg : g_M_back m p a v = (8, m) := by rw [g_M_back, if_neg c_5, if_neg c_13, if_pos c_20]
        exact W.iret (v := 8) hx hb hr (fun t ht h9 => kNi.of hM ht (by rw [hg]; exact ⟨rfl, hW⟩)) hM.2.2.2.2 dM_back_25

theorem dM_pledge_0 : decode prog_6_method_25_code 0 = .ok (.aload_n 0, 1) := by decide +kernel
theorem dM_pledge_1 : decode prog_6_method_25_code 1 = .ok (.iload_n 1, 1) := by decide +kernel
theorem dM_pledge_2 : decode prog_6_method_25_code 2 = .ok (.invokevirtual 138, 3) := by decide +kernel
theorem dM_pledge_5 : decode prog_6_method_25_code 5 = .ok (.ifCond .eq 27, 3) := by decide +kernel
theorem dM_pledge_8 : decode prog_6_method_25_code 8 = .ok (.aload_n 0, 1) := by decide +kernel
theorem dM_pledge_9 : decode prog_6_method_25_code 9 = .ok (.iload_n 2, 1) := by decide +kernel
theorem dM_pledge_10 : decode prog_6_method_25_code 10 = .ok (.invokevirtual 128, 3) := by decide +kernel
theorem dM_pledge_13 : decode prog_6_method_25_code 13 = .ok (.ifCond .eq 19, 3) := by decide +kernel
theorem dM_pledge_16 : decode prog_6_method_25_code 16 = .ok (.aload_n 0, 1) := by decide +kernel
theorem dM_pledge_17 : decode prog_6_method_25_code 17 = .ok (.getfield 13, 3) := by decide +kernel
theorem dM_pledge_20 : decode prog_6_method_25_code 20 = .ok (.iload_n 2, 1) := by decide +kernel
theorem dM_pledge_21 : decode prog_6_method_25_code 21 = .ok (.iaload, 1) := by decide +kernel
theorem dM_pledge_22 : decode prog_6_method_25_code 22 = .ok (.ifCond .eq 10, 3) := by decide +kernel
theorem dM_pledge_25 : decode prog_6_method_25_code 25 = .ok (.lload_n 3, 1) := by decide +kernel
theorem dM_pledge_26 : decode prog_6_method_25_code 26 = .ok (.invokestatic 141, 3) := by decide +kernel
theorem dM_pledge_29 : decode prog_6_method_25_code 29 = .ok (.ifCond .ne 6, 3) := by decide +kernel
theorem dM_pledge_32 : decode prog_6_method_25_code 32 = .ok (.bipush 8, 2) := by decide +kernel
theorem dM_pledge_34 : decode prog_6_method_25_code 34 = .ok (.ireturn, 1) := by decide +kernel
theorem dM_pledge_35 : decode prog_6_method_25_code 35 = .ok (.aload_n 0, 1) := by decide +kernel
theorem dM_pledge_36 : decode prog_6_method_25_code 36 = .ok (.iload_n 1, 1) := by decide +kernel
theorem dM_pledge_37 : decode prog_6_method_25_code 37 = .ok (.iload_n 2, 1) := by decide +kernel
theorem dM_pledge_38 : decode prog_6_method_25_code 38 = .ok (.invokevirtual 102, 3) := by decide +kernel
theorem dM_pledge_41 : decode prog_6_method_25_code 41 = .ok (.aload_n 0, 1) := by decide +kernel
theorem dM_pledge_42 : decode prog_6_method_25_code 42 = .ok (.iload_n 1, 1) := by decide +kernel
theorem dM_pledge_43 : decode prog_6_method_25_code 43 = .ok (.iload_n 2, 1) := by decide +kernel
theorem dM_pledge_44 : decode prog_6_method_25_code 44 = .ok (.invokevirtual 88, 3) := by decide +kernel
theorem dM_pledge_47 : decode prog_6_method_25_code 47 = .ok (.lload_n 3, 1) := by decide +kernel
theorem dM_pledge_48 : decode prog_6_method_25_code 48 = .ok (.ladd, 1) := by decide +kernel
theorem dM_pledge_49 : decode prog_6_method_25_code 49 = .ok (.lcmp, 1) := by decide +kernel
theorem dM_pledge_50 : decode prog_6_method_25_code 50 = .ok (.ifCond .ge 6, 3) := by decide +kernel
theorem dM_pledge_53 : decode prog_6_method_25_code 53 = .ok (.bipush 9, 2) := by decide +kernel
theorem dM_pledge_55 : decode prog_6_method_25_code 55 = .ok (.ireturn, 1) := by decide +kernel
theorem dM_pledge_56 : decode prog_6_method_25_code 56 = .ok (.aload_n 0, 1) := by decide +kernel
theorem dM_pledge_57 : decode prog_6_method_25_code 57 = .ok (.iload_n 1, 1) := by decide +kernel
theorem dM_pledge_58 : decode prog_6_method_25_code 58 = .ok (.iload_n 2, 1) := by decide +kernel
theorem dM_pledge_59 : decode prog_6_method_25_code 59 = .ok (.lload_n 3, 1) := by decide +kernel
theorem dM_pledge_60 : decode prog_6_method_25_code 60 = .ok (.invokevirtual 154, 3) := by decide +kernel
theorem dM_pledge_63 : decode prog_6_method_25_code 63 = .ok (.aload_n 0, 1) := by decide +kernel
theorem dM_pledge_64 : decode prog_6_method_25_code 64 = .ok (.invokevirtual 134, 3) := by decide +kernel
theorem dM_pledge_67 : decode prog_6_method_25_code 67 = .ok (.istore 5, 2) := by decide +kernel
theorem dM_pledge_69 : decode prog_6_method_25_code 69 = .ok (.aload_n 0, 1) := by decide +kernel
theorem dM_pledge_70 : decode prog_6_method_25_code 70 = .ok (.iload 5, 2) := by decide +kernel
theorem dM_pledge_72 : decode prog_6_method_25_code 72 = .ok (.ifCond .eq 12, 3) := by decide +kernel
theorem dM_pledge_75 : decode prog_6_method_25_code 75 = .ok (.aload_n 0, 1) := by decide +kernel
theorem dM_pledge_76 : decode prog_6_method_25_code 76 = .ok (.getfield 75, 3) := by decide +kernel
theorem dM_pledge_79 : decode prog_6_method_25_code 79 = .ok (.iconst 1, 1) := by decide +kernel
theorem dM_pledge_80 : decode prog_6_method_25_code 80 = .ok (.isub, 1) := by decide +kernel
theorem dM_pledge_81 : decode prog_6_method_25_code 81 = .ok (.goto 7, 3) := by decide +kernel
theorem dM_pledge_84 : decode prog_6_method_25_code 84 = .ok (.aload_n 0, 1) := by decide +kernel
theorem dM_pledge_85 : decode prog_6_method_25_code 85 = .ok (.getfield 75, 3) := by decide +kernel
theorem dM_pledge_88 : decode prog_6_method_25_code 88 = .ok (.putfield 75, 3) := by decide +kernel
theorem dM_pledge_91 : decode prog_6_method_25_code 91 = .ok (.iload 5, 2) := by decide +kernel
theorem dM_pledge_93 : decode prog_6_method_25_code 93 = .ok (.ifCond .eq 8, 3) := by decide +kernel
theorem dM_pledge_96 : decode prog_6_method_25_code 96 = .ok (.bipush 10, 2) := by decide +kernel
theorem dM_pledge_98 : decode prog_6_method_25_code 98 = .ok (.goto 4, 3) := by decide +kernel
theorem dM_pledge_101 : decode prog_6_method_25_code 101 = .ok (.iconst 0, 1) := by decide +kernel
theorem dM_pledge_102 : decode prog_6_method_25_code 102 = .ok (.ireturn, 1) := by decide +kernel
def g_M_pledge (m : MS) (p : Int32) (a : Int32) (v : Int64) : Int32 × MS := if (f_M_isParticipant m p) = 0 then (8, m) else (if (f_M_isAsset m a) = 0 then (8, m) else (if ((m.2.2.1 0) (a).toNatClampNeg) = 0 then (8, m) else (if (f_M_isAmount v) = 0 then (8, m) else (if (f_M_position m p a) < ((f_M_pledged m p a) + v) then (9, m) else (if (f_M_isOwed (g_M_pledgeMore m p a v)) = 0 then (0, mN (g_M_pledgeMore m p a v) 5 ((g_M_pledgeMore m p a v).1 5)) else (10, mN (g_M_pledgeMore m p a v) 5 (((g_M_pledgeMore m p a v).1 5) - 1)))))))
set_option maxHeartbeats 4000000 in
set_option maxRecDepth 100000 in
theorem c_M_pledge (l : Launch) (D : va_G) (cI cL cQ : ClassId) (d : Nat → Nat) (κ0 : Nat → Option va_E) (m : MS) (hm : IsM cI cL d κ0 m) (hB : MB m) (sz : Nat) (p : Int32) (a : Int32) (v : Int64) (hmv : m.1 5 < 520) : Met l yM_pledge wM_pledge { frames := 3, cells := 0, slots := 0, locals := 79 } (va_Pc [.ref (d 0), .int (p), .int (a), .long (v)] (kC D vCl (kT cI cL cQ) d κ0 sz)) (kNi D vCl d (kA d κ0 sz) (fun r κ' => r = (g_M_pledge m p a v).1 ∧ MW cI cL κ0 d κ' (g_M_pledge m p a v).2)) 0 0 (kA d κ0 sz) := by
  refine kMet (by decide) (Nat.le_of_ble_eq_true rfl) ?_
  intro p0 e0 s0 m0 below0 meth0 c0 hx hb hr hml hown hlocks hin hts hsz hP hK ls hl
  subst hsz
  have hl : lv_has ls 6 [(0, .ref (d 0)), (1, .int (p)), (2, .int (a)), (3, .long (v))] := hl
  have hB9 := hB
  obtain ⟨hb0, hb1, hb2, hb3, hb4, hb5, hb6, hb7, hb8, hb9, hb10⟩ := hB9
  obtain ⟨κ, hM, hW⟩ : ∃ κ', kW D vCl d κ' (kA d κ0 s0.heap.size) s0.heap s0.heap [] ∧ MW cI cL κ0 d κ' m := ⟨κ0, kW.start hP, ⟨hm, fun _ _ => rfl⟩⟩
  refine lv_aload_n hx hb dM_pledge_0 rfl (lv_at hl 0 rfl) ?_
  refine lv_iload_n hx hb dM_pledge_1 rfl (lv_at hl 1 rfl) ?_
  refine vp_callSi (W.runV (C := RM) (As := [.int (p)]) (rest := []) ⟨hx, hb, hml, hown, hts⟩ (c_M_isParticipant l D cI cL cQ d κ m hW.1 hB _ p) (cwV 1 hts (k_gV tw_529 tw_531 tw_31 tw_41 tw_532) rfl rfl rfl (by decide +kernel) ⟨Nat.le_of_ble_eq_true rfl, Nat.le_of_ble_eq_true rfl⟩) (kPreV hM.1 hK (q := 0) hW.1.1 rfl) rfl rfl hl.1 rfl (lv_room (Nat.le_of_ble_eq_true rfl)) dM_pledge_2 ⟨Nat.le_of_ble_eq_true rfl, Nat.le_of_ble_eq_true rfl⟩) (fun r_2 e_2 => ?_)
  subst e_2
  refine lv_if_eq (tgt := 32) hx hb dM_pledge_5 (by decide) (fun c_5 => ?_) (fun c_5 => ?_)
  · refine lv_bipush (v := 8) hx hb dM_pledge_32 (by decide) ?_
    have hg : g_M_pledge m p a v = (8, m) := by rw [g_M_pledge, if_pos c_5]
    exact W.iret (v := 8) hx hb hr (fun t ht h9 => kNi.of hM ht (by rw [hg]; exact ⟨rfl, hW⟩)) hM.2.2.2.2 dM_pledge_34
  · refine lv_aload_n hx hb dM_pledge_8 rfl (lv_at hl 0 rfl) ?_
    refine lv_iload_n hx hb dM_pledge_9 rfl (lv_at hl 2 rfl) ?_
    refine vp_callSi (W.runV (C := RM) (As := [.int (a)]) (rest := []) ⟨hx, hb, hml, hown, hts⟩ (c_M_isAsset l D cI cL cQ d κ m hW.1 hB _ a) (cwV 1 hts (k_gV tw_495 tw_497 tw_25 tw_41 tw_498) rfl rfl rfl (by decide +kernel) ⟨Nat.le_of_ble_eq_true rfl, Nat.le_of_ble_eq_true rfl⟩) (kPreV hM.1 hK (q := 0) hW.1.1 rfl) rfl rfl hl.1 rfl (lv_room (Nat.le_of_ble_eq_true rfl)) dM_pledge_10 ⟨Nat.le_of_ble_eq_true rfl, Nat.le_of_ble_eq_true rfl⟩) (fun r_10 e_10 => ?_)
    subst e_10
    refine lv_if_eq (tgt := 32) hx hb dM_pledge_13 (by decide) (fun c_13 => ?_) (fun c_13 => ?_)
    · refine lv_bipush (v := 8) hx hb dM_pledge_32 (by decide) ?_
      have hg : g_M_pledge m p a v = (8, m) := by rw [g_M_pledge, if_neg c_5, if_pos c_13]
      exact W.iret (v := 8) hx hb hr (fun t ht h9 => kNi.of hM ht (by rw [hg]; exact ⟨rfl, hW⟩)) hM.2.2.2.2 dM_pledge_34
    · refine lv_aload_n hx hb dM_pledge_16 rfl (lv_at hl 0 rfl) ?_
      refine ka_get (v := .ref (d 1)) (ci := 4) (C := RM) (T := TM) (N := 26) hx hb hts inM hown hK hM.1 (q := 0) hW.1.1 rfl 4 (by decide) (hts _ tw_388) (fun _ h9 => h9) rfl dM_pledge_17 ?_
      refine lv_iload_n hx hb dM_pledge_20 rfl (lv_at hl 2 rfl) ?_
      refine ka_iald (f := m.2.2.1 0) hx hb hK hM.1 0 (q := 1) hW.1.2.1 rfl (asset_64 hB (by assumption)) dM_pledge_21 ?_
      refine lv_if_eq (tgt := 32) hx hb dM_pledge_22 (by decide) (fun c_22 => ?_) (fun c_22 => ?_)
      · refine lv_bipush (v := 8) hx hb dM_pledge_32 (by decide) ?_
        have hg : g_M_pledge m p a v = (8, m) := by rw [g_M_pledge, if_neg c_5, if_neg c_13, if_pos c_22]
        exact W.iret (v := 8) hx hb hr (fun t ht h9 => kNi.of hM ht (by rw [hg]; exact ⟨rfl, hW⟩)) hM.2.2.2.2 dM_pledge_34
      · refine lv_lload_n hx hb dM_pledge_25 rfl (lv_at hl 3 rfl) ?_
        refine vp_callSi (W.runS (As := [.long (v)]) (rest := []) ⟨hx, hb, hml, hown, hts⟩ (c_M_isAmount l D cI cL cQ d κ _ v) (cwS 1 hts (k_gS tw_533 tw_534 tw_41 tw_535) rfl rfl rfl (by decide +kernel) ⟨Nat.le_of_ble_eq_true rfl, Nat.le_of_ble_eq_true rfl⟩) (kPreS hM.1 hK) rfl rfl hl.1 rfl (lv_room (Nat.le_of_ble_eq_true rfl)) dM_pledge_26 ⟨Nat.le_of_ble_eq_true rfl, Nat.le_of_ble_eq_true rfl⟩) (fun r_26 e_26 => ?_)
        subst e_26
        refine lv_if_ne (tgt := 35) hx hb dM_pledge_29 (by decide) (fun c_29 => ?_) (fun c_29 => ?_)
        · refine lv_aload_n hx hb dM_pledge_35 rfl (lv_at hl 0 rfl) ?_
          refine lv_iload_n hx hb dM_pledge_36 rfl (lv_at hl 1 rfl) ?_
          refine lv_iload_n hx hb dM_pledge_37 rfl (lv_at hl 2 rfl) ?_
          refine vp_callSl (W.runV (C := RM) (As := [.int (p), .int (a)]) (rest := []) ⟨hx, hb, hml, hown, hts⟩ (c_M_position l D cI cL cQ d κ m hW.1 hB _ p a) (cwV 2 hts (k_gV tw_503 tw_505 tw_27 tw_41 tw_506) rfl rfl rfl (by decide +kernel) ⟨Nat.le_of_ble_eq_true rfl, Nat.le_of_ble_eq_true rfl⟩) (kPreV hM.1 hK (q := 0) hW.1.1 rfl) rfl rfl hl.1 rfl (lv_room (Nat.le_of_ble_eq_true rfl)) dM_pledge_38 ⟨Nat.le_of_ble_eq_true rfl, Nat.le_of_ble_eq_true rfl⟩) (fun r_38 e_38 => ?_)
          subst e_38
          refine lv_aload_n hx hb dM_pledge_41 rfl (lv_at hl 0 rfl) ?_
          refine lv_iload_n hx hb dM_pledge_42 rfl (lv_at hl 1 rfl) ?_
          refine lv_iload_n hx hb dM_pledge_43 rfl (lv_at hl 2 rfl) ?_
          refine vp_callSl (W.runV (C := RM) (As := [.int (p), .int (a)]) (rest := [.long (f_M_position m p a)]) ⟨hx, hb, hml, hown, hts⟩ (c_M_pledged l D cI cL cQ d κ m hW.1 hB _ p a) (cwV 2 hts (k_gV tw_511 tw_513 tw_29 tw_41 tw_514) rfl rfl rfl (by decide +kernel) ⟨Nat.le_of_ble_eq_true rfl, Nat.le_of_ble_eq_true rfl⟩) (kPreV hM.1 hK (q := 0) hW.1.1 rfl) rfl rfl hl.1 rfl (lv_room (Nat.le_of_ble_eq_true rfl)) dM_pledge_44 ⟨Nat.le_of_ble_eq_true rfl, Nat.le_of_ble_eq_true rfl⟩) (fun r_44 e_44 => ?_)
          subst e_44
          refine lv_lload_n hx hb dM_pledge_47 rfl (lv_at hl 3 rfl) ?_
          refine lv_ladd hx hb dM_pledge_48 ?_
          refine kl_ge (tgt := 56) hx hb dM_pledge_49 dM_pledge_50 (by decide) (fun c_49 => ?_) (fun c_49 => ?_)
          · refine lv_aload_n hx hb dM_pledge_56 rfl (lv_at hl 0 rfl) ?_
            refine lv_iload_n hx hb dM_pledge_57 rfl (lv_at hl 1 rfl) ?_
            refine lv_iload_n hx hb dM_pledge_58 rfl (lv_at hl 2 rfl) ?_
            refine lv_lload_n hx hb dM_pledge_59 rfl (lv_at hl 3 rfl) ?_
            refine ka_ncallv (W.runV (C := RM) (As := [.int (p), .int (a), .long (v)]) (rest := []) ⟨hx, hb, hml, hown, hts⟩ (c_M_pledgeMore l D cI cL cQ d κ m hW.1 hB _ p a v hmv) (cwV 3 hts (k_gV tw_554 tw_556 tw_34 tw_41 tw_557) rfl rfl rfl (by decide +kernel) ⟨Nat.le_of_ble_eq_true rfl, Nat.le_of_ble_eq_true rfl⟩) (kPreV hM.1 hK (q := 0) hW.1.1 rfl) rfl rfl hl.1 rfl (lv_room (Nat.le_of_ble_eq_true rfl)) dM_pledge_60 ⟨Nat.le_of_ble_eq_true rfl, Nat.le_of_ble_eq_true rfl⟩) hM (fun _ h9 => Or.inr h9) (fun κ1 H locs hW1 hM => ?_)
            obtain ⟨κ, hM, hW⟩ : ∃ κ', kW D vCl d κ' (kA d κ0 s0.heap.size) s0.heap H locs ∧ MW cI cL κ0 d κ' (g_M_pledgeMore m p a v) := ⟨κ1, hM, hW.trans hW1⟩
            refine lv_aload_n hx hb dM_pledge_63 rfl (lv_at hl 0 rfl) ?_
            refine vp_callSi (W.runV (C := RM) (As := []) (rest := []) ⟨hx, hb, hml, hown, hts⟩ (c_M_isOwed l D cI cL cQ d κ (g_M_pledgeMore m p a v) hW.1 (MB_pledge hB hmv) _ ) (cwV 0 hts (k_gV tw_520 tw_522 tw_30 tw_41 tw_523) rfl rfl rfl (by decide +kernel) ⟨Nat.le_of_ble_eq_true rfl, Nat.le_of_ble_eq_true rfl⟩) (kPreV hM.1 hK (q := 0) hW.1.1 rfl) rfl rfl hl.1 rfl (lv_room (Nat.le_of_ble_eq_true rfl)) dM_pledge_64 ⟨Nat.le_of_ble_eq_true rfl, Nat.le_of_ble_eq_true rfl⟩) (fun r_64 e_64 => ?_)
            subst e_64
            refine lv_istore (lv' := [(5, .int (f_M_isOwed (g_M_pledgeMore m p a v))), (0, .ref (d 0)), (1, .int (p)), (2, .int (a)), (3, .long (v))]) hx hb dM_pledge_67 hl (by decide) rfl (fun ls hl => ?_)
            refine lv_aload_n hx hb dM_pledge_69 rfl (lv_at hl 1 rfl) ?_
            refine lv_iload hx hb dM_pledge_70 (lv_at hl 0 rfl) ?_
            refine lv_if_eq (tgt := 84) hx hb dM_pledge_72 (by decide) (fun c_72 => ?_) (fun c_72 => ?_)
            · refine lv_aload_n hx hb dM_pledge_84 rfl (lv_at hl 1 rfl) ?_
              refine ka_get (v := .int (nI ((g_M_pledgeMore m p a v).1 5))) (ci := 4) (C := RM) (T := TM) (N := 26) hx hb hts inM hown hK hM.1 (q := 0) hW.1.1 rfl 14 (by decide) (hts _ tw_398) (fun _ h9 => h9) rfl dM_pledge_85 ?_
              refine ka_put (D := D) (ci := 4) (v := .int (nI ((g_M_pledgeMore m p a v).1 5))) (ty := .int) (C := RM) (T := TM) (N := 26) hx hb hts inM tM tM_ok nM hown hK hM (q := 0) hW.1.1 rfl 14 (by decide) (hts _ tw_398) (fun _ h9 => h9) rfl (by decide +kernel) rfl rfl (Nat.le_of_ble_eq_true rfl) dM_pledge_88 (fun H locs hM => ?_)
              obtain ⟨κ, hM, hW⟩ : ∃ κ', kW D vCl d κ' (kA d κ0 s0.heap.size) s0.heap H locs ∧ MW cI cL κ0 d κ' (mN (g_M_pledgeMore m p a v) 5 ((g_M_pledgeMore m p a v).1 5)) := ⟨_, hM, mw_pledges ((g_M_pledgeMore m p a v).1 5) hW⟩
              refine lv_iload hx hb dM_pledge_91 (lv_at hl 0 rfl) ?_
              refine lv_if_eq (tgt := 101) hx hb dM_pledge_93 (by decide) (fun _ => ?_) (fun c => absurd c_72 c)
              refine lv_iconst (v := 0) hx hb dM_pledge_101 (by decide) ?_
              have hg : g_M_pledge m p a v = (0, mN (g_M_pledgeMore m p a v) 5 ((g_M_pledgeMore m p a v).1 5)) := by rw [g_M_pledge, if_neg c_5, if_neg c_13, if_neg c_22, if_neg c_29, if_neg c_49, if_pos c_72]
              exact W.iret (v := 0) hx hb hr (fun t ht h9 => kNi.of hM ht (by rw [hg]; exact ⟨rfl, hW⟩)) hM.2.2.2.2 dM_pledge_102
            · refine lv_aload_n hx hb dM_pledge_75 rfl (lv_at hl 1 rfl) ?_
              refine ka_get (v := .int (nI ((g_M_pledgeMore m p a v).1 5))) (ci := 4) (C := RM) (T := TM) (N := 26) hx hb hts inM hown hK hM.1 (q := 0) hW.1.1 rfl 14 (by decide) (hts _ tw_398) (fun _ h9 => h9) rfl dM_pledge_76 ?_
              refine lv_iconst (v := 1) hx hb dM_pledge_79 (by decide) ?_
              refine lv_isub hx hb dM_pledge_80 ?_
              refine k_topi (show nI ((g_M_pledgeMore m p a v).1 5) - 1 = nI (((g_M_pledgeMore m p a v).1 5) - 1) from pk_sub (a := ((g_M_pledgeMore m p a v).1 5)) (b := 1) (by show 1 ≤ m.1 5 + 1; omega)) ?_
              refine lv_goto (tgt := 88) hx hb dM_pledge_81 (by decide) ?_
              refine ka_put (D := D) (ci := 4) (v := .int (nI (((g_M_pledgeMore m p a v).1 5) - 1))) (ty := .int) (C := RM) (T := TM) (N := 26) hx hb hts inM tM tM_ok nM hown hK hM (q := 0) hW.1.1 rfl 14 (by decide) (hts _ tw_398) (fun _ h9 => h9) rfl (by decide +kernel) rfl rfl (Nat.le_of_ble_eq_true rfl) dM_pledge_88 (fun H locs hM => ?_)
              obtain ⟨κ, hM, hW⟩ : ∃ κ', kW D vCl d κ' (kA d κ0 s0.heap.size) s0.heap H locs ∧ MW cI cL κ0 d κ' (mN (g_M_pledgeMore m p a v) 5 (((g_M_pledgeMore m p a v).1 5) - 1)) := ⟨_, hM, mw_pledges (((g_M_pledgeMore m p a v).1 5) - 1) hW⟩
              refine lv_iload hx hb dM_pledge_91 (lv_at hl 0 rfl) ?_
              refine lv_if_eq (tgt := 101) hx hb dM_pledge_93 (by decide) (fun c => absurd c c_72) (fun _ => ?_)
              refine lv_bipush (v := 10) hx hb dM_pledge_96 (by decide) ?_
              refine lv_goto (tgt := 102) hx hb dM_pledge_98 (by decide) ?_
              have hg : g_M_pledge m p a v = (10, mN (g_M_pledgeMore m p a v) 5 (((g_M_pledgeMore m p a v).1 5) - 1)) := by rw [g_M_pledge, if_neg c_5, if_neg c_13, if_neg c_22, if_neg c_29, if_neg c_49, if_neg c_72]
              exact W.iret (v := 10) hx hb hr (fun t ht h9 => kNi.of hM ht (by rw [hg]; exact ⟨rfl, hW⟩)) hM.2.2.2.2 dM_pledge_102
          · refine lv_bipush (v := 9) hx hb dM_pledge_53 (by decide) ?_
            have hg : g_M_pledge m p a v = (9, m) := by rw [g_M_pledge, if_neg c_5, if_neg c_13, if_neg c_22, if_neg c_29, if_pos c_49]
            exact W.iret (v := 9) hx hb hr (fun t ht h9 => kNi.of hM ht (by rw [hg]; exact ⟨rfl, hW⟩)) hM.2.2.2.2 dM_pledge_55
        · refine lv_bipush (v := 8) hx hb dM_pledge_32 (by decide) ?_
          have hg : g_M_pledge m p a v = (8, m) := by rw [g_M_pledge, if_neg c_5, if_neg c_13, if_neg c_22, if_pos c_29]
          exact W.iret (v := 8) hx hb hr (fun t ht h9 => kNi.of hM ht (by rw [hg]; exact ⟨rfl, hW⟩)) hM.2.2.2.2 dM_pledge_34

theorem dM_free_0 : decode prog_6_method_26_code 0 = .ok (.aload_n 0, 1) := by decide +kernel
theorem dM_free_1 : decode prog_6_method_26_code 1 = .ok (.iload_n 1, 1) := by decide +kernel
theorem dM_free_2 : decode prog_6_method_26_code 2 = .ok (.invokevirtual 138, 3) := by decide +kernel
theorem dM_free_5 : decode prog_6_method_26_code 5 = .ok (.ifCond .eq 38, 3) := by decide +kernel
theorem dM_free_8 : decode prog_6_method_26_code 8 = .ok (.aload_n 0, 1) := by decide +kernel
theorem dM_free_9 : decode prog_6_method_26_code 9 = .ok (.iload_n 2, 1) := by decide +kernel
theorem dM_free_10 : decode prog_6_method_26_code 10 = .ok (.invokevirtual 128, 3) := by decide +kernel
theorem dM_free_13 : decode prog_6_method_26_code 13 = .ok (.ifCond .eq 30, 3) := by decide +kernel
theorem dM_free_16 : decode prog_6_method_26_code 16 = .ok (.aload_n 0, 1) := by decide +kernel
theorem dM_free_17 : decode prog_6_method_26_code 17 = .ok (.getfield 13, 3) := by decide +kernel
theorem dM_free_20 : decode prog_6_method_26_code 20 = .ok (.iload_n 2, 1) := by decide +kernel
theorem dM_free_21 : decode prog_6_method_26_code 21 = .ok (.iaload, 1) := by decide +kernel
theorem dM_free_22 : decode prog_6_method_26_code 22 = .ok (.ifCond .eq 21, 3) := by decide +kernel
theorem dM_free_25 : decode prog_6_method_26_code 25 = .ok (.lload_n 3, 1) := by decide +kernel
theorem dM_free_26 : decode prog_6_method_26_code 26 = .ok (.invokestatic 141, 3) := by decide +kernel
theorem dM_free_29 : decode prog_6_method_26_code 29 = .ok (.ifCond .eq 14, 3) := by decide +kernel
theorem dM_free_32 : decode prog_6_method_26_code 32 = .ok (.lload_n 3, 1) := by decide +kernel
theorem dM_free_33 : decode prog_6_method_26_code 33 = .ok (.aload_n 0, 1) := by decide +kernel
theorem dM_free_34 : decode prog_6_method_26_code 34 = .ok (.iload_n 1, 1) := by decide +kernel
theorem dM_free_35 : decode prog_6_method_26_code 35 = .ok (.iload_n 2, 1) := by decide +kernel
theorem dM_free_36 : decode prog_6_method_26_code 36 = .ok (.invokevirtual 88, 3) := by decide +kernel
theorem dM_free_39 : decode prog_6_method_26_code 39 = .ok (.lcmp, 1) := by decide +kernel
theorem dM_free_40 : decode prog_6_method_26_code 40 = .ok (.ifCond .le 6, 3) := by decide +kernel
theorem dM_free_43 : decode prog_6_method_26_code 43 = .ok (.bipush 8, 2) := by decide +kernel
theorem dM_free_45 : decode prog_6_method_26_code 45 = .ok (.ireturn, 1) := by decide +kernel
theorem dM_free_46 : decode prog_6_method_26_code 46 = .ok (.aload_n 0, 1) := by decide +kernel
theorem dM_free_47 : decode prog_6_method_26_code 47 = .ok (.iload_n 1, 1) := by decide +kernel
theorem dM_free_48 : decode prog_6_method_26_code 48 = .ok (.iload_n 2, 1) := by decide +kernel
theorem dM_free_49 : decode prog_6_method_26_code 49 = .ok (.lload_n 3, 1) := by decide +kernel
theorem dM_free_50 : decode prog_6_method_26_code 50 = .ok (.lneg, 1) := by decide +kernel
theorem dM_free_51 : decode prog_6_method_26_code 51 = .ok (.invokevirtual 154, 3) := by decide +kernel
theorem dM_free_54 : decode prog_6_method_26_code 54 = .ok (.aload_n 0, 1) := by decide +kernel
theorem dM_free_55 : decode prog_6_method_26_code 55 = .ok (.iload_n 1, 1) := by decide +kernel
theorem dM_free_56 : decode prog_6_method_26_code 56 = .ok (.invokevirtual 131, 3) := by decide +kernel
theorem dM_free_59 : decode prog_6_method_26_code 59 = .ok (.istore 5, 2) := by decide +kernel
theorem dM_free_61 : decode prog_6_method_26_code 61 = .ok (.aload_n 0, 1) := by decide +kernel
theorem dM_free_62 : decode prog_6_method_26_code 62 = .ok (.iload 5, 2) := by decide +kernel
theorem dM_free_64 : decode prog_6_method_26_code 64 = .ok (.ifCond .eq 12, 3) := by decide +kernel
theorem dM_free_67 : decode prog_6_method_26_code 67 = .ok (.aload_n 0, 1) := by decide +kernel
theorem dM_free_68 : decode prog_6_method_26_code 68 = .ok (.getfield 75, 3) := by decide +kernel
theorem dM_free_71 : decode prog_6_method_26_code 71 = .ok (.iconst 1, 1) := by decide +kernel
theorem dM_free_72 : decode prog_6_method_26_code 72 = .ok (.isub, 1) := by decide +kernel
theorem dM_free_73 : decode prog_6_method_26_code 73 = .ok (.goto 7, 3) := by decide +kernel
theorem dM_free_76 : decode prog_6_method_26_code 76 = .ok (.aload_n 0, 1) := by decide +kernel
theorem dM_free_77 : decode prog_6_method_26_code 77 = .ok (.getfield 75, 3) := by decide +kernel
theorem dM_free_80 : decode prog_6_method_26_code 80 = .ok (.putfield 75, 3) := by decide +kernel
theorem dM_free_83 : decode prog_6_method_26_code 83 = .ok (.iload 5, 2) := by decide +kernel
theorem dM_free_85 : decode prog_6_method_26_code 85 = .ok (.ifCond .eq 8, 3) := by decide +kernel
theorem dM_free_88 : decode prog_6_method_26_code 88 = .ok (.bipush 9, 2) := by decide +kernel
theorem dM_free_90 : decode prog_6_method_26_code 90 = .ok (.goto 4, 3) := by decide +kernel
theorem dM_free_93 : decode prog_6_method_26_code 93 = .ok (.iconst 0, 1) := by decide +kernel
theorem dM_free_94 : decode prog_6_method_26_code 94 = .ok (.ireturn, 1) := by decide +kernel
def g_M_free (m : MS) (p : Int32) (a : Int32) (v : Int64) : Int32 × MS := if (f_M_isParticipant m p) = 0 then (8, m) else (if (f_M_isAsset m a) = 0 then (8, m) else (if ((m.2.2.1 0) (a).toNatClampNeg) = 0 then (8, m) else (if (f_M_isAmount v) = 0 then (8, m) else (if (f_M_pledged m p a) < v then (8, m) else (if (f_M_isShort (g_M_pledgeMore m p a (-v)) p) = 0 then (0, mN (g_M_pledgeMore m p a (-v)) 5 ((g_M_pledgeMore m p a (-v)).1 5)) else (9, mN (g_M_pledgeMore m p a (-v)) 5 (((g_M_pledgeMore m p a (-v)).1 5) - 1)))))))
set_option maxHeartbeats 4000000 in
set_option maxRecDepth 100000 in
theorem c_M_free (l : Launch) (D : va_G) (cI cL cQ : ClassId) (d : Nat → Nat) (κ0 : Nat → Option va_E) (m : MS) (hm : IsM cI cL d κ0 m) (hB : MB m) (sz : Nat) (p : Int32) (a : Int32) (v : Int64) (hmv : m.1 5 < 520) : Met l yM_free wM_free { frames := 3, cells := 0, slots := 0, locals := 77 } (va_Pc [.ref (d 0), .int (p), .int (a), .long (v)] (kC D vCl (kT cI cL cQ) d κ0 sz)) (kNi D vCl d (kA d κ0 sz) (fun r κ' => r = (g_M_free m p a v).1 ∧ MW cI cL κ0 d κ' (g_M_free m p a v).2)) 0 0 (kA d κ0 sz) := by
  refine kMet (by decide) (Nat.le_of_ble_eq_true rfl) ?_
  intro p0 e0 s0 m0 below0 meth0 c0 hx hb hr hml hown hlocks hin hts hsz hP hK ls hl
  subst hsz
  have hl : lv_has ls 6 [(0, .ref (d 0)), (1, .int (p)), (2, .int (a)), (3, .long (v))] := hl
  have hB9 := hB
  obtain ⟨hb0, hb1, hb2, hb3, hb4, hb5, hb6, hb7, hb8, hb9, hb10⟩ := hB9
  obtain ⟨κ, hM, hW⟩ : ∃ κ', kW D vCl d κ' (kA d κ0 s0.heap.size) s0.heap s0.heap [] ∧ MW cI cL κ0 d κ' m := ⟨κ0, kW.start hP, ⟨hm, fun _ _ => rfl⟩⟩
  refine lv_aload_n hx hb dM_free_0 rfl (lv_at hl 0 rfl) ?_
  refine lv_iload_n hx hb dM_free_1 rfl (lv_at hl 1 rfl) ?_
  refine vp_callSi (W.runV (C := RM) (As := [.int (p)]) (rest := []) ⟨hx, hb, hml, hown, hts⟩ (c_M_isParticipant l D cI cL cQ d κ m hW.1 hB _ p) (cwV 1 hts (k_gV tw_529 tw_531 tw_31 tw_41 tw_532) rfl rfl rfl (by decide +kernel) ⟨Nat.le_of_ble_eq_true rfl, Nat.le_of_ble_eq_true rfl⟩) (kPreV hM.1 hK (q := 0) hW.1.1 rfl) rfl rfl hl.1 rfl (lv_room (Nat.le_of_ble_eq_true rfl)) dM_free_2 ⟨Nat.le_of_ble_eq_true rfl, Nat.le_of_ble_eq_true rfl⟩) (fun r_2 e_2 => ?_)
  subst e_2
  refine lv_if_eq (tgt := 43) hx hb dM_free_5 (by decide) (fun c_5 => ?_) (fun c_5 => ?_)
  · refine lv_bipush (v := 8) hx hb dM_free_43 (by decide) ?_
    have hg : g_M_free m p a v = (8, m) := by rw [g_M_free, if_pos c_5]
    exact W.iret (v := 8) hx hb hr (fun t ht h9 => kNi.of hM ht (by rw [hg]; exact ⟨rfl, hW⟩)) hM.2.2.2.2 dM_free_45
  · refine lv_aload_n hx hb dM_free_8 rfl (lv_at hl 0 rfl) ?_
    refine lv_iload_n hx hb dM_free_9 rfl (lv_at hl 2 rfl) ?_
    refine vp_callSi (W.runV (C := RM) (As := [.int (a)]) (rest := []) ⟨hx, hb, hml, hown, hts⟩ (c_M_isAsset l D cI cL cQ d κ m hW.1 hB _ a) (cwV 1 hts (k_gV tw_495 tw_497 tw_25 tw_41 tw_498) rfl rfl rfl (by decide +kernel) ⟨Nat.le_of_ble_eq_true rfl, Nat.le_of_ble_eq_true rfl⟩) (kPreV hM.1 hK (q := 0) hW.1.1 rfl) rfl rfl hl.1 rfl (lv_room (Nat.le_of_ble_eq_true rfl)) dM_free_10 ⟨Nat.le_of_ble_eq_true rfl, Nat.le_of_ble_eq_true rfl⟩) (fun r_10 e_10 => ?_)
    subst e_10
    refine lv_if_eq (tgt := 43) hx hb dM_free_13 (by decide) (fun c_13 => ?_) (fun c_13 => ?_)
    · refine lv_bipush (v := 8) hx hb dM_free_43 (by decide) ?_
      have hg : g_M_free m p a v = (8, m) := by rw [g_M_free, if_neg c_5, if_pos c_13]
      exact W.iret (v := 8) hx hb hr (fun t ht h9 => kNi.of hM ht (by rw [hg]; exact ⟨rfl, hW⟩)) hM.2.2.2.2 dM_free_45
    · refine lv_aload_n hx hb dM_free_16 rfl (lv_at hl 0 rfl) ?_
      refine ka_get (v := .ref (d 1)) (ci := 4) (C := RM) (T := TM) (N := 26) hx hb hts inM hown hK hM.1 (q := 0) hW.1.1 rfl 4 (by decide) (hts _ tw_388) (fun _ h9 => h9) rfl dM_free_17 ?_
      refine lv_iload_n hx hb dM_free_20 rfl (lv_at hl 2 rfl) ?_
      refine ka_iald (f := m.2.2.1 0) hx hb hK hM.1 0 (q := 1) hW.1.2.1 rfl (asset_64 hB (by assumption)) dM_free_21 ?_
      refine lv_if_eq (tgt := 43) hx hb dM_free_22 (by decide) (fun c_22 => ?_) (fun c_22 => ?_)
      · refine lv_bipush (v := 8) hx hb dM_free_43 (by decide) ?_
        have hg : g_M_free m p a v = (8, m) := by rw [g_M_free, if_neg c_5, if_neg c_13, if_pos c_22]
        exact W.iret (v := 8) hx hb hr (fun t ht h9 => kNi.of hM ht (by rw [hg]; exact ⟨rfl, hW⟩)) hM.2.2.2.2 dM_free_45
      · refine lv_lload_n hx hb dM_free_25 rfl (lv_at hl 3 rfl) ?_
        refine vp_callSi (W.runS (As := [.long (v)]) (rest := []) ⟨hx, hb, hml, hown, hts⟩ (c_M_isAmount l D cI cL cQ d κ _ v) (cwS 1 hts (k_gS tw_533 tw_534 tw_41 tw_535) rfl rfl rfl (by decide +kernel) ⟨Nat.le_of_ble_eq_true rfl, Nat.le_of_ble_eq_true rfl⟩) (kPreS hM.1 hK) rfl rfl hl.1 rfl (lv_room (Nat.le_of_ble_eq_true rfl)) dM_free_26 ⟨Nat.le_of_ble_eq_true rfl, Nat.le_of_ble_eq_true rfl⟩) (fun r_26 e_26 => ?_)
        subst e_26
        refine lv_if_eq (tgt := 43) hx hb dM_free_29 (by decide) (fun c_29 => ?_) (fun c_29 => ?_)
        · refine lv_bipush (v := 8) hx hb dM_free_43 (by decide) ?_
          have hg : g_M_free m p a v = (8, m) := by rw [g_M_free, if_neg c_5, if_neg c_13, if_neg c_22, if_pos c_29]
          exact W.iret (v := 8) hx hb hr (fun t ht h9 => kNi.of hM ht (by rw [hg]; exact ⟨rfl, hW⟩)) hM.2.2.2.2 dM_free_45
        · refine lv_lload_n hx hb dM_free_32 rfl (lv_at hl 3 rfl) ?_
          refine lv_aload_n hx hb dM_free_33 rfl (lv_at hl 0 rfl) ?_
          refine lv_iload_n hx hb dM_free_34 rfl (lv_at hl 1 rfl) ?_
          refine lv_iload_n hx hb dM_free_35 rfl (lv_at hl 2 rfl) ?_
          refine vp_callSl (W.runV (C := RM) (As := [.int (p), .int (a)]) (rest := [.long (v)]) ⟨hx, hb, hml, hown, hts⟩ (c_M_pledged l D cI cL cQ d κ m hW.1 hB _ p a) (cwV 2 hts (k_gV tw_511 tw_513 tw_29 tw_41 tw_514) rfl rfl rfl (by decide +kernel) ⟨Nat.le_of_ble_eq_true rfl, Nat.le_of_ble_eq_true rfl⟩) (kPreV hM.1 hK (q := 0) hW.1.1 rfl) rfl rfl hl.1 rfl (lv_room (Nat.le_of_ble_eq_true rfl)) dM_free_36 ⟨Nat.le_of_ble_eq_true rfl, Nat.le_of_ble_eq_true rfl⟩) (fun r_36 e_36 => ?_)
          subst e_36
          refine kl_le (tgt := 46) hx hb dM_free_39 dM_free_40 (by decide) (fun c_39 => ?_) (fun c_39 => ?_)
          · refine lv_aload_n hx hb dM_free_46 rfl (lv_at hl 0 rfl) ?_
            refine lv_iload_n hx hb dM_free_47 rfl (lv_at hl 1 rfl) ?_
            refine lv_iload_n hx hb dM_free_48 rfl (lv_at hl 2 rfl) ?_
            refine lv_lload_n hx hb dM_free_49 rfl (lv_at hl 3 rfl) ?_
            refine lv_lneg hx hb dM_free_50 ?_
            refine ka_ncallv (W.runV (C := RM) (As := [.int (p), .int (a), .long (-v)]) (rest := []) ⟨hx, hb, hml, hown, hts⟩ (c_M_pledgeMore l D cI cL cQ d κ m hW.1 hB _ p a (-v) hmv) (cwV 3 hts (k_gV tw_554 tw_556 tw_34 tw_41 tw_557) rfl rfl rfl (by decide +kernel) ⟨Nat.le_of_ble_eq_true rfl, Nat.le_of_ble_eq_true rfl⟩) (kPreV hM.1 hK (q := 0) hW.1.1 rfl) rfl rfl hl.1 rfl (lv_room (Nat.le_of_ble_eq_true rfl)) dM_free_51 ⟨Nat.le_of_ble_eq_true rfl, Nat.le_of_ble_eq_true rfl⟩) hM (fun _ h9 => Or.inr h9) (fun κ1 H locs hW1 hM => ?_)
            obtain ⟨κ, hM, hW⟩ : ∃ κ', kW D vCl d κ' (kA d κ0 s0.heap.size) s0.heap H locs ∧ MW cI cL κ0 d κ' (g_M_pledgeMore m p a (-v)) := ⟨κ1, hM, hW.trans hW1⟩
            refine lv_aload_n hx hb dM_free_54 rfl (lv_at hl 0 rfl) ?_
            refine lv_iload_n hx hb dM_free_55 rfl (lv_at hl 1 rfl) ?_
            refine vp_callSi (W.runV (C := RM) (As := [.int (p)]) (rest := []) ⟨hx, hb, hml, hown, hts⟩ (c_M_isShort l D cI cL cQ d κ (g_M_pledgeMore m p a (-v)) hW.1 (MB_pledge hB hmv) _ p) (cwV 1 hts (k_gV tw_499 tw_501 tw_26 tw_41 tw_502) rfl rfl rfl (by decide +kernel) ⟨Nat.le_of_ble_eq_true rfl, Nat.le_of_ble_eq_true rfl⟩) (kPreV hM.1 hK (q := 0) hW.1.1 rfl) rfl rfl hl.1 rfl (lv_room (Nat.le_of_ble_eq_true rfl)) dM_free_56 ⟨Nat.le_of_ble_eq_true rfl, Nat.le_of_ble_eq_true rfl⟩) (fun r_56 e_56 => ?_)
            subst e_56
            refine lv_istore (lv' := [(5, .int (f_M_isShort (g_M_pledgeMore m p a (-v)) p)), (0, .ref (d 0)), (1, .int (p)), (2, .int (a)), (3, .long (v))]) hx hb dM_free_59 hl (by decide) rfl (fun ls hl => ?_)
            refine lv_aload_n hx hb dM_free_61 rfl (lv_at hl 1 rfl) ?_
            refine lv_iload hx hb dM_free_62 (lv_at hl 0 rfl) ?_
            refine lv_if_eq (tgt := 76) hx hb dM_free_64 (by decide) (fun c_64 => ?_) (fun c_64 => ?_)
            · refine lv_aload_n hx hb dM_free_76 rfl (lv_at hl 1 rfl) ?_
              refine ka_get (v := .int (nI ((g_M_pledgeMore m p a (-v)).1 5))) (ci := 4) (C := RM) (T := TM) (N := 26) hx hb hts inM hown hK hM.1 (q := 0) hW.1.1 rfl 14 (by decide) (hts _ tw_398) (fun _ h9 => h9) rfl dM_free_77 ?_
              refine ka_put (D := D) (ci := 4) (v := .int (nI ((g_M_pledgeMore m p a (-v)).1 5))) (ty := .int) (C := RM) (T := TM) (N := 26) hx hb hts inM tM tM_ok nM hown hK hM (q := 0) hW.1.1 rfl 14 (by decide) (hts _ tw_398) (fun _ h9 => h9) rfl (by decide +kernel) rfl rfl (Nat.le_of_ble_eq_true rfl) dM_free_80 (fun H locs hM => ?_)
              obtain ⟨κ, hM, hW⟩ : ∃ κ', kW D vCl d κ' (kA d κ0 s0.heap.size) s0.heap H locs ∧ MW cI cL κ0 d κ' (mN (g_M_pledgeMore m p a (-v)) 5 ((g_M_pledgeMore m p a (-v)).1 5)) := ⟨_, hM, mw_pledges ((g_M_pledgeMore m p a (-v)).1 5) hW⟩
              refine lv_iload hx hb dM_free_83 (lv_at hl 0 rfl) ?_
              refine lv_if_eq (tgt := 93) hx hb dM_free_85 (by decide) (fun _ => ?_) (fun c => absurd c_64 c)
              refine lv_iconst (v := 0) hx hb dM_free_93 (by decide) ?_
              have hg : g_M_free m p a v = (0, mN (g_M_pledgeMore m p a (-v)) 5 ((g_M_pledgeMore m p a (-v)).1 5)) := by rw [g_M_free, if_neg c_5, if_neg c_13, if_neg c_22, if_neg c_29, if_neg c_39, if_pos c_64]
              exact W.iret (v := 0) hx hb hr (fun t ht h9 => kNi.of hM ht (by rw [hg]; exact ⟨rfl, hW⟩)) hM.2.2.2.2 dM_free_94
            · refine lv_aload_n hx hb dM_free_67 rfl (lv_at hl 1 rfl) ?_
              refine ka_get (v := .int (nI ((g_M_pledgeMore m p a (-v)).1 5))) (ci := 4) (C := RM) (T := TM) (N := 26) hx hb hts inM hown hK hM.1 (q := 0) hW.1.1 rfl 14 (by decide) (hts _ tw_398) (fun _ h9 => h9) rfl dM_free_68 ?_
              refine lv_iconst (v := 1) hx hb dM_free_71 (by decide) ?_
              refine lv_isub hx hb dM_free_72 ?_
              refine k_topi (show nI ((g_M_pledgeMore m p a (-v)).1 5) - 1 = nI (((g_M_pledgeMore m p a (-v)).1 5) - 1) from pk_sub (a := ((g_M_pledgeMore m p a (-v)).1 5)) (b := 1) (by show 1 ≤ m.1 5 + 1; omega)) ?_
              refine lv_goto (tgt := 80) hx hb dM_free_73 (by decide) ?_
              refine ka_put (D := D) (ci := 4) (v := .int (nI (((g_M_pledgeMore m p a (-v)).1 5) - 1))) (ty := .int) (C := RM) (T := TM) (N := 26) hx hb hts inM tM tM_ok nM hown hK hM (q := 0) hW.1.1 rfl 14 (by decide) (hts _ tw_398) (fun _ h9 => h9) rfl (by decide +kernel) rfl rfl (Nat.le_of_ble_eq_true rfl) dM_free_80 (fun H locs hM => ?_)
              obtain ⟨κ, hM, hW⟩ : ∃ κ', kW D vCl d κ' (kA d κ0 s0.heap.size) s0.heap H locs ∧ MW cI cL κ0 d κ' (mN (g_M_pledgeMore m p a (-v)) 5 (((g_M_pledgeMore m p a (-v)).1 5) - 1)) := ⟨_, hM, mw_pledges (((g_M_pledgeMore m p a (-v)).1 5) - 1) hW⟩
              refine lv_iload hx hb dM_free_83 (lv_at hl 0 rfl) ?_
              refine lv_if_eq (tgt := 93) hx hb dM_free_85 (by decide) (fun c => absurd c c_64) (fun _ => ?_)
              refine lv_bipush (v := 9) hx hb dM_free_88 (by decide) ?_
              refine lv_goto (tgt := 94) hx hb dM_free_90 (by decide) ?_
              have hg : g_M_free m p a v = (9, mN (g_M_pledgeMore m p a (-v)) 5 (((g_M_pledgeMore m p a (-v)).1 5) - 1)) := by rw [g_M_free, if_neg c_5, if_neg c_13, if_neg c_22, if_neg c_29, if_neg c_39, if_neg c_64]
              exact W.iret (v := 9) hx hb hr (fun t ht h9 => kNi.of hM ht (by rw [hg]; exact ⟨rfl, hW⟩)) hM.2.2.2.2 dM_free_94
          · refine lv_bipush (v := 8) hx hb dM_free_43 (by decide) ?_
            have hg : g_M_free m p a v = (8, m) := by rw [g_M_free, if_neg c_5, if_neg c_13, if_neg c_22, if_neg c_29, if_pos c_39]
            exact W.iret (v := 8) hx hb hr (fun t ht h9 => kNi.of hM ht (by rw [hg]; exact ⟨rfl, hW⟩)) hM.2.2.2.2 dM_free_45

theorem dM_limit_0 : decode prog_6_method_27_code 0 = .ok (.aload_n 0, 1) := by decide +kernel
theorem dM_limit_1 : decode prog_6_method_27_code 1 = .ok (.iload_n 1, 1) := by decide +kernel
theorem dM_limit_2 : decode prog_6_method_27_code 2 = .ok (.invokevirtual 138, 3) := by decide +kernel
theorem dM_limit_5 : decode prog_6_method_27_code 5 = .ok (.ifCond .eq 30, 3) := by decide +kernel
theorem dM_limit_8 : decode prog_6_method_27_code 8 = .ok (.aload_n 0, 1) := by decide +kernel
theorem dM_limit_9 : decode prog_6_method_27_code 9 = .ok (.iload_n 2, 1) := by decide +kernel
theorem dM_limit_10 : decode prog_6_method_27_code 10 = .ok (.invokevirtual 138, 3) := by decide +kernel
theorem dM_limit_13 : decode prog_6_method_27_code 13 = .ok (.ifCond .eq 22, 3) := by decide +kernel
theorem dM_limit_16 : decode prog_6_method_27_code 16 = .ok (.iload_n 1, 1) := by decide +kernel
theorem dM_limit_17 : decode prog_6_method_27_code 17 = .ok (.iload_n 2, 1) := by decide +kernel
theorem dM_limit_18 : decode prog_6_method_27_code 18 = .ok (.if_icmp .eq 17, 3) := by decide +kernel
theorem dM_limit_21 : decode prog_6_method_27_code 21 = .ok (.lload_n 3, 1) := by decide +kernel
theorem dM_limit_22 : decode prog_6_method_27_code 22 = .ok (.lconst 0, 1) := by decide +kernel
theorem dM_limit_23 : decode prog_6_method_27_code 23 = .ok (.lcmp, 1) := by decide +kernel
theorem dM_limit_24 : decode prog_6_method_27_code 24 = .ok (.ifCond .lt 11, 3) := by decide +kernel
theorem dM_limit_27 : decode prog_6_method_27_code 27 = .ok (.lload_n 3, 1) := by decide +kernel
theorem dM_limit_28 : decode prog_6_method_27_code 28 = .ok (.ldc2_w 107, 3) := by decide +kernel
theorem dM_limit_31 : decode prog_6_method_27_code 31 = .ok (.lcmp, 1) := by decide +kernel
theorem dM_limit_32 : decode prog_6_method_27_code 32 = .ok (.ifCond .le 6, 3) := by decide +kernel
theorem dM_limit_35 : decode prog_6_method_27_code 35 = .ok (.bipush 8, 2) := by decide +kernel
theorem dM_limit_37 : decode prog_6_method_27_code 37 = .ok (.ireturn, 1) := by decide +kernel
theorem dM_limit_38 : decode prog_6_method_27_code 38 = .ok (.lload_n 3, 1) := by decide +kernel
theorem dM_limit_39 : decode prog_6_method_27_code 39 = .ok (.aload_n 0, 1) := by decide +kernel
theorem dM_limit_40 : decode prog_6_method_27_code 40 = .ok (.iload_n 1, 1) := by decide +kernel
theorem dM_limit_41 : decode prog_6_method_27_code 41 = .ok (.iload_n 2, 1) := by decide +kernel
theorem dM_limit_42 : decode prog_6_method_27_code 42 = .ok (.invokevirtual 157, 3) := by decide +kernel
theorem dM_limit_45 : decode prog_6_method_27_code 45 = .ok (.lcmp, 1) := by decide +kernel
theorem dM_limit_46 : decode prog_6_method_27_code 46 = .ok (.ifCond .ge 6, 3) := by decide +kernel
theorem dM_limit_49 : decode prog_6_method_27_code 49 = .ok (.bipush 9, 2) := by decide +kernel
theorem dM_limit_51 : decode prog_6_method_27_code 51 = .ok (.ireturn, 1) := by decide +kernel
theorem dM_limit_52 : decode prog_6_method_27_code 52 = .ok (.aload_n 0, 1) := by decide +kernel
theorem dM_limit_53 : decode prog_6_method_27_code 53 = .ok (.iload_n 1, 1) := by decide +kernel
theorem dM_limit_54 : decode prog_6_method_27_code 54 = .ok (.iload_n 2, 1) := by decide +kernel
theorem dM_limit_55 : decode prog_6_method_27_code 55 = .ok (.invokevirtual 116, 3) := by decide +kernel
theorem dM_limit_58 : decode prog_6_method_27_code 58 = .ok (.istore 5, 2) := by decide +kernel
theorem dM_limit_60 : decode prog_6_method_27_code 60 = .ok (.iload 5, 2) := by decide +kernel
theorem dM_limit_62 : decode prog_6_method_27_code 62 = .ok (.ifCond .ge 15, 3) := by decide +kernel
theorem dM_limit_65 : decode prog_6_method_27_code 65 = .ok (.aload_n 0, 1) := by decide +kernel
theorem dM_limit_66 : decode prog_6_method_27_code 66 = .ok (.getfield 109, 3) := by decide +kernel
theorem dM_limit_69 : decode prog_6_method_27_code 69 = .ok (.bipush 40, 2) := by decide +kernel
theorem dM_limit_71 : decode prog_6_method_27_code 71 = .ok (.if_icmp .ne 6, 3) := by decide +kernel
theorem dM_limit_74 : decode prog_6_method_27_code 74 = .ok (.bipush 12, 2) := by decide +kernel
theorem dM_limit_76 : decode prog_6_method_27_code 76 = .ok (.ireturn, 1) := by decide +kernel
theorem dM_limit_77 : decode prog_6_method_27_code 77 = .ok (.iload 5, 2) := by decide +kernel
theorem dM_limit_79 : decode prog_6_method_27_code 79 = .ok (.ifCond .ge 10, 3) := by decide +kernel
theorem dM_limit_82 : decode prog_6_method_27_code 82 = .ok (.aload_n 0, 1) := by decide +kernel
theorem dM_limit_83 : decode prog_6_method_27_code 83 = .ok (.getfield 109, 3) := by decide +kernel
theorem dM_limit_86 : decode prog_6_method_27_code 86 = .ok (.goto 5, 3) := by decide +kernel
theorem dM_limit_89 : decode prog_6_method_27_code 89 = .ok (.iload 5, 2) := by decide +kernel
theorem dM_limit_91 : decode prog_6_method_27_code 91 = .ok (.istore 5, 2) := by decide +kernel
theorem dM_limit_93 : decode prog_6_method_27_code 93 = .ok (.aload_n 0, 1) := by decide +kernel
theorem dM_limit_94 : decode prog_6_method_27_code 94 = .ok (.iload 5, 2) := by decide +kernel
theorem dM_limit_96 : decode prog_6_method_27_code 96 = .ok (.aload_n 0, 1) := by decide +kernel
theorem dM_limit_97 : decode prog_6_method_27_code 97 = .ok (.getfield 109, 3) := by decide +kernel
theorem dM_limit_100 : decode prog_6_method_27_code 100 = .ok (.if_icmp .ne 12, 3) := by decide +kernel
theorem dM_limit_103 : decode prog_6_method_27_code 103 = .ok (.aload_n 0, 1) := by decide +kernel
theorem dM_limit_104 : decode prog_6_method_27_code 104 = .ok (.getfield 109, 3) := by decide +kernel
theorem dM_limit_107 : decode prog_6_method_27_code 107 = .ok (.iconst 1, 1) := by decide +kernel
theorem dM_limit_108 : decode prog_6_method_27_code 108 = .ok (.iadd, 1) := by decide +kernel
theorem dM_limit_109 : decode prog_6_method_27_code 109 = .ok (.goto 7, 3) := by decide +kernel
theorem dM_limit_112 : decode prog_6_method_27_code 112 = .ok (.aload_n 0, 1) := by decide +kernel
theorem dM_limit_113 : decode prog_6_method_27_code 113 = .ok (.getfield 109, 3) := by decide +kernel
theorem dM_limit_116 : decode prog_6_method_27_code 116 = .ok (.putfield 109, 3) := by decide +kernel
theorem dM_limit_119 : decode prog_6_method_27_code 119 = .ok (.aload_n 0, 1) := by decide +kernel
theorem dM_limit_120 : decode prog_6_method_27_code 120 = .ok (.getfield 45, 3) := by decide +kernel
theorem dM_limit_123 : decode prog_6_method_27_code 123 = .ok (.iload 5, 2) := by decide +kernel
theorem dM_limit_125 : decode prog_6_method_27_code 125 = .ok (.iload_n 1, 1) := by decide +kernel
theorem dM_limit_126 : decode prog_6_method_27_code 126 = .ok (.iastore, 1) := by decide +kernel
theorem dM_limit_127 : decode prog_6_method_27_code 127 = .ok (.aload_n 0, 1) := by decide +kernel
theorem dM_limit_128 : decode prog_6_method_27_code 128 = .ok (.getfield 48, 3) := by decide +kernel
theorem dM_limit_131 : decode prog_6_method_27_code 131 = .ok (.iload 5, 2) := by decide +kernel
theorem dM_limit_133 : decode prog_6_method_27_code 133 = .ok (.iload_n 2, 1) := by decide +kernel
theorem dM_limit_134 : decode prog_6_method_27_code 134 = .ok (.iastore, 1) := by decide +kernel
theorem dM_limit_135 : decode prog_6_method_27_code 135 = .ok (.aload_n 0, 1) := by decide +kernel
theorem dM_limit_136 : decode prog_6_method_27_code 136 = .ok (.getfield 51, 3) := by decide +kernel
theorem dM_limit_139 : decode prog_6_method_27_code 139 = .ok (.iload 5, 2) := by decide +kernel
theorem dM_limit_141 : decode prog_6_method_27_code 141 = .ok (.lload_n 3, 1) := by decide +kernel
theorem dM_limit_142 : decode prog_6_method_27_code 142 = .ok (.lastore, 1) := by decide +kernel
theorem dM_limit_143 : decode prog_6_method_27_code 143 = .ok (.iconst 0, 1) := by decide +kernel
theorem dM_limit_144 : decode prog_6_method_27_code 144 = .ok (.ireturn, 1) := by decide +kernel
def g_M_limit (m : MS) (p : Int32) (q : Int32) (v : Int64) : Int32 × MS := if (f_M_isParticipant m p) = 0 then (8, m) else (if (f_M_isParticipant m q) = 0 then (8, m) else (if p = q then (8, m) else (if v < 0 then (8, m) else (if 999999999999999 < v then (8, m) else (if v < (f_M_netPaid m p q) then (9, m) else (if 0 ≤ (f_M_limitAt m p q) then (if (f_M_limitAt m p q) = (nI (m.1 6)) then (0, mL (mI (mI (mN m 6 ((m.1 6) + 1)) 6 (va_up (m.2.2.1 6) (f_M_limitAt m p q).toNatClampNeg p)) 7 (va_up (m.2.2.1 7) (f_M_limitAt m p q).toNatClampNeg q)) 4 (va_up (m.2.2.2 4) (f_M_limitAt m p q).toNatClampNeg v)) else (0, mL (mI (mI (mN m 6 (m.1 6)) 6 (va_up (m.2.2.1 6) (f_M_limitAt m p q).toNatClampNeg p)) 7 (va_up (m.2.2.1 7) (f_M_limitAt m p q).toNatClampNeg q)) 4 (va_up (m.2.2.2 4) (f_M_limitAt m p q).toNatClampNeg v))) else (if (nI (m.1 6)) = 40 then (12, m) else (if (nI (m.1 6)) = (nI (m.1 6)) then (0, mL (mI (mI (mN m 6 ((m.1 6) + 1)) 6 (va_up (m.2.2.1 6) (nI (m.1 6)).toNatClampNeg p)) 7 (va_up (m.2.2.1 7) (nI (m.1 6)).toNatClampNeg q)) 4 (va_up (m.2.2.2 4) (nI (m.1 6)).toNatClampNeg v)) else (0, mL (mI (mI (mN m 6 (m.1 6)) 6 (va_up (m.2.2.1 6) (nI (m.1 6)).toNatClampNeg p)) 7 (va_up (m.2.2.1 7) (nI (m.1 6)).toNatClampNeg q)) 4 (va_up (m.2.2.2 4) (nI (m.1 6)).toNatClampNeg v))))))))))
set_option maxHeartbeats 4000000 in
set_option maxRecDepth 100000 in
theorem c_M_limit (l : Launch) (D : va_G) (cI cL cQ : ClassId) (d : Nat → Nat) (κ0 : Nat → Option va_E) (m : MS) (hm : IsM cI cL d κ0 m) (hB : MB m) (sz : Nat) (p : Int32) (q : Int32) (v : Int64)  : Met l yM_limit wM_limit { frames := 1, cells := 0, slots := 0, locals := 25 } (va_Pc [.ref (d 0), .int (p), .int (q), .long (v)] (kC D vCl (kT cI cL cQ) d κ0 sz)) (kNi D vCl d (kA d κ0 sz) (fun r κ' => r = (g_M_limit m p q v).1 ∧ MW cI cL κ0 d κ' (g_M_limit m p q v).2)) 0 0 (kA d κ0 sz) := by
  refine kMet (by decide) (Nat.le_of_ble_eq_true rfl) ?_
  intro p0 e0 s0 m0 below0 meth0 c0 hx hb hr hml hown hlocks hin hts hsz hP hK ls hl
  subst hsz
  have hl : lv_has ls 6 [(0, .ref (d 0)), (1, .int (p)), (2, .int (q)), (3, .long (v))] := hl
  have hB9 := hB
  obtain ⟨hb0, hb1, hb2, hb3, hb4, hb5, hb6, hb7, hb8, hb9, hb10⟩ := hB9
  obtain ⟨κ, hM, hW⟩ : ∃ κ', kW D vCl d κ' (kA d κ0 s0.heap.size) s0.heap s0.heap [] ∧ MW cI cL κ0 d κ' m := ⟨κ0, kW.start hP, ⟨hm, fun _ _ => rfl⟩⟩
  refine lv_aload_n hx hb dM_limit_0 rfl (lv_at hl 0 rfl) ?_
  refine lv_iload_n hx hb dM_limit_1 rfl (lv_at hl 1 rfl) ?_
  refine vp_callSi (W.runV (C := RM) (As := [.int (p)]) (rest := []) ⟨hx, hb, hml, hown, hts⟩ (c_M_isParticipant l D cI cL cQ d κ m hW.1 hB _ p) (cwV 1 hts (k_gV tw_529 tw_531 tw_31 tw_41 tw_532) rfl rfl rfl (by decide +kernel) ⟨Nat.le_of_ble_eq_true rfl, Nat.le_of_ble_eq_true rfl⟩) (kPreV hM.1 hK (q := 0) hW.1.1 rfl) rfl rfl hl.1 rfl (lv_room (Nat.le_of_ble_eq_true rfl)) dM_limit_2 ⟨Nat.le_of_ble_eq_true rfl, Nat.le_of_ble_eq_true rfl⟩) (fun r_2 e_2 => ?_)
  subst e_2
  refine lv_if_eq (tgt := 35) hx hb dM_limit_5 (by decide) (fun c_5 => ?_) (fun c_5 => ?_)
  · refine lv_bipush (v := 8) hx hb dM_limit_35 (by decide) ?_
    have hg : g_M_limit m p q v = (8, m) := by rw [g_M_limit, if_pos c_5]
    exact W.iret (v := 8) hx hb hr (fun t ht h9 => kNi.of hM ht (by rw [hg]; exact ⟨rfl, hW⟩)) hM.2.2.2.2 dM_limit_37
  · refine lv_aload_n hx hb dM_limit_8 rfl (lv_at hl 0 rfl) ?_
    refine lv_iload_n hx hb dM_limit_9 rfl (lv_at hl 2 rfl) ?_
    refine vp_callSi (W.runV (C := RM) (As := [.int (q)]) (rest := []) ⟨hx, hb, hml, hown, hts⟩ (c_M_isParticipant l D cI cL cQ d κ m hW.1 hB _ q) (cwV 1 hts (k_gV tw_529 tw_531 tw_31 tw_41 tw_532) rfl rfl rfl (by decide +kernel) ⟨Nat.le_of_ble_eq_true rfl, Nat.le_of_ble_eq_true rfl⟩) (kPreV hM.1 hK (q := 0) hW.1.1 rfl) rfl rfl hl.1 rfl (lv_room (Nat.le_of_ble_eq_true rfl)) dM_limit_10 ⟨Nat.le_of_ble_eq_true rfl, Nat.le_of_ble_eq_true rfl⟩) (fun r_10 e_10 => ?_)
    subst e_10
    refine lv_if_eq (tgt := 35) hx hb dM_limit_13 (by decide) (fun c_13 => ?_) (fun c_13 => ?_)
    · refine lv_bipush (v := 8) hx hb dM_limit_35 (by decide) ?_
      have hg : g_M_limit m p q v = (8, m) := by rw [g_M_limit, if_neg c_5, if_pos c_13]
      exact W.iret (v := 8) hx hb hr (fun t ht h9 => kNi.of hM ht (by rw [hg]; exact ⟨rfl, hW⟩)) hM.2.2.2.2 dM_limit_37
    · refine lv_iload_n hx hb dM_limit_16 rfl (lv_at hl 1 rfl) ?_
      refine lv_iload_n hx hb dM_limit_17 rfl (lv_at hl 2 rfl) ?_
      refine lv_icmp_eq (tgt := 35) hx hb dM_limit_18 (by decide) (fun c_18 => ?_) (fun c_18 => ?_)
      · refine lv_bipush (v := 8) hx hb dM_limit_35 (by decide) ?_
        have hg : g_M_limit m p q v = (8, m) := by rw [g_M_limit, if_neg c_5, if_neg c_13, if_pos c_18]
        exact W.iret (v := 8) hx hb hr (fun t ht h9 => kNi.of hM ht (by rw [hg]; exact ⟨rfl, hW⟩)) hM.2.2.2.2 dM_limit_37
      · refine lv_lload_n hx hb dM_limit_21 rfl (lv_at hl 3 rfl) ?_
        refine lv_lconst (v := 0) hx hb dM_limit_22 (by decide) ?_
        refine kl_lt (tgt := 35) hx hb dM_limit_23 dM_limit_24 (by decide) (fun c_23 => ?_) (fun c_23 => ?_)
        · refine lv_bipush (v := 8) hx hb dM_limit_35 (by decide) ?_
          have hg : g_M_limit m p q v = (8, m) := by rw [g_M_limit, if_neg c_5, if_neg c_13, if_neg c_18, if_pos c_23]
          exact W.iret (v := 8) hx hb hr (fun t ht h9 => kNi.of hM ht (by rw [hg]; exact ⟨rfl, hW⟩)) hM.2.2.2.2 dM_limit_37
        · refine lv_lload_n hx hb dM_limit_27 rfl (lv_at hl 3 rfl) ?_
          refine lv_ldc2 (v := 999999999999999) hx hb hown (hts _ tw_490) dM_limit_28 ?_
          refine kl_le (tgt := 38) hx hb dM_limit_31 dM_limit_32 (by decide) (fun c_31 => ?_) (fun c_31 => ?_)
          · refine lv_lload_n hx hb dM_limit_38 rfl (lv_at hl 3 rfl) ?_
            refine lv_aload_n hx hb dM_limit_39 rfl (lv_at hl 0 rfl) ?_
            refine lv_iload_n hx hb dM_limit_40 rfl (lv_at hl 1 rfl) ?_
            refine lv_iload_n hx hb dM_limit_41 rfl (lv_at hl 2 rfl) ?_
            refine vp_callSl (W.runV (C := RM) (As := [.int (p), .int (q)]) (rest := [.long (v)]) ⟨hx, hb, hml, hown, hts⟩ (c_M_netPaid l D cI cL cQ d κ m hW.1 hB _ p q) (cwV 2 hts (k_gV tw_566 tw_568 tw_35 tw_41 tw_569) rfl rfl rfl (by decide +kernel) ⟨Nat.le_of_ble_eq_true rfl, Nat.le_of_ble_eq_true rfl⟩) (kPreV hM.1 hK (q := 0) hW.1.1 rfl) rfl rfl hl.1 rfl (lv_room (Nat.le_of_ble_eq_true rfl)) dM_limit_42 ⟨Nat.le_of_ble_eq_true rfl, Nat.le_of_ble_eq_true rfl⟩) (fun r_42 e_42 => ?_)
            subst e_42
            refine kl_ge (tgt := 52) hx hb dM_limit_45 dM_limit_46 (by decide) (fun c_45 => ?_) (fun c_45 => ?_)
            · refine lv_aload_n hx hb dM_limit_52 rfl (lv_at hl 0 rfl) ?_
              refine lv_iload_n hx hb dM_limit_53 rfl (lv_at hl 1 rfl) ?_
              refine lv_iload_n hx hb dM_limit_54 rfl (lv_at hl 2 rfl) ?_
              refine vp_callSi (W.runV (C := RM) (As := [.int (p), .int (q)]) (rest := []) ⟨hx, hb, hml, hown, hts⟩ (c_M_limitAt l D cI cL cQ d κ m hW.1 hB _ p q) (cwV 2 hts (k_gV tw_475 tw_477 tw_24 tw_41 tw_478) rfl rfl rfl (by decide +kernel) ⟨Nat.le_of_ble_eq_true rfl, Nat.le_of_ble_eq_true rfl⟩) (kPreV hM.1 hK (q := 0) hW.1.1 rfl) rfl rfl hl.1 rfl (lv_room (Nat.le_of_ble_eq_true rfl)) dM_limit_55 ⟨Nat.le_of_ble_eq_true rfl, Nat.le_of_ble_eq_true rfl⟩) (fun r_55 e_55 => ?_)
              subst e_55
              refine lv_istore (lv' := [(5, .int (f_M_limitAt m p q)), (0, .ref (d 0)), (1, .int (p)), (2, .int (q)), (3, .long (v))]) hx hb dM_limit_58 hl (by decide) rfl (fun ls hl => ?_)
              refine lv_iload hx hb dM_limit_60 (lv_at hl 0 rfl) ?_
              refine lv_if_ge (tgt := 77) hx hb dM_limit_62 (by decide) (fun c_62 => ?_) (fun c_62 => ?_)
              · refine lv_iload hx hb dM_limit_77 (lv_at hl 0 rfl) ?_
                refine lv_if_ge (tgt := 89) hx hb dM_limit_79 (by decide) (fun _ => ?_) (fun c => absurd c_62 c)
                refine lv_iload hx hb dM_limit_89 (lv_at hl 0 rfl) ?_
                refine lv_istore (lv' := [(5, .int (f_M_limitAt m p q)), (0, .ref (d 0)), (1, .int (p)), (2, .int (q)), (3, .long (v))]) hx hb dM_limit_91 hl (by decide) rfl (fun ls hl => ?_)
                refine lv_aload_n hx hb dM_limit_93 rfl (lv_at hl 1 rfl) ?_
                refine lv_iload hx hb dM_limit_94 (lv_at hl 0 rfl) ?_
                refine lv_aload_n hx hb dM_limit_96 rfl (lv_at hl 1 rfl) ?_
                refine ka_get (v := .int (nI (m.1 6))) (ci := 4) (C := RM) (T := TM) (N := 26) hx hb hts inM hown hK hM.1 (q := 0) hW.1.1 rfl 17 (by decide) (hts _ tw_401) (fun _ h9 => h9) rfl dM_limit_97 ?_
                refine lv_icmp_ne (tgt := 112) hx hb dM_limit_100 (by decide) (fun c_100 => ?_) (fun c_100 => ?_)
                · refine lv_aload_n hx hb dM_limit_112 rfl (lv_at hl 1 rfl) ?_
                  refine ka_get (v := .int (nI (m.1 6))) (ci := 4) (C := RM) (T := TM) (N := 26) hx hb hts inM hown hK hM.1 (q := 0) hW.1.1 rfl 17 (by decide) (hts _ tw_401) (fun _ h9 => h9) rfl dM_limit_113 ?_
                  refine ka_put (D := D) (ci := 4) (v := .int (nI (m.1 6))) (ty := .int) (C := RM) (T := TM) (N := 26) hx hb hts inM tM tM_ok nM hown hK hM (q := 0) hW.1.1 rfl 17 (by decide) (hts _ tw_401) (fun _ h9 => h9) rfl (by decide +kernel) rfl rfl (Nat.le_of_ble_eq_true rfl) dM_limit_116 (fun H locs hM => ?_)
                  obtain ⟨κ, hM, hW⟩ : ∃ κ', kW D vCl d κ' (kA d κ0 s0.heap.size) s0.heap H locs ∧ MW cI cL κ0 d κ' (mN m 6 (m.1 6)) := ⟨_, hM, mw_limits (m.1 6) hW⟩
                  refine lv_aload_n hx hb dM_limit_119 rfl (lv_at hl 1 rfl) ?_
                  refine ka_get (v := .ref (d 11)) (ci := 4) (C := RM) (T := TM) (N := 26) hx hb hts inM hown hK hM.1 (q := 0) hW.1.1 rfl 18 (by decide) (hts _ tw_402) (fun _ h9 => h9) rfl dM_limit_120 ?_
                  refine lv_iload hx hb dM_limit_123 (lv_at hl 0 rfl) ?_
                  refine lv_iload_n hx hb dM_limit_125 rfl (lv_at hl 2 rfl) ?_
                  refine ka_iast (f := m.2.2.1 6) hx hb hK hM 0 (q := 11) hW.1.2.2.2.2.2.2.2.2.2.2.2.1 rfl (i := f_M_limitAt m p q) (x := p) (limitAt_41 hB (Int32.not_lt.mpr (by assumption))) dM_limit_126 (fun H locs hM => ?_)
                  obtain ⟨κ, hM, hW⟩ : ∃ κ', kW D vCl d κ' (kA d κ0 s0.heap.size) s0.heap H locs ∧ MW cI cL κ0 d κ' (mI (mN m 6 (m.1 6)) 6 (va_up (m.2.2.1 6) (f_M_limitAt m p q).toNatClampNeg p)) := ⟨_, hM, mw_limitFrom _ hW⟩
                  refine lv_aload_n hx hb dM_limit_127 rfl (lv_at hl 1 rfl) ?_
                  refine ka_get (v := .ref (d 12)) (ci := 4) (C := RM) (T := TM) (N := 26) hx hb hts inM hown hK hM.1 (q := 0) hW.1.1 rfl 19 (by decide) (hts _ tw_403) (fun _ h9 => h9) rfl dM_limit_128 ?_
                  refine lv_iload hx hb dM_limit_131 (lv_at hl 0 rfl) ?_
                  refine lv_iload_n hx hb dM_limit_133 rfl (lv_at hl 3 rfl) ?_
                  refine ka_iast (f := m.2.2.1 7) hx hb hK hM 0 (q := 12) hW.1.2.2.2.2.2.2.2.2.2.2.2.2.1 rfl (i := f_M_limitAt m p q) (x := q) (limitAt_41 hB (Int32.not_lt.mpr (by assumption))) dM_limit_134 (fun H locs hM => ?_)
                  obtain ⟨κ, hM, hW⟩ : ∃ κ', kW D vCl d κ' (kA d κ0 s0.heap.size) s0.heap H locs ∧ MW cI cL κ0 d κ' (mI (mI (mN m 6 (m.1 6)) 6 (va_up (m.2.2.1 6) (f_M_limitAt m p q).toNatClampNeg p)) 7 (va_up (m.2.2.1 7) (f_M_limitAt m p q).toNatClampNeg q)) := ⟨_, hM, mw_limitTo _ hW⟩
                  refine lv_aload_n hx hb dM_limit_135 rfl (lv_at hl 1 rfl) ?_
                  refine ka_get (v := .ref (d 13)) (ci := 4) (C := RM) (T := TM) (N := 26) hx hb hts inM hown hK hM.1 (q := 0) hW.1.1 rfl 20 (by decide) (hts _ tw_404) (fun _ h9 => h9) rfl dM_limit_136 ?_
                  refine lv_iload hx hb dM_limit_139 (lv_at hl 0 rfl) ?_
                  refine lv_lload_n hx hb dM_limit_141 rfl (lv_at hl 4 rfl) ?_
                  refine ka_last (f := m.2.2.2 4) hx hb hK hM 1 (q := 13) hW.1.2.2.2.2.2.2.2.2.2.2.2.2.2.1 rfl (i := f_M_limitAt m p q) (x := v) (limitAt_41 hB (Int32.not_lt.mpr (by assumption))) dM_limit_142 (fun H locs hM => ?_)
                  obtain ⟨κ, hM, hW⟩ : ∃ κ', kW D vCl d κ' (kA d κ0 s0.heap.size) s0.heap H locs ∧ MW cI cL κ0 d κ' (mL (mI (mI (mN m 6 (m.1 6)) 6 (va_up (m.2.2.1 6) (f_M_limitAt m p q).toNatClampNeg p)) 7 (va_up (m.2.2.1 7) (f_M_limitAt m p q).toNatClampNeg q)) 4 (va_up (m.2.2.2 4) (f_M_limitAt m p q).toNatClampNeg v)) := ⟨_, hM, mw_limitOf _ hW⟩
                  refine lv_iconst (v := 0) hx hb dM_limit_143 (by decide) ?_
                  have hg : g_M_limit m p q v = (0, mL (mI (mI (mN m 6 (m.1 6)) 6 (va_up (m.2.2.1 6) (f_M_limitAt m p q).toNatClampNeg p)) 7 (va_up (m.2.2.1 7) (f_M_limitAt m p q).toNatClampNeg q)) 4 (va_up (m.2.2.2 4) (f_M_limitAt m p q).toNatClampNeg v)) := by rw [g_M_limit, if_neg c_5, if_neg c_13, if_neg c_18, if_neg c_23, if_neg c_31, if_neg c_45, if_pos c_62, if_neg c_100]
                  exact W.iret (v := 0) hx hb hr (fun t ht h9 => kNi.of hM ht (by rw [hg]; exact ⟨rfl, hW⟩)) hM.2.2.2.2 dM_limit_144
                · refine lv_aload_n hx hb dM_limit_103 rfl (lv_at hl 1 rfl) ?_
                  refine ka_get (v := .int (nI (m.1 6))) (ci := 4) (C := RM) (T := TM) (N := 26) hx hb hts inM hown hK hM.1 (q := 0) hW.1.1 rfl 17 (by decide) (hts _ tw_401) (fun _ h9 => h9) rfl dM_limit_104 ?_
                  refine lv_iconst (v := 1) hx hb dM_limit_107 (by decide) ?_
                  refine lv_iadd hx hb dM_limit_108 ?_
                  refine k_topi (show nI (m.1 6) + 1 = nI ((m.1 6) + 1) from nI_add _ _) ?_
                  refine lv_goto (tgt := 116) hx hb dM_limit_109 (by decide) ?_
                  refine ka_put (D := D) (ci := 4) (v := .int (nI ((m.1 6) + 1))) (ty := .int) (C := RM) (T := TM) (N := 26) hx hb hts inM tM tM_ok nM hown hK hM (q := 0) hW.1.1 rfl 17 (by decide) (hts _ tw_401) (fun _ h9 => h9) rfl (by decide +kernel) rfl rfl (Nat.le_of_ble_eq_true rfl) dM_limit_116 (fun H locs hM => ?_)
                  obtain ⟨κ, hM, hW⟩ : ∃ κ', kW D vCl d κ' (kA d κ0 s0.heap.size) s0.heap H locs ∧ MW cI cL κ0 d κ' (mN m 6 ((m.1 6) + 1)) := ⟨_, hM, mw_limits ((m.1 6) + 1) hW⟩
                  refine lv_aload_n hx hb dM_limit_119 rfl (lv_at hl 1 rfl) ?_
                  refine ka_get (v := .ref (d 11)) (ci := 4) (C := RM) (T := TM) (N := 26) hx hb hts inM hown hK hM.1 (q := 0) hW.1.1 rfl 18 (by decide) (hts _ tw_402) (fun _ h9 => h9) rfl dM_limit_120 ?_
                  refine lv_iload hx hb dM_limit_123 (lv_at hl 0 rfl) ?_
                  refine lv_iload_n hx hb dM_limit_125 rfl (lv_at hl 2 rfl) ?_
                  refine ka_iast (f := m.2.2.1 6) hx hb hK hM 0 (q := 11) hW.1.2.2.2.2.2.2.2.2.2.2.2.1 rfl (i := f_M_limitAt m p q) (x := p) (limitAt_41 hB (Int32.not_lt.mpr (by assumption))) dM_limit_126 (fun H locs hM => ?_)
                  obtain ⟨κ, hM, hW⟩ : ∃ κ', kW D vCl d κ' (kA d κ0 s0.heap.size) s0.heap H locs ∧ MW cI cL κ0 d κ' (mI (mN m 6 ((m.1 6) + 1)) 6 (va_up (m.2.2.1 6) (f_M_limitAt m p q).toNatClampNeg p)) := ⟨_, hM, mw_limitFrom _ hW⟩
                  refine lv_aload_n hx hb dM_limit_127 rfl (lv_at hl 1 rfl) ?_
                  refine ka_get (v := .ref (d 12)) (ci := 4) (C := RM) (T := TM) (N := 26) hx hb hts inM hown hK hM.1 (q := 0) hW.1.1 rfl 19 (by decide) (hts _ tw_403) (fun _ h9 => h9) rfl dM_limit_128 ?_
                  refine lv_iload hx hb dM_limit_131 (lv_at hl 0 rfl) ?_
                  refine lv_iload_n hx hb dM_limit_133 rfl (lv_at hl 3 rfl) ?_
                  refine ka_iast (f := m.2.2.1 7) hx hb hK hM 0 (q := 12) hW.1.2.2.2.2.2.2.2.2.2.2.2.2.1 rfl (i := f_M_limitAt m p q) (x := q) (limitAt_41 hB (Int32.not_lt.mpr (by assumption))) dM_limit_134 (fun H locs hM => ?_)
                  obtain ⟨κ, hM, hW⟩ : ∃ κ', kW D vCl d κ' (kA d κ0 s0.heap.size) s0.heap H locs ∧ MW cI cL κ0 d κ' (mI (mI (mN m 6 ((m.1 6) + 1)) 6 (va_up (m.2.2.1 6) (f_M_limitAt m p q).toNatClampNeg p)) 7 (va_up (m.2.2.1 7) (f_M_limitAt m p q).toNatClampNeg q)) := ⟨_, hM, mw_limitTo _ hW⟩
                  refine lv_aload_n hx hb dM_limit_135 rfl (lv_at hl 1 rfl) ?_
                  refine ka_get (v := .ref (d 13)) (ci := 4) (C := RM) (T := TM) (N := 26) hx hb hts inM hown hK hM.1 (q := 0) hW.1.1 rfl 20 (by decide) (hts _ tw_404) (fun _ h9 => h9) rfl dM_limit_136 ?_
                  refine lv_iload hx hb dM_limit_139 (lv_at hl 0 rfl) ?_
                  refine lv_lload_n hx hb dM_limit_141 rfl (lv_at hl 4 rfl) ?_
                  refine ka_last (f := m.2.2.2 4) hx hb hK hM 1 (q := 13) hW.1.2.2.2.2.2.2.2.2.2.2.2.2.2.1 rfl (i := f_M_limitAt m p q) (x := v) (limitAt_41 hB (Int32.not_lt.mpr (by assumption))) dM_limit_142 (fun H locs hM => ?_)
                  obtain ⟨κ, hM, hW⟩ : ∃ κ', kW D vCl d κ' (kA d κ0 s0.heap.size) s0.heap H locs ∧ MW cI cL κ0 d κ' (mL (mI (mI (mN m 6 ((m.1 6) + 1)) 6 (va_up (m.2.2.1 6) (f_M_limitAt m p q).toNatClampNeg p)) 7 (va_up (m.2.2.1 7) (f_M_limitAt m p q).toNatClampNeg q)) 4 (va_up (m.2.2.2 4) (f_M_limitAt m p q).toNatClampNeg v)) := ⟨_, hM, mw_limitOf _ hW⟩
                  refine lv_iconst (v := 0) hx hb dM_limit_143 (by decide) ?_
                  have hg : g_M_limit m p q v = (0, mL (mI (mI (mN m 6 ((m.1 6) + 1)) 6 (va_up (m.2.2.1 6) (f_M_limitAt m p q).toNatClampNeg p)) 7 (va_up (m.2.2.1 7) (f_M_limitAt m p q).toNatClampNeg q)) 4 (va_up (m.2.2.2 4) (f_M_limitAt m p q).toNatClampNeg v)) := by rw [g_M_limit, if_neg c_5, if_neg c_13, if_neg c_18, if_neg c_23, if_neg c_31, if_neg c_45, if_pos c_62, if_pos c_100]
                  exact W.iret (v := 0) hx hb hr (fun t ht h9 => kNi.of hM ht (by rw [hg]; exact ⟨rfl, hW⟩)) hM.2.2.2.2 dM_limit_144
              · refine lv_aload_n hx hb dM_limit_65 rfl (lv_at hl 1 rfl) ?_
                refine ka_get (v := .int (nI (m.1 6))) (ci := 4) (C := RM) (T := TM) (N := 26) hx hb hts inM hown hK hM.1 (q := 0) hW.1.1 rfl 17 (by decide) (hts _ tw_401) (fun _ h9 => h9) rfl dM_limit_66 ?_
                refine lv_bipush (v := 40) hx hb dM_limit_69 (by decide) ?_
                refine lv_icmp_ne (tgt := 77) hx hb dM_limit_71 (by decide) (fun c_71 => ?_) (fun c_71 => ?_)
                · refine lv_iload hx hb dM_limit_77 (lv_at hl 0 rfl) ?_
                  refine lv_if_ge (tgt := 89) hx hb dM_limit_79 (by decide) (fun c => absurd c c_62) (fun _ => ?_)
                  refine lv_aload_n hx hb dM_limit_82 rfl (lv_at hl 1 rfl) ?_
                  refine ka_get (v := .int (nI (m.1 6))) (ci := 4) (C := RM) (T := TM) (N := 26) hx hb hts inM hown hK hM.1 (q := 0) hW.1.1 rfl 17 (by decide) (hts _ tw_401) (fun _ h9 => h9) rfl dM_limit_83 ?_
                  refine lv_goto (tgt := 91) hx hb dM_limit_86 (by decide) ?_
                  refine lv_istore (lv' := [(5, .int (nI (m.1 6))), (0, .ref (d 0)), (1, .int (p)), (2, .int (q)), (3, .long (v))]) hx hb dM_limit_91 hl (by decide) rfl (fun ls hl => ?_)
                  refine lv_aload_n hx hb dM_limit_93 rfl (lv_at hl 1 rfl) ?_
                  refine lv_iload hx hb dM_limit_94 (lv_at hl 0 rfl) ?_
                  refine lv_aload_n hx hb dM_limit_96 rfl (lv_at hl 1 rfl) ?_
                  refine ka_get (v := .int (nI (m.1 6))) (ci := 4) (C := RM) (T := TM) (N := 26) hx hb hts inM hown hK hM.1 (q := 0) hW.1.1 rfl 17 (by decide) (hts _ tw_401) (fun _ h9 => h9) rfl dM_limit_97 ?_
                  refine lv_icmp_ne (tgt := 112) hx hb dM_limit_100 (by decide) (fun c_100 => ?_) (fun c_100 => ?_)
                  · refine lv_aload_n hx hb dM_limit_112 rfl (lv_at hl 1 rfl) ?_
                    refine ka_get (v := .int (nI (m.1 6))) (ci := 4) (C := RM) (T := TM) (N := 26) hx hb hts inM hown hK hM.1 (q := 0) hW.1.1 rfl 17 (by decide) (hts _ tw_401) (fun _ h9 => h9) rfl dM_limit_113 ?_
                    refine ka_put (D := D) (ci := 4) (v := .int (nI (m.1 6))) (ty := .int) (C := RM) (T := TM) (N := 26) hx hb hts inM tM tM_ok nM hown hK hM (q := 0) hW.1.1 rfl 17 (by decide) (hts _ tw_401) (fun _ h9 => h9) rfl (by decide +kernel) rfl rfl (Nat.le_of_ble_eq_true rfl) dM_limit_116 (fun H locs hM => ?_)
                    obtain ⟨κ, hM, hW⟩ : ∃ κ', kW D vCl d κ' (kA d κ0 s0.heap.size) s0.heap H locs ∧ MW cI cL κ0 d κ' (mN m 6 (m.1 6)) := ⟨_, hM, mw_limits (m.1 6) hW⟩
                    refine lv_aload_n hx hb dM_limit_119 rfl (lv_at hl 1 rfl) ?_
                    refine ka_get (v := .ref (d 11)) (ci := 4) (C := RM) (T := TM) (N := 26) hx hb hts inM hown hK hM.1 (q := 0) hW.1.1 rfl 18 (by decide) (hts _ tw_402) (fun _ h9 => h9) rfl dM_limit_120 ?_
                    refine lv_iload hx hb dM_limit_123 (lv_at hl 0 rfl) ?_
                    refine lv_iload_n hx hb dM_limit_125 rfl (lv_at hl 2 rfl) ?_
                    refine ka_iast (f := m.2.2.1 6) hx hb hK hM 0 (q := 11) hW.1.2.2.2.2.2.2.2.2.2.2.2.1 rfl (i := nI (m.1 6)) (x := p) (vp_in_nI (by omega) (by omega)) dM_limit_126 (fun H locs hM => ?_)
                    obtain ⟨κ, hM, hW⟩ : ∃ κ', kW D vCl d κ' (kA d κ0 s0.heap.size) s0.heap H locs ∧ MW cI cL κ0 d κ' (mI (mN m 6 (m.1 6)) 6 (va_up (m.2.2.1 6) (nI (m.1 6)).toNatClampNeg p)) := ⟨_, hM, mw_limitFrom _ hW⟩
                    refine lv_aload_n hx hb dM_limit_127 rfl (lv_at hl 1 rfl) ?_
                    refine ka_get (v := .ref (d 12)) (ci := 4) (C := RM) (T := TM) (N := 26) hx hb hts inM hown hK hM.1 (q := 0) hW.1.1 rfl 19 (by decide) (hts _ tw_403) (fun _ h9 => h9) rfl dM_limit_128 ?_
                    refine lv_iload hx hb dM_limit_131 (lv_at hl 0 rfl) ?_
                    refine lv_iload_n hx hb dM_limit_133 rfl (lv_at hl 3 rfl) ?_
                    refine ka_iast (f := m.2.2.1 7) hx hb hK hM 0 (q := 12) hW.1.2.2.2.2.2.2.2.2.2.2.2.2.1 rfl (i := nI (m.1 6)) (x := q) (vp_in_nI (by omega) (by omega)) dM_limit_134 (fun H locs hM => ?_)
                    obtain ⟨κ, hM, hW⟩ : ∃ κ', kW D vCl d κ' (kA d κ0 s0.heap.size) s0.heap H locs ∧ MW cI cL κ0 d κ' (mI (mI (mN m 6 (m.1 6)) 6 (va_up (m.2.2.1 6) (nI (m.1 6)).toNatClampNeg p)) 7 (va_up (m.2.2.1 7) (nI (m.1 6)).toNatClampNeg q)) := ⟨_, hM, mw_limitTo _ hW⟩
                    refine lv_aload_n hx hb dM_limit_135 rfl (lv_at hl 1 rfl) ?_
                    refine ka_get (v := .ref (d 13)) (ci := 4) (C := RM) (T := TM) (N := 26) hx hb hts inM hown hK hM.1 (q := 0) hW.1.1 rfl 20 (by decide) (hts _ tw_404) (fun _ h9 => h9) rfl dM_limit_136 ?_
                    refine lv_iload hx hb dM_limit_139 (lv_at hl 0 rfl) ?_
                    refine lv_lload_n hx hb dM_limit_141 rfl (lv_at hl 4 rfl) ?_
                    refine ka_last (f := m.2.2.2 4) hx hb hK hM 1 (q := 13) hW.1.2.2.2.2.2.2.2.2.2.2.2.2.2.1 rfl (i := nI (m.1 6)) (x := v) (vp_in_nI (by omega) (by omega)) dM_limit_142 (fun H locs hM => ?_)
                    obtain ⟨κ, hM, hW⟩ : ∃ κ', kW D vCl d κ' (kA d κ0 s0.heap.size) s0.heap H locs ∧ MW cI cL κ0 d κ' (mL (mI (mI (mN m 6 (m.1 6)) 6 (va_up (m.2.2.1 6) (nI (m.1 6)).toNatClampNeg p)) 7 (va_up (m.2.2.1 7) (nI (m.1 6)).toNatClampNeg q)) 4 (va_up (m.2.2.2 4) (nI (m.1 6)).toNatClampNeg v)) := ⟨_, hM, mw_limitOf _ hW⟩
                    refine lv_iconst (v := 0) hx hb dM_limit_143 (by decide) ?_
                    have hg : g_M_limit m p q v = (0, mL (mI (mI (mN m 6 (m.1 6)) 6 (va_up (m.2.2.1 6) (nI (m.1 6)).toNatClampNeg p)) 7 (va_up (m.2.2.1 7) (nI (m.1 6)).toNatClampNeg q)) 4 (va_up (m.2.2.2 4) (nI (m.1 6)).toNatClampNeg v)) := by rw [g_M_limit, if_neg c_5, if_neg c_13, if_neg c_18, if_neg c_23, if_neg c_31, if_neg c_45, if_neg c_62, if_neg c_71, if_neg c_100]
                    exact W.iret (v := 0) hx hb hr (fun t ht h9 => kNi.of hM ht (by rw [hg]; exact ⟨rfl, hW⟩)) hM.2.2.2.2 dM_limit_144
                  · refine lv_aload_n hx hb dM_limit_103 rfl (lv_at hl 1 rfl) ?_
                    refine ka_get (v := .int (nI (m.1 6))) (ci := 4) (C := RM) (T := TM) (N := 26) hx hb hts inM hown hK hM.1 (q := 0) hW.1.1 rfl 17 (by decide) (hts _ tw_401) (fun _ h9 => h9) rfl dM_limit_104 ?_
                    refine lv_iconst (v := 1) hx hb dM_limit_107 (by decide) ?_
                    refine lv_iadd hx hb dM_limit_108 ?_
                    refine k_topi (show nI (m.1 6) + 1 = nI ((m.1 6) + 1) from nI_add _ _) ?_
                    refine lv_goto (tgt := 116) hx hb dM_limit_109 (by decide) ?_
                    refine ka_put (D := D) (ci := 4) (v := .int (nI ((m.1 6) + 1))) (ty := .int) (C := RM) (T := TM) (N := 26) hx hb hts inM tM tM_ok nM hown hK hM (q := 0) hW.1.1 rfl 17 (by decide) (hts _ tw_401) (fun _ h9 => h9) rfl (by decide +kernel) rfl rfl (Nat.le_of_ble_eq_true rfl) dM_limit_116 (fun H locs hM => ?_)
                    obtain ⟨κ, hM, hW⟩ : ∃ κ', kW D vCl d κ' (kA d κ0 s0.heap.size) s0.heap H locs ∧ MW cI cL κ0 d κ' (mN m 6 ((m.1 6) + 1)) := ⟨_, hM, mw_limits ((m.1 6) + 1) hW⟩
                    refine lv_aload_n hx hb dM_limit_119 rfl (lv_at hl 1 rfl) ?_
                    refine ka_get (v := .ref (d 11)) (ci := 4) (C := RM) (T := TM) (N := 26) hx hb hts inM hown hK hM.1 (q := 0) hW.1.1 rfl 18 (by decide) (hts _ tw_402) (fun _ h9 => h9) rfl dM_limit_120 ?_
                    refine lv_iload hx hb dM_limit_123 (lv_at hl 0 rfl) ?_
                    refine lv_iload_n hx hb dM_limit_125 rfl (lv_at hl 2 rfl) ?_
                    refine ka_iast (f := m.2.2.1 6) hx hb hK hM 0 (q := 11) hW.1.2.2.2.2.2.2.2.2.2.2.2.1 rfl (i := nI (m.1 6)) (x := p) (vp_in_nI (by omega) (by omega)) dM_limit_126 (fun H locs hM => ?_)
                    obtain ⟨κ, hM, hW⟩ : ∃ κ', kW D vCl d κ' (kA d κ0 s0.heap.size) s0.heap H locs ∧ MW cI cL κ0 d κ' (mI (mN m 6 ((m.1 6) + 1)) 6 (va_up (m.2.2.1 6) (nI (m.1 6)).toNatClampNeg p)) := ⟨_, hM, mw_limitFrom _ hW⟩
                    refine lv_aload_n hx hb dM_limit_127 rfl (lv_at hl 1 rfl) ?_
                    refine ka_get (v := .ref (d 12)) (ci := 4) (C := RM) (T := TM) (N := 26) hx hb hts inM hown hK hM.1 (q := 0) hW.1.1 rfl 19 (by decide) (hts _ tw_403) (fun _ h9 => h9) rfl dM_limit_128 ?_
                    refine lv_iload hx hb dM_limit_131 (lv_at hl 0 rfl) ?_
                    refine lv_iload_n hx hb dM_limit_133 rfl (lv_at hl 3 rfl) ?_
                    refine ka_iast (f := m.2.2.1 7) hx hb hK hM 0 (q := 12) hW.1.2.2.2.2.2.2.2.2.2.2.2.2.1 rfl (i := nI (m.1 6)) (x := q) (vp_in_nI (by omega) (by omega)) dM_limit_134 (fun H locs hM => ?_)
                    obtain ⟨κ, hM, hW⟩ : ∃ κ', kW D vCl d κ' (kA d κ0 s0.heap.size) s0.heap H locs ∧ MW cI cL κ0 d κ' (mI (mI (mN m 6 ((m.1 6) + 1)) 6 (va_up (m.2.2.1 6) (nI (m.1 6)).toNatClampNeg p)) 7 (va_up (m.2.2.1 7) (nI (m.1 6)).toNatClampNeg q)) := ⟨_, hM, mw_limitTo _ hW⟩
                    refine lv_aload_n hx hb dM_limit_135 rfl (lv_at hl 1 rfl) ?_
                    refine ka_get (v := .ref (d 13)) (ci := 4) (C := RM) (T := TM) (N := 26) hx hb hts inM hown hK hM.1 (q := 0) hW.1.1 rfl 20 (by decide) (hts _ tw_404) (fun _ h9 => h9) rfl dM_limit_136 ?_
                    refine lv_iload hx hb dM_limit_139 (lv_at hl 0 rfl) ?_
                    refine lv_lload_n hx hb dM_limit_141 rfl (lv_at hl 4 rfl) ?_
                    refine ka_last (f := m.2.2.2 4) hx hb hK hM 1 (q := 13) hW.1.2.2.2.2.2.2.2.2.2.2.2.2.2.1 rfl (i := nI (m.1 6)) (x := v) (vp_in_nI (by omega) (by omega)) dM_limit_142 (fun H locs hM => ?_)
                    obtain ⟨κ, hM, hW⟩ : ∃ κ', kW D vCl d κ' (kA d κ0 s0.heap.size) s0.heap H locs ∧ MW cI cL κ0 d κ' (mL (mI (mI (mN m 6 ((m.1 6) + 1)) 6 (va_up (m.2.2.1 6) (nI (m.1 6)).toNatClampNeg p)) 7 (va_up (m.2.2.1 7) (nI (m.1 6)).toNatClampNeg q)) 4 (va_up (m.2.2.2 4) (nI (m.1 6)).toNatClampNeg v)) := ⟨_, hM, mw_limitOf _ hW⟩
                    refine lv_iconst (v := 0) hx hb dM_limit_143 (by decide) ?_
                    have hg : g_M_limit m p q v = (0, mL (mI (mI (mN m 6 ((m.1 6) + 1)) 6 (va_up (m.2.2.1 6) (nI (m.1 6)).toNatClampNeg p)) 7 (va_up (m.2.2.1 7) (nI (m.1 6)).toNatClampNeg q)) 4 (va_up (m.2.2.2 4) (nI (m.1 6)).toNatClampNeg v)) := by rw [g_M_limit, if_neg c_5, if_neg c_13, if_neg c_18, if_neg c_23, if_neg c_31, if_neg c_45, if_neg c_62, if_neg c_71, if_pos c_100]
                    exact W.iret (v := 0) hx hb hr (fun t ht h9 => kNi.of hM ht (by rw [hg]; exact ⟨rfl, hW⟩)) hM.2.2.2.2 dM_limit_144
                · refine lv_bipush (v := 12) hx hb dM_limit_74 (by decide) ?_
                  have hg : g_M_limit m p q v = (12, m) := by rw [g_M_limit, if_neg c_5, if_neg c_13, if_neg c_18, if_neg c_23, if_neg c_31, if_neg c_45, if_neg c_62, if_pos c_71]
                  exact W.iret (v := 12) hx hb hr (fun t ht h9 => kNi.of hM ht (by rw [hg]; exact ⟨rfl, hW⟩)) hM.2.2.2.2 dM_limit_76
            · refine lv_bipush (v := 9) hx hb dM_limit_49 (by decide) ?_
              have hg : g_M_limit m p q v = (9, m) := by rw [g_M_limit, if_neg c_5, if_neg c_13, if_neg c_18, if_neg c_23, if_neg c_31, if_pos c_45]
              exact W.iret (v := 9) hx hb hr (fun t ht h9 => kNi.of hM ht (by rw [hg]; exact ⟨rfl, hW⟩)) hM.2.2.2.2 dM_limit_51
          · refine lv_bipush (v := 8) hx hb dM_limit_35 (by decide) ?_
            have hg : g_M_limit m p q v = (8, m) := by rw [g_M_limit, if_neg c_5, if_neg c_13, if_neg c_18, if_neg c_23, if_pos c_31]
            exact W.iret (v := 8) hx hb hr (fun t ht h9 => kNi.of hM ht (by rw [hg]; exact ⟨rfl, hW⟩)) hM.2.2.2.2 dM_limit_37

theorem dM_open_0 : decode prog_6_method_28_code 0 = .ok (.aload_n 0, 1) := by decide +kernel
theorem dM_open_1 : decode prog_6_method_28_code 1 = .ok (.iload_n 1, 1) := by decide +kernel
theorem dM_open_2 : decode prog_6_method_28_code 2 = .ok (.iload_n 2, 1) := by decide +kernel
theorem dM_open_3 : decode prog_6_method_28_code 3 = .ok (.invokevirtual 116, 3) := by decide +kernel
theorem dM_open_6 : decode prog_6_method_28_code 6 = .ok (.istore_n 3, 1) := by decide +kernel
theorem dM_open_7 : decode prog_6_method_28_code 7 = .ok (.iload_n 3, 1) := by decide +kernel
theorem dM_open_8 : decode prog_6_method_28_code 8 = .ok (.ifCond .ge 6, 3) := by decide +kernel
theorem dM_open_11 : decode prog_6_method_28_code 11 = .ok (.bipush 8, 2) := by decide +kernel
theorem dM_open_13 : decode prog_6_method_28_code 13 = .ok (.ireturn, 1) := by decide +kernel
theorem dM_open_14 : decode prog_6_method_28_code 14 = .ok (.aload_n 0, 1) := by decide +kernel
theorem dM_open_15 : decode prog_6_method_28_code 15 = .ok (.dup, 1) := by decide +kernel
theorem dM_open_16 : decode prog_6_method_28_code 16 = .ok (.getfield 109, 3) := by decide +kernel
theorem dM_open_19 : decode prog_6_method_28_code 19 = .ok (.iconst 1, 1) := by decide +kernel
theorem dM_open_20 : decode prog_6_method_28_code 20 = .ok (.isub, 1) := by decide +kernel
theorem dM_open_21 : decode prog_6_method_28_code 21 = .ok (.putfield 109, 3) := by decide +kernel
theorem dM_open_24 : decode prog_6_method_28_code 24 = .ok (.aload_n 0, 1) := by decide +kernel
theorem dM_open_25 : decode prog_6_method_28_code 25 = .ok (.getfield 45, 3) := by decide +kernel
theorem dM_open_28 : decode prog_6_method_28_code 28 = .ok (.iload_n 3, 1) := by decide +kernel
theorem dM_open_29 : decode prog_6_method_28_code 29 = .ok (.aload_n 0, 1) := by decide +kernel
theorem dM_open_30 : decode prog_6_method_28_code 30 = .ok (.getfield 45, 3) := by decide +kernel
theorem dM_open_33 : decode prog_6_method_28_code 33 = .ok (.aload_n 0, 1) := by decide +kernel
theorem dM_open_34 : decode prog_6_method_28_code 34 = .ok (.getfield 109, 3) := by decide +kernel
theorem dM_open_37 : decode prog_6_method_28_code 37 = .ok (.iaload, 1) := by decide +kernel
theorem dM_open_38 : decode prog_6_method_28_code 38 = .ok (.iastore, 1) := by decide +kernel
theorem dM_open_39 : decode prog_6_method_28_code 39 = .ok (.aload_n 0, 1) := by decide +kernel
theorem dM_open_40 : decode prog_6_method_28_code 40 = .ok (.getfield 48, 3) := by decide +kernel
theorem dM_open_43 : decode prog_6_method_28_code 43 = .ok (.iload_n 3, 1) := by decide +kernel
theorem dM_open_44 : decode prog_6_method_28_code 44 = .ok (.aload_n 0, 1) := by decide +kernel
theorem dM_open_45 : decode prog_6_method_28_code 45 = .ok (.getfield 48, 3) := by decide +kernel
theorem dM_open_48 : decode prog_6_method_28_code 48 = .ok (.aload_n 0, 1) := by decide +kernel
theorem dM_open_49 : decode prog_6_method_28_code 49 = .ok (.getfield 109, 3) := by decide +kernel
theorem dM_open_52 : decode prog_6_method_28_code 52 = .ok (.iaload, 1) := by decide +kernel
theorem dM_open_53 : decode prog_6_method_28_code 53 = .ok (.iastore, 1) := by decide +kernel
theorem dM_open_54 : decode prog_6_method_28_code 54 = .ok (.aload_n 0, 1) := by decide +kernel
theorem dM_open_55 : decode prog_6_method_28_code 55 = .ok (.getfield 51, 3) := by decide +kernel
theorem dM_open_58 : decode prog_6_method_28_code 58 = .ok (.iload_n 3, 1) := by decide +kernel
theorem dM_open_59 : decode prog_6_method_28_code 59 = .ok (.aload_n 0, 1) := by decide +kernel
theorem dM_open_60 : decode prog_6_method_28_code 60 = .ok (.getfield 51, 3) := by decide +kernel
theorem dM_open_63 : decode prog_6_method_28_code 63 = .ok (.aload_n 0, 1) := by decide +kernel
theorem dM_open_64 : decode prog_6_method_28_code 64 = .ok (.getfield 109, 3) := by decide +kernel
theorem dM_open_67 : decode prog_6_method_28_code 67 = .ok (.laload, 1) := by decide +kernel
theorem dM_open_68 : decode prog_6_method_28_code 68 = .ok (.lastore, 1) := by decide +kernel
theorem dM_open_69 : decode prog_6_method_28_code 69 = .ok (.iconst 0, 1) := by decide +kernel
theorem dM_open_70 : decode prog_6_method_28_code 70 = .ok (.ireturn, 1) := by decide +kernel
def g_M_open (m : MS) (p : Int32) (q : Int32) : Int32 × MS := if 0 ≤ (f_M_limitAt m p q) then (0, mL (mI (mI (mN m 6 ((m.1 6) - 1)) 6 (va_up (m.2.2.1 6) (f_M_limitAt m p q).toNatClampNeg ((m.2.2.1 6) (nI ((m.1 6) - 1)).toNatClampNeg))) 7 (va_up (m.2.2.1 7) (f_M_limitAt m p q).toNatClampNeg ((m.2.2.1 7) (nI ((m.1 6) - 1)).toNatClampNeg))) 4 (va_up (m.2.2.2 4) (f_M_limitAt m p q).toNatClampNeg ((m.2.2.2 4) (nI ((m.1 6) - 1)).toNatClampNeg))) else (8, m)
set_option maxHeartbeats 4000000 in
set_option maxRecDepth 100000 in
theorem c_M_open (l : Launch) (D : va_G) (cI cL cQ : ClassId) (d : Nat → Nat) (κ0 : Nat → Option va_E) (m : MS) (hm : IsM cI cL d κ0 m) (hB : MB m) (sz : Nat) (p : Int32) (q : Int32)  : Met l yM_open wM_open { frames := 1, cells := 0, slots := 0, locals := 24 } (va_Pc [.ref (d 0), .int (p), .int (q)] (kC D vCl (kT cI cL cQ) d κ0 sz)) (kNi D vCl d (kA d κ0 sz) (fun r κ' => r = (g_M_open m p q).1 ∧ MW cI cL κ0 d κ' (g_M_open m p q).2)) 0 0 (kA d κ0 sz) := by
  refine kMet (by decide) (Nat.le_of_ble_eq_true rfl) ?_
  intro p0 e0 s0 m0 below0 meth0 c0 hx hb hr hml hown hlocks hin hts hsz hP hK ls hl
  subst hsz
  have hl : lv_has ls 4 [(0, .ref (d 0)), (1, .int (p)), (2, .int (q))] := hl
  have hB9 := hB
  obtain ⟨hb0, hb1, hb2, hb3, hb4, hb5, hb6, hb7, hb8, hb9, hb10⟩ := hB9
  obtain ⟨κ, hM, hW⟩ : ∃ κ', kW D vCl d κ' (kA d κ0 s0.heap.size) s0.heap s0.heap [] ∧ MW cI cL κ0 d κ' m := ⟨κ0, kW.start hP, ⟨hm, fun _ _ => rfl⟩⟩
  refine lv_aload_n hx hb dM_open_0 rfl (lv_at hl 0 rfl) ?_
  refine lv_iload_n hx hb dM_open_1 rfl (lv_at hl 1 rfl) ?_
  refine lv_iload_n hx hb dM_open_2 rfl (lv_at hl 2 rfl) ?_
  refine vp_callSi (W.runV (C := RM) (As := [.int (p), .int (q)]) (rest := []) ⟨hx, hb, hml, hown, hts⟩ (c_M_limitAt l D cI cL cQ d κ m hW.1 hB _ p q) (cwV 2 hts (k_gV tw_475 tw_477 tw_24 tw_41 tw_478) rfl rfl rfl (by decide +kernel) ⟨Nat.le_of_ble_eq_true rfl, Nat.le_of_ble_eq_true rfl⟩) (kPreV hM.1 hK (q := 0) hW.1.1 rfl) rfl rfl hl.1 rfl (lv_room (Nat.le_of_ble_eq_true rfl)) dM_open_3 ⟨Nat.le_of_ble_eq_true rfl, Nat.le_of_ble_eq_true rfl⟩) (fun r_3 e_3 => ?_)
  subst e_3
  refine lv_istore_n (lv' := [(3, .int (f_M_limitAt m p q)), (0, .ref (d 0)), (1, .int (p)), (2, .int (q))]) hx hb dM_open_6 rfl hl (by decide) rfl (fun ls hl => ?_)
  refine lv_iload_n hx hb dM_open_7 rfl (lv_at hl 0 rfl) ?_
  refine lv_if_ge (tgt := 14) hx hb dM_open_8 (by decide) (fun c_8 => ?_) (fun c_8 => ?_)
  · have hpos : 1 ≤ m.1 6 := limitAt_pos hB c_8
    refine lv_aload_n hx hb dM_open_14 rfl (lv_at hl 1 rfl) ?_
    refine lv_dup hx hb dM_open_15 rfl ?_
    refine ka_get (v := .int (nI (m.1 6))) (ci := 4) (C := RM) (T := TM) (N := 26) hx hb hts inM hown hK hM.1 (q := 0) hW.1.1 rfl 17 (by decide) (hts _ tw_401) (fun _ h9 => h9) rfl dM_open_16 ?_
    refine lv_iconst (v := 1) hx hb dM_open_19 (by decide) ?_
    refine lv_isub hx hb dM_open_20 ?_
    refine k_topi (show nI (m.1 6) - 1 = nI ((m.1 6) - 1) from pk_sub (a := (m.1 6)) (b := 1) (by omega)) ?_
    refine ka_put (D := D) (ci := 4) (v := .int (nI ((m.1 6) - 1))) (ty := .int) (C := RM) (T := TM) (N := 26) hx hb hts inM tM tM_ok nM hown hK hM (q := 0) hW.1.1 rfl 17 (by decide) (hts _ tw_401) (fun _ h9 => h9) rfl (by decide +kernel) rfl rfl (Nat.le_of_ble_eq_true rfl) dM_open_21 (fun H locs hM => ?_)
    obtain ⟨κ, hM, hW⟩ : ∃ κ', kW D vCl d κ' (kA d κ0 s0.heap.size) s0.heap H locs ∧ MW cI cL κ0 d κ' (mN m 6 ((m.1 6) - 1)) := ⟨_, hM, mw_limits ((m.1 6) - 1) hW⟩
    refine lv_aload_n hx hb dM_open_24 rfl (lv_at hl 1 rfl) ?_
    refine ka_get (v := .ref (d 11)) (ci := 4) (C := RM) (T := TM) (N := 26) hx hb hts inM hown hK hM.1 (q := 0) hW.1.1 rfl 18 (by decide) (hts _ tw_402) (fun _ h9 => h9) rfl dM_open_25 ?_
    refine lv_iload_n hx hb dM_open_28 rfl (lv_at hl 0 rfl) ?_
    refine lv_aload_n hx hb dM_open_29 rfl (lv_at hl 1 rfl) ?_
    refine ka_get (v := .ref (d 11)) (ci := 4) (C := RM) (T := TM) (N := 26) hx hb hts inM hown hK hM.1 (q := 0) hW.1.1 rfl 18 (by decide) (hts _ tw_402) (fun _ h9 => h9) rfl dM_open_30 ?_
    refine lv_aload_n hx hb dM_open_33 rfl (lv_at hl 1 rfl) ?_
    refine ka_get (v := .int (nI ((m.1 6) - 1))) (ci := 4) (C := RM) (T := TM) (N := 26) hx hb hts inM hown hK hM.1 (q := 0) hW.1.1 rfl 17 (by decide) (hts _ tw_401) (fun _ h9 => h9) rfl dM_open_34 ?_
    refine ka_iald (f := m.2.2.1 6) hx hb hK hM.1 0 (q := 11) hW.1.2.2.2.2.2.2.2.2.2.2.2.1 rfl (vp_in_nI (by omega) (by omega)) dM_open_37 ?_
    refine ka_iast (f := m.2.2.1 6) hx hb hK hM 0 (q := 11) hW.1.2.2.2.2.2.2.2.2.2.2.2.1 rfl (i := f_M_limitAt m p q) (x := (m.2.2.1 6) (nI ((m.1 6) - 1)).toNatClampNeg) (limitAt_41 hB (Int32.not_lt.mpr (by assumption))) dM_open_38 (fun H locs hM => ?_)
    obtain ⟨κ, hM, hW⟩ : ∃ κ', kW D vCl d κ' (kA d κ0 s0.heap.size) s0.heap H locs ∧ MW cI cL κ0 d κ' (mI (mN m 6 ((m.1 6) - 1)) 6 (va_up (m.2.2.1 6) (f_M_limitAt m p q).toNatClampNeg ((m.2.2.1 6) (nI ((m.1 6) - 1)).toNatClampNeg))) := ⟨_, hM, mw_limitFrom _ hW⟩
    refine lv_aload_n hx hb dM_open_39 rfl (lv_at hl 1 rfl) ?_
    refine ka_get (v := .ref (d 12)) (ci := 4) (C := RM) (T := TM) (N := 26) hx hb hts inM hown hK hM.1 (q := 0) hW.1.1 rfl 19 (by decide) (hts _ tw_403) (fun _ h9 => h9) rfl dM_open_40 ?_
    refine lv_iload_n hx hb dM_open_43 rfl (lv_at hl 0 rfl) ?_
    refine lv_aload_n hx hb dM_open_44 rfl (lv_at hl 1 rfl) ?_
    refine ka_get (v := .ref (d 12)) (ci := 4) (C := RM) (T := TM) (N := 26) hx hb hts inM hown hK hM.1 (q := 0) hW.1.1 rfl 19 (by decide) (hts _ tw_403) (fun _ h9 => h9) rfl dM_open_45 ?_
    refine lv_aload_n hx hb dM_open_48 rfl (lv_at hl 1 rfl) ?_
    refine ka_get (v := .int (nI ((m.1 6) - 1))) (ci := 4) (C := RM) (T := TM) (N := 26) hx hb hts inM hown hK hM.1 (q := 0) hW.1.1 rfl 17 (by decide) (hts _ tw_401) (fun _ h9 => h9) rfl dM_open_49 ?_
    refine ka_iald (f := m.2.2.1 7) hx hb hK hM.1 0 (q := 12) hW.1.2.2.2.2.2.2.2.2.2.2.2.2.1 rfl (vp_in_nI (by omega) (by omega)) dM_open_52 ?_
    refine ka_iast (f := m.2.2.1 7) hx hb hK hM 0 (q := 12) hW.1.2.2.2.2.2.2.2.2.2.2.2.2.1 rfl (i := f_M_limitAt m p q) (x := (m.2.2.1 7) (nI ((m.1 6) - 1)).toNatClampNeg) (limitAt_41 hB (Int32.not_lt.mpr (by assumption))) dM_open_53 (fun H locs hM => ?_)
    obtain ⟨κ, hM, hW⟩ : ∃ κ', kW D vCl d κ' (kA d κ0 s0.heap.size) s0.heap H locs ∧ MW cI cL κ0 d κ' (mI (mI (mN m 6 ((m.1 6) - 1)) 6 (va_up (m.2.2.1 6) (f_M_limitAt m p q).toNatClampNeg ((m.2.2.1 6) (nI ((m.1 6) - 1)).toNatClampNeg))) 7 (va_up (m.2.2.1 7) (f_M_limitAt m p q).toNatClampNeg ((m.2.2.1 7) (nI ((m.1 6) - 1)).toNatClampNeg))) := ⟨_, hM, mw_limitTo _ hW⟩
    refine lv_aload_n hx hb dM_open_54 rfl (lv_at hl 1 rfl) ?_
    refine ka_get (v := .ref (d 13)) (ci := 4) (C := RM) (T := TM) (N := 26) hx hb hts inM hown hK hM.1 (q := 0) hW.1.1 rfl 20 (by decide) (hts _ tw_404) (fun _ h9 => h9) rfl dM_open_55 ?_
    refine lv_iload_n hx hb dM_open_58 rfl (lv_at hl 0 rfl) ?_
    refine lv_aload_n hx hb dM_open_59 rfl (lv_at hl 1 rfl) ?_
    refine ka_get (v := .ref (d 13)) (ci := 4) (C := RM) (T := TM) (N := 26) hx hb hts inM hown hK hM.1 (q := 0) hW.1.1 rfl 20 (by decide) (hts _ tw_404) (fun _ h9 => h9) rfl dM_open_60 ?_
    refine lv_aload_n hx hb dM_open_63 rfl (lv_at hl 1 rfl) ?_
    refine ka_get (v := .int (nI ((m.1 6) - 1))) (ci := 4) (C := RM) (T := TM) (N := 26) hx hb hts inM hown hK hM.1 (q := 0) hW.1.1 rfl 17 (by decide) (hts _ tw_401) (fun _ h9 => h9) rfl dM_open_64 ?_
    refine ka_lald (f := m.2.2.2 4) hx hb hK hM.1 1 (q := 13) hW.1.2.2.2.2.2.2.2.2.2.2.2.2.2.1 rfl (vp_in_nI (by omega) (by omega)) dM_open_67 ?_
    refine ka_last (f := m.2.2.2 4) hx hb hK hM 1 (q := 13) hW.1.2.2.2.2.2.2.2.2.2.2.2.2.2.1 rfl (i := f_M_limitAt m p q) (x := (m.2.2.2 4) (nI ((m.1 6) - 1)).toNatClampNeg) (limitAt_41 hB (Int32.not_lt.mpr (by assumption))) dM_open_68 (fun H locs hM => ?_)
    obtain ⟨κ, hM, hW⟩ : ∃ κ', kW D vCl d κ' (kA d κ0 s0.heap.size) s0.heap H locs ∧ MW cI cL κ0 d κ' (mL (mI (mI (mN m 6 ((m.1 6) - 1)) 6 (va_up (m.2.2.1 6) (f_M_limitAt m p q).toNatClampNeg ((m.2.2.1 6) (nI ((m.1 6) - 1)).toNatClampNeg))) 7 (va_up (m.2.2.1 7) (f_M_limitAt m p q).toNatClampNeg ((m.2.2.1 7) (nI ((m.1 6) - 1)).toNatClampNeg))) 4 (va_up (m.2.2.2 4) (f_M_limitAt m p q).toNatClampNeg ((m.2.2.2 4) (nI ((m.1 6) - 1)).toNatClampNeg))) := ⟨_, hM, mw_limitOf _ hW⟩
    refine lv_iconst (v := 0) hx hb dM_open_69 (by decide) ?_
    have hg : g_M_open m p q = (0, mL (mI (mI (mN m 6 ((m.1 6) - 1)) 6 (va_up (m.2.2.1 6) (f_M_limitAt m p q).toNatClampNeg ((m.2.2.1 6) (nI ((m.1 6) - 1)).toNatClampNeg))) 7 (va_up (m.2.2.1 7) (f_M_limitAt m p q).toNatClampNeg ((m.2.2.1 7) (nI ((m.1 6) - 1)).toNatClampNeg))) 4 (va_up (m.2.2.2 4) (f_M_limitAt m p q).toNatClampNeg ((m.2.2.2 4) (nI ((m.1 6) - 1)).toNatClampNeg))) := by rw [g_M_open, if_pos c_8]
    exact W.iret (v := 0) hx hb hr (fun t ht h9 => kNi.of hM ht (by rw [hg]; exact ⟨rfl, hW⟩)) hM.2.2.2.2 dM_open_70
  · refine lv_bipush (v := 8) hx hb dM_open_11 (by decide) ?_
    have hg : g_M_open m p q = (8, m) := by rw [g_M_open, if_neg c_8]
    exact W.iret (v := 8) hx hb hr (fun t ht h9 => kNi.of hM ht (by rw [hg]; exact ⟨rfl, hW⟩)) hM.2.2.2.2 dM_open_13

theorem dM_leg_0 : decode prog_6_method_30_code 0 = .ok (.aload_n 0, 1) := by decide +kernel
theorem dM_leg_1 : decode prog_6_method_30_code 1 = .ok (.iload_n 1, 1) := by decide +kernel
theorem dM_leg_2 : decode prog_6_method_30_code 2 = .ok (.invokevirtual 138, 3) := by decide +kernel
theorem dM_leg_5 : decode prog_6_method_30_code 5 = .ok (.ifCond .eq 32, 3) := by decide +kernel
theorem dM_leg_8 : decode prog_6_method_30_code 8 = .ok (.aload_n 0, 1) := by decide +kernel
theorem dM_leg_9 : decode prog_6_method_30_code 9 = .ok (.iload_n 2, 1) := by decide +kernel
theorem dM_leg_10 : decode prog_6_method_30_code 10 = .ok (.invokevirtual 138, 3) := by decide +kernel
theorem dM_leg_13 : decode prog_6_method_30_code 13 = .ok (.ifCond .eq 24, 3) := by decide +kernel
theorem dM_leg_16 : decode prog_6_method_30_code 16 = .ok (.iload_n 1, 1) := by decide +kernel
theorem dM_leg_17 : decode prog_6_method_30_code 17 = .ok (.iload_n 2, 1) := by decide +kernel
theorem dM_leg_18 : decode prog_6_method_30_code 18 = .ok (.if_icmp .eq 19, 3) := by decide +kernel
theorem dM_leg_21 : decode prog_6_method_30_code 21 = .ok (.aload_n 0, 1) := by decide +kernel
theorem dM_leg_22 : decode prog_6_method_30_code 22 = .ok (.iload_n 3, 1) := by decide +kernel
theorem dM_leg_23 : decode prog_6_method_30_code 23 = .ok (.invokevirtual 128, 3) := by decide +kernel
theorem dM_leg_26 : decode prog_6_method_30_code 26 = .ok (.ifCond .eq 11, 3) := by decide +kernel
theorem dM_leg_29 : decode prog_6_method_30_code 29 = .ok (.lload 4, 2) := by decide +kernel
theorem dM_leg_31 : decode prog_6_method_30_code 31 = .ok (.invokestatic 141, 3) := by decide +kernel
theorem dM_leg_34 : decode prog_6_method_30_code 34 = .ok (.ifCond .ne 6, 3) := by decide +kernel
theorem dM_leg_37 : decode prog_6_method_30_code 37 = .ok (.bipush 8, 2) := by decide +kernel
theorem dM_leg_39 : decode prog_6_method_30_code 39 = .ok (.ireturn, 1) := by decide +kernel
theorem dM_leg_40 : decode prog_6_method_30_code 40 = .ok (.aload_n 0, 1) := by decide +kernel
theorem dM_leg_41 : decode prog_6_method_30_code 41 = .ok (.getfield 160, 3) := by decide +kernel
theorem dM_leg_44 : decode prog_6_method_30_code 44 = .ok (.iconst 4, 1) := by decide +kernel
theorem dM_leg_45 : decode prog_6_method_30_code 45 = .ok (.if_icmp .ne 6, 3) := by decide +kernel
theorem dM_leg_48 : decode prog_6_method_30_code 48 = .ok (.bipush 12, 2) := by decide +kernel
theorem dM_leg_50 : decode prog_6_method_30_code 50 = .ok (.ireturn, 1) := by decide +kernel
theorem dM_leg_51 : decode prog_6_method_30_code 51 = .ok (.aload_n 0, 1) := by decide +kernel
theorem dM_leg_52 : decode prog_6_method_30_code 52 = .ok (.getfield 54, 3) := by decide +kernel
theorem dM_leg_55 : decode prog_6_method_30_code 55 = .ok (.aload_n 0, 1) := by decide +kernel
theorem dM_leg_56 : decode prog_6_method_30_code 56 = .ok (.getfield 160, 3) := by decide +kernel
theorem dM_leg_59 : decode prog_6_method_30_code 59 = .ok (.iload_n 1, 1) := by decide +kernel
theorem dM_leg_60 : decode prog_6_method_30_code 60 = .ok (.iastore, 1) := by decide +kernel
theorem dM_leg_61 : decode prog_6_method_30_code 61 = .ok (.aload_n 0, 1) := by decide +kernel
theorem dM_leg_62 : decode prog_6_method_30_code 62 = .ok (.getfield 57, 3) := by decide +kernel
theorem dM_leg_65 : decode prog_6_method_30_code 65 = .ok (.aload_n 0, 1) := by decide +kernel
theorem dM_leg_66 : decode prog_6_method_30_code 66 = .ok (.getfield 160, 3) := by decide +kernel
theorem dM_leg_69 : decode prog_6_method_30_code 69 = .ok (.iload_n 2, 1) := by decide +kernel
theorem dM_leg_70 : decode prog_6_method_30_code 70 = .ok (.iastore, 1) := by decide +kernel
theorem dM_leg_71 : decode prog_6_method_30_code 71 = .ok (.aload_n 0, 1) := by decide +kernel
theorem dM_leg_72 : decode prog_6_method_30_code 72 = .ok (.getfield 60, 3) := by decide +kernel
theorem dM_leg_75 : decode prog_6_method_30_code 75 = .ok (.aload_n 0, 1) := by decide +kernel
theorem dM_leg_76 : decode prog_6_method_30_code 76 = .ok (.getfield 160, 3) := by decide +kernel
theorem dM_leg_79 : decode prog_6_method_30_code 79 = .ok (.iload_n 3, 1) := by decide +kernel
theorem dM_leg_80 : decode prog_6_method_30_code 80 = .ok (.iastore, 1) := by decide +kernel
theorem dM_leg_81 : decode prog_6_method_30_code 81 = .ok (.aload_n 0, 1) := by decide +kernel
theorem dM_leg_82 : decode prog_6_method_30_code 82 = .ok (.getfield 63, 3) := by decide +kernel
theorem dM_leg_85 : decode prog_6_method_30_code 85 = .ok (.aload_n 0, 1) := by decide +kernel
theorem dM_leg_86 : decode prog_6_method_30_code 86 = .ok (.getfield 160, 3) := by decide +kernel
theorem dM_leg_89 : decode prog_6_method_30_code 89 = .ok (.lload 4, 2) := by decide +kernel
theorem dM_leg_91 : decode prog_6_method_30_code 91 = .ok (.lastore, 1) := by decide +kernel
theorem dM_leg_92 : decode prog_6_method_30_code 92 = .ok (.aload_n 0, 1) := by decide +kernel
theorem dM_leg_93 : decode prog_6_method_30_code 93 = .ok (.dup, 1) := by decide +kernel
theorem dM_leg_94 : decode prog_6_method_30_code 94 = .ok (.getfield 160, 3) := by decide +kernel
theorem dM_leg_97 : decode prog_6_method_30_code 97 = .ok (.iconst 1, 1) := by decide +kernel
theorem dM_leg_98 : decode prog_6_method_30_code 98 = .ok (.iadd, 1) := by decide +kernel
theorem dM_leg_99 : decode prog_6_method_30_code 99 = .ok (.putfield 160, 3) := by decide +kernel
theorem dM_leg_102 : decode prog_6_method_30_code 102 = .ok (.iconst 0, 1) := by decide +kernel
theorem dM_leg_103 : decode prog_6_method_30_code 103 = .ok (.ireturn, 1) := by decide +kernel
def g_M_leg (m : MS) (fr : Int32) (to : Int32) (a : Int32) (v : Int64) : Int32 × MS := if (f_M_isParticipant m fr) = 0 then (8, m) else (if (f_M_isParticipant m to) = 0 then (8, m) else (if fr = to then (8, m) else (if (f_M_isAsset m a) = 0 then (8, m) else (if (f_M_isAmount v) = 0 then (8, m) else (if (nI (m.1 7)) = 4 then (12, m) else (0, mN (mL (mI (mI (mI m 8 (va_up (m.2.2.1 8) (nI (m.1 7)).toNatClampNeg fr)) 9 (va_up (m.2.2.1 9) (nI (m.1 7)).toNatClampNeg to)) 10 (va_up (m.2.2.1 10) (nI (m.1 7)).toNatClampNeg a)) 5 (va_up (m.2.2.2 5) (nI (m.1 7)).toNatClampNeg v)) 7 ((m.1 7) + 1)))))))
set_option maxHeartbeats 4000000 in
set_option maxRecDepth 100000 in
theorem c_M_leg (l : Launch) (D : va_G) (cI cL cQ : ClassId) (d : Nat → Nat) (κ0 : Nat → Option va_E) (m : MS) (hm : IsM cI cL d κ0 m) (hB : MB m) (sz : Nat) (fr : Int32) (to : Int32) (a : Int32) (v : Int64)  : Met l yM_leg wM_leg { frames := 1, cells := 0, slots := 0, locals := 21 } (va_Pc [.ref (d 0), .int (fr), .int (to), .int (a), .long (v)] (kC D vCl (kT cI cL cQ) d κ0 sz)) (kNi D vCl d (kA d κ0 sz) (fun r κ' => r = (g_M_leg m fr to a v).1 ∧ MW cI cL κ0 d κ' (g_M_leg m fr to a v).2)) 0 0 (kA d κ0 sz) := by
  refine kMet (by decide) (Nat.le_of_ble_eq_true rfl) ?_
  intro p0 e0 s0 m0 below0 meth0 c0 hx hb hr hml hown hlocks hin hts hsz hP hK ls hl
  subst hsz
  have hl : lv_has ls 6 [(0, .ref (d 0)), (1, .int (fr)), (2, .int (to)), (3, .int (a)), (4, .long (v))] := hl
  have hB9 := hB
  obtain ⟨hb0, hb1, hb2, hb3, hb4, hb5, hb6, hb7, hb8, hb9, hb10⟩ := hB9
  obtain ⟨κ, hM, hW⟩ : ∃ κ', kW D vCl d κ' (kA d κ0 s0.heap.size) s0.heap s0.heap [] ∧ MW cI cL κ0 d κ' m := ⟨κ0, kW.start hP, ⟨hm, fun _ _ => rfl⟩⟩
  refine lv_aload_n hx hb dM_leg_0 rfl (lv_at hl 0 rfl) ?_
  refine lv_iload_n hx hb dM_leg_1 rfl (lv_at hl 1 rfl) ?_
  refine vp_callSi (W.runV (C := RM) (As := [.int (fr)]) (rest := []) ⟨hx, hb, hml, hown, hts⟩ (c_M_isParticipant l D cI cL cQ d κ m hW.1 hB _ fr) (cwV 1 hts (k_gV tw_529 tw_531 tw_31 tw_41 tw_532) rfl rfl rfl (by decide +kernel) ⟨Nat.le_of_ble_eq_true rfl, Nat.le_of_ble_eq_true rfl⟩) (kPreV hM.1 hK (q := 0) hW.1.1 rfl) rfl rfl hl.1 rfl (lv_room (Nat.le_of_ble_eq_true rfl)) dM_leg_2 ⟨Nat.le_of_ble_eq_true rfl, Nat.le_of_ble_eq_true rfl⟩) (fun r_2 e_2 => ?_)
  subst e_2
  refine lv_if_eq (tgt := 37) hx hb dM_leg_5 (by decide) (fun c_5 => ?_) (fun c_5 => ?_)
  · refine lv_bipush (v := 8) hx hb dM_leg_37 (by decide) ?_
    have hg : g_M_leg m fr to a v = (8, m) := by rw [g_M_leg, if_pos c_5]
    exact W.iret (v := 8) hx hb hr (fun t ht h9 => kNi.of hM ht (by rw [hg]; exact ⟨rfl, hW⟩)) hM.2.2.2.2 dM_leg_39
  · refine lv_aload_n hx hb dM_leg_8 rfl (lv_at hl 0 rfl) ?_
    refine lv_iload_n hx hb dM_leg_9 rfl (lv_at hl 2 rfl) ?_
    refine vp_callSi (W.runV (C := RM) (As := [.int (to)]) (rest := []) ⟨hx, hb, hml, hown, hts⟩ (c_M_isParticipant l D cI cL cQ d κ m hW.1 hB _ to) (cwV 1 hts (k_gV tw_529 tw_531 tw_31 tw_41 tw_532) rfl rfl rfl (by decide +kernel) ⟨Nat.le_of_ble_eq_true rfl, Nat.le_of_ble_eq_true rfl⟩) (kPreV hM.1 hK (q := 0) hW.1.1 rfl) rfl rfl hl.1 rfl (lv_room (Nat.le_of_ble_eq_true rfl)) dM_leg_10 ⟨Nat.le_of_ble_eq_true rfl, Nat.le_of_ble_eq_true rfl⟩) (fun r_10 e_10 => ?_)
    subst e_10
    refine lv_if_eq (tgt := 37) hx hb dM_leg_13 (by decide) (fun c_13 => ?_) (fun c_13 => ?_)
    · refine lv_bipush (v := 8) hx hb dM_leg_37 (by decide) ?_
      have hg : g_M_leg m fr to a v = (8, m) := by rw [g_M_leg, if_neg c_5, if_pos c_13]
      exact W.iret (v := 8) hx hb hr (fun t ht h9 => kNi.of hM ht (by rw [hg]; exact ⟨rfl, hW⟩)) hM.2.2.2.2 dM_leg_39
    · refine lv_iload_n hx hb dM_leg_16 rfl (lv_at hl 1 rfl) ?_
      refine lv_iload_n hx hb dM_leg_17 rfl (lv_at hl 2 rfl) ?_
      refine lv_icmp_eq (tgt := 37) hx hb dM_leg_18 (by decide) (fun c_18 => ?_) (fun c_18 => ?_)
      · refine lv_bipush (v := 8) hx hb dM_leg_37 (by decide) ?_
        have hg : g_M_leg m fr to a v = (8, m) := by rw [g_M_leg, if_neg c_5, if_neg c_13, if_pos c_18]
        exact W.iret (v := 8) hx hb hr (fun t ht h9 => kNi.of hM ht (by rw [hg]; exact ⟨rfl, hW⟩)) hM.2.2.2.2 dM_leg_39
      · refine lv_aload_n hx hb dM_leg_21 rfl (lv_at hl 0 rfl) ?_
        refine lv_iload_n hx hb dM_leg_22 rfl (lv_at hl 3 rfl) ?_
        refine vp_callSi (W.runV (C := RM) (As := [.int (a)]) (rest := []) ⟨hx, hb, hml, hown, hts⟩ (c_M_isAsset l D cI cL cQ d κ m hW.1 hB _ a) (cwV 1 hts (k_gV tw_495 tw_497 tw_25 tw_41 tw_498) rfl rfl rfl (by decide +kernel) ⟨Nat.le_of_ble_eq_true rfl, Nat.le_of_ble_eq_true rfl⟩) (kPreV hM.1 hK (q := 0) hW.1.1 rfl) rfl rfl hl.1 rfl (lv_room (Nat.le_of_ble_eq_true rfl)) dM_leg_23 ⟨Nat.le_of_ble_eq_true rfl, Nat.le_of_ble_eq_true rfl⟩) (fun r_23 e_23 => ?_)
        subst e_23
        refine lv_if_eq (tgt := 37) hx hb dM_leg_26 (by decide) (fun c_26 => ?_) (fun c_26 => ?_)
        · refine lv_bipush (v := 8) hx hb dM_leg_37 (by decide) ?_
          have hg : g_M_leg m fr to a v = (8, m) := by rw [g_M_leg, if_neg c_5, if_neg c_13, if_neg c_18, if_pos c_26]
          exact W.iret (v := 8) hx hb hr (fun t ht h9 => kNi.of hM ht (by rw [hg]; exact ⟨rfl, hW⟩)) hM.2.2.2.2 dM_leg_39
        · refine lv_lload hx hb dM_leg_29 (lv_at hl 4 rfl) ?_
          refine vp_callSi (W.runS (As := [.long (v)]) (rest := []) ⟨hx, hb, hml, hown, hts⟩ (c_M_isAmount l D cI cL cQ d κ _ v) (cwS 1 hts (k_gS tw_533 tw_534 tw_41 tw_535) rfl rfl rfl (by decide +kernel) ⟨Nat.le_of_ble_eq_true rfl, Nat.le_of_ble_eq_true rfl⟩) (kPreS hM.1 hK) rfl rfl hl.1 rfl (lv_room (Nat.le_of_ble_eq_true rfl)) dM_leg_31 ⟨Nat.le_of_ble_eq_true rfl, Nat.le_of_ble_eq_true rfl⟩) (fun r_31 e_31 => ?_)
          subst e_31
          refine lv_if_ne (tgt := 40) hx hb dM_leg_34 (by decide) (fun c_34 => ?_) (fun c_34 => ?_)
          · refine lv_aload_n hx hb dM_leg_40 rfl (lv_at hl 0 rfl) ?_
            refine ka_get (v := .int (nI (m.1 7))) (ci := 4) (C := RM) (T := TM) (N := 26) hx hb hts inM hown hK hM.1 (q := 0) hW.1.1 rfl 21 (by decide) (hts _ tw_405) (fun _ h9 => h9) rfl dM_leg_41 ?_
            refine lv_iconst (v := 4) hx hb dM_leg_44 (by decide) ?_
            refine lv_icmp_ne (tgt := 51) hx hb dM_leg_45 (by decide) (fun c_45 => ?_) (fun c_45 => ?_)
            · have hlt : m.1 7 < 4 := by
                rcases Nat.lt_or_ge (m.1 7) 4 with q | q
                · exact q
                · exact absurd (show nI (m.1 7) = 4 by rw [show m.1 7 = 4 by omega]; rfl) c_45
              refine lv_aload_n hx hb dM_leg_51 rfl (lv_at hl 0 rfl) ?_
              refine ka_get (v := .ref (d 14)) (ci := 4) (C := RM) (T := TM) (N := 26) hx hb hts inM hown hK hM.1 (q := 0) hW.1.1 rfl 22 (by decide) (hts _ tw_406) (fun _ h9 => h9) rfl dM_leg_52 ?_
              refine lv_aload_n hx hb dM_leg_55 rfl (lv_at hl 0 rfl) ?_
              refine ka_get (v := .int (nI (m.1 7))) (ci := 4) (C := RM) (T := TM) (N := 26) hx hb hts inM hown hK hM.1 (q := 0) hW.1.1 rfl 21 (by decide) (hts _ tw_405) (fun _ h9 => h9) rfl dM_leg_56 ?_
              refine lv_iload_n hx hb dM_leg_59 rfl (lv_at hl 1 rfl) ?_
              refine ka_iast (f := m.2.2.1 8) hx hb hK hM 0 (q := 14) hW.1.2.2.2.2.2.2.2.2.2.2.2.2.2.2.1 rfl (i := nI (m.1 7)) (x := fr) (by first | assumption | exact vp_in_nI (by omega) (by omega)) dM_leg_60 (fun H locs hM => ?_)
              obtain ⟨κ, hM, hW⟩ : ∃ κ', kW D vCl d κ' (kA d κ0 s0.heap.size) s0.heap H locs ∧ MW cI cL κ0 d κ' (mI m 8 (va_up (m.2.2.1 8) (nI (m.1 7)).toNatClampNeg fr)) := ⟨_, hM, mw_legFrom _ hW⟩
              refine lv_aload_n hx hb dM_leg_61 rfl (lv_at hl 0 rfl) ?_
              refine ka_get (v := .ref (d 15)) (ci := 4) (C := RM) (T := TM) (N := 26) hx hb hts inM hown hK hM.1 (q := 0) hW.1.1 rfl 23 (by decide) (hts _ tw_407) (fun _ h9 => h9) rfl dM_leg_62 ?_
              refine lv_aload_n hx hb dM_leg_65 rfl (lv_at hl 0 rfl) ?_
              refine ka_get (v := .int (nI (m.1 7))) (ci := 4) (C := RM) (T := TM) (N := 26) hx hb hts inM hown hK hM.1 (q := 0) hW.1.1 rfl 21 (by decide) (hts _ tw_405) (fun _ h9 => h9) rfl dM_leg_66 ?_
              refine lv_iload_n hx hb dM_leg_69 rfl (lv_at hl 2 rfl) ?_
              refine ka_iast (f := m.2.2.1 9) hx hb hK hM 0 (q := 15) hW.1.2.2.2.2.2.2.2.2.2.2.2.2.2.2.2.1 rfl (i := nI (m.1 7)) (x := to) (by first | assumption | exact vp_in_nI (by omega) (by omega)) dM_leg_70 (fun H locs hM => ?_)
              obtain ⟨κ, hM, hW⟩ : ∃ κ', kW D vCl d κ' (kA d κ0 s0.heap.size) s0.heap H locs ∧ MW cI cL κ0 d κ' (mI (mI m 8 (va_up (m.2.2.1 8) (nI (m.1 7)).toNatClampNeg fr)) 9 (va_up (m.2.2.1 9) (nI (m.1 7)).toNatClampNeg to)) := ⟨_, hM, mw_legTo _ hW⟩
              refine lv_aload_n hx hb dM_leg_71 rfl (lv_at hl 0 rfl) ?_
              refine ka_get (v := .ref (d 16)) (ci := 4) (C := RM) (T := TM) (N := 26) hx hb hts inM hown hK hM.1 (q := 0) hW.1.1 rfl 24 (by decide) (hts _ tw_408) (fun _ h9 => h9) rfl dM_leg_72 ?_
              refine lv_aload_n hx hb dM_leg_75 rfl (lv_at hl 0 rfl) ?_
              refine ka_get (v := .int (nI (m.1 7))) (ci := 4) (C := RM) (T := TM) (N := 26) hx hb hts inM hown hK hM.1 (q := 0) hW.1.1 rfl 21 (by decide) (hts _ tw_405) (fun _ h9 => h9) rfl dM_leg_76 ?_
              refine lv_iload_n hx hb dM_leg_79 rfl (lv_at hl 3 rfl) ?_
              refine ka_iast (f := m.2.2.1 10) hx hb hK hM 0 (q := 16) hW.1.2.2.2.2.2.2.2.2.2.2.2.2.2.2.2.2.1 rfl (i := nI (m.1 7)) (x := a) (by first | assumption | exact vp_in_nI (by omega) (by omega)) dM_leg_80 (fun H locs hM => ?_)
              obtain ⟨κ, hM, hW⟩ : ∃ κ', kW D vCl d κ' (kA d κ0 s0.heap.size) s0.heap H locs ∧ MW cI cL κ0 d κ' (mI (mI (mI m 8 (va_up (m.2.2.1 8) (nI (m.1 7)).toNatClampNeg fr)) 9 (va_up (m.2.2.1 9) (nI (m.1 7)).toNatClampNeg to)) 10 (va_up (m.2.2.1 10) (nI (m.1 7)).toNatClampNeg a)) := ⟨_, hM, mw_legAsset _ hW⟩
              refine lv_aload_n hx hb dM_leg_81 rfl (lv_at hl 0 rfl) ?_
              refine ka_get (v := .ref (d 17)) (ci := 4) (C := RM) (T := TM) (N := 26) hx hb hts inM hown hK hM.1 (q := 0) hW.1.1 rfl 25 (by decide) (hts _ tw_409) (fun _ h9 => h9) rfl dM_leg_82 ?_
              refine lv_aload_n hx hb dM_leg_85 rfl (lv_at hl 0 rfl) ?_
              refine ka_get (v := .int (nI (m.1 7))) (ci := 4) (C := RM) (T := TM) (N := 26) hx hb hts inM hown hK hM.1 (q := 0) hW.1.1 rfl 21 (by decide) (hts _ tw_405) (fun _ h9 => h9) rfl dM_leg_86 ?_
              refine lv_lload hx hb dM_leg_89 (lv_at hl 4 rfl) ?_
              refine ka_last (f := m.2.2.2 5) hx hb hK hM 1 (q := 17) hW.1.2.2.2.2.2.2.2.2.2.2.2.2.2.2.2.2.2 rfl (i := nI (m.1 7)) (x := v) (by first | assumption | exact vp_in_nI (by omega) (by omega)) dM_leg_91 (fun H locs hM => ?_)
              obtain ⟨κ, hM, hW⟩ : ∃ κ', kW D vCl d κ' (kA d κ0 s0.heap.size) s0.heap H locs ∧ MW cI cL κ0 d κ' (mL (mI (mI (mI m 8 (va_up (m.2.2.1 8) (nI (m.1 7)).toNatClampNeg fr)) 9 (va_up (m.2.2.1 9) (nI (m.1 7)).toNatClampNeg to)) 10 (va_up (m.2.2.1 10) (nI (m.1 7)).toNatClampNeg a)) 5 (va_up (m.2.2.2 5) (nI (m.1 7)).toNatClampNeg v)) := ⟨_, hM, mw_legBy _ hW⟩
              refine lv_aload_n hx hb dM_leg_92 rfl (lv_at hl 0 rfl) ?_
              refine lv_dup hx hb dM_leg_93 rfl ?_
              refine ka_get (v := .int (nI (m.1 7))) (ci := 4) (C := RM) (T := TM) (N := 26) hx hb hts inM hown hK hM.1 (q := 0) hW.1.1 rfl 21 (by decide) (hts _ tw_405) (fun _ h9 => h9) rfl dM_leg_94 ?_
              refine lv_iconst (v := 1) hx hb dM_leg_97 (by decide) ?_
              refine lv_iadd hx hb dM_leg_98 ?_
              refine k_topi (show nI (m.1 7) + 1 = nI ((m.1 7) + 1) from nI_add _ _) ?_
              refine ka_put (D := D) (ci := 4) (v := .int (nI ((m.1 7) + 1))) (ty := .int) (C := RM) (T := TM) (N := 26) hx hb hts inM tM tM_ok nM hown hK hM (q := 0) hW.1.1 rfl 21 (by decide) (hts _ tw_405) (fun _ h9 => h9) rfl (by decide +kernel) rfl rfl (Nat.le_of_ble_eq_true rfl) dM_leg_99 (fun H locs hM => ?_)
              obtain ⟨κ, hM, hW⟩ : ∃ κ', kW D vCl d κ' (kA d κ0 s0.heap.size) s0.heap H locs ∧ MW cI cL κ0 d κ' (mN (mL (mI (mI (mI m 8 (va_up (m.2.2.1 8) (nI (m.1 7)).toNatClampNeg fr)) 9 (va_up (m.2.2.1 9) (nI (m.1 7)).toNatClampNeg to)) 10 (va_up (m.2.2.1 10) (nI (m.1 7)).toNatClampNeg a)) 5 (va_up (m.2.2.2 5) (nI (m.1 7)).toNatClampNeg v)) 7 ((m.1 7) + 1)) := ⟨_, hM, mw_legs ((m.1 7) + 1) hW⟩
              refine lv_iconst (v := 0) hx hb dM_leg_102 (by decide) ?_
              have hg : g_M_leg m fr to a v = (0, mN (mL (mI (mI (mI m 8 (va_up (m.2.2.1 8) (nI (m.1 7)).toNatClampNeg fr)) 9 (va_up (m.2.2.1 9) (nI (m.1 7)).toNatClampNeg to)) 10 (va_up (m.2.2.1 10) (nI (m.1 7)).toNatClampNeg a)) 5 (va_up (m.2.2.2 5) (nI (m.1 7)).toNatClampNeg v)) 7 ((m.1 7) + 1)) := by rw [g_M_leg, if_neg c_5, if_neg c_13, if_neg c_18, if_neg c_26, if_neg c_34, if_neg c_45]
              exact W.iret (v := 0) hx hb hr (fun t ht h9 => kNi.of hM ht (by rw [hg]; exact ⟨rfl, hW⟩)) hM.2.2.2.2 dM_leg_103
            · refine lv_bipush (v := 12) hx hb dM_leg_48 (by decide) ?_
              have hg : g_M_leg m fr to a v = (12, m) := by rw [g_M_leg, if_neg c_5, if_neg c_13, if_neg c_18, if_neg c_26, if_neg c_34, if_pos c_45]
              exact W.iret (v := 12) hx hb hr (fun t ht h9 => kNi.of hM ht (by rw [hg]; exact ⟨rfl, hW⟩)) hM.2.2.2.2 dM_leg_50
          · refine lv_bipush (v := 8) hx hb dM_leg_37 (by decide) ?_
            have hg : g_M_leg m fr to a v = (8, m) := by rw [g_M_leg, if_neg c_5, if_neg c_13, if_neg c_18, if_neg c_26, if_pos c_34]
            exact W.iret (v := 8) hx hb hr (fun t ht h9 => kNi.of hM ht (by rw [hg]; exact ⟨rfl, hW⟩)) hM.2.2.2.2 dM_leg_39
