theorem dM_day_0 : decode prog_6_method_29_code 0 = .ok (.aload_n 0, 1) := by decide +kernel
theorem dM_day_1 : decode prog_6_method_29_code 1 = .ok (.iconst 0, 1) := by decide +kernel
theorem dM_day_2 : decode prog_6_method_29_code 2 = .ok (.putfield 78, 3) := by decide +kernel
theorem dM_day_5 : decode prog_6_method_29_code 5 = .ok (.return_, 1) := by decide +kernel
def g_M_day (m : MS) : MS := mN m 4 0
set_option maxHeartbeats 4000000 in
set_option maxRecDepth 100000 in
theorem c_M_day (l : Launch) (D : va_G) (cI cL cQ : ClassId) (d : Nat → Nat) (κ0 : Nat → Option va_E) (m : MS) (hm : IsM cI cL d κ0 m) (hB : MB m) (sz : Nat)   : Met l yM_day wM_day { frames := 0, cells := 0, slots := 0, locals := 0 } (va_Pc [.ref (d 0)] (kC D vCl (kT cI cL cQ) d κ0 sz)) (kNv D vCl d (kA d κ0 sz) (fun κ' => MW cI cL κ0 d κ' (g_M_day m))) 0 0 (kA d κ0 sz) := by
  refine kMet (by decide) (Nat.le_of_ble_eq_true rfl) ?_
  intro p0 e0 s0 m0 below0 meth0 c0 hx hb hr hml hown hlocks hin hts hsz hP hK ls hl
  subst hsz
  have hl : lv_has ls 1 [(0, .ref (d 0))] := hl
  have hB9 := hB
  obtain ⟨hb0, hb1, hb2, hb3, hb4, hb5, hb6, hb7, hb8, hb9, hb10⟩ := hB9
  obtain ⟨κ, hM, hW⟩ : ∃ κ', kW D vCl d κ' (kA d κ0 s0.heap.size) s0.heap s0.heap [] ∧ MW cI cL κ0 d κ' m := ⟨κ0, kW.start hP, ⟨hm, fun _ _ => rfl⟩⟩
  refine lv_aload_n hx hb dM_day_0 rfl (lv_at hl 0 rfl) ?_
  refine lv_iconst (v := 0) hx hb dM_day_1 (by decide) ?_
  refine ka_put (D := D) (ci := 4) (v := .int (0)) (ty := .int) (C := RM) (T := TM) (N := 26) hx hb hts inM tM tM_ok nM hown hK hM (q := 0) hW.1.1 rfl 10 (by decide) (hts _ tw_394) (fun _ h9 => h9) rfl (by decide +kernel) rfl rfl (Nat.le_of_ble_eq_true rfl) dM_day_2 (fun H locs hM => ?_)
  obtain ⟨κ, hM, hW⟩ : ∃ κ', kW D vCl d κ' (kA d κ0 s0.heap.size) s0.heap H locs ∧ MW cI cL κ0 d κ' (mN m 4 0) := ⟨_, hM, mw_payments 0 hW⟩
  have hg : g_M_day m = mN m 4 0 := by rw [g_M_day]
  exact W.vret hx hb hr (fun t ht h9 => kNv.of hM ht (by rw [hg]; exact hW)) hM.2.2.2.2 dM_day_5

theorem dM_drop_0 : decode prog_6_method_31_code 0 = .ok (.aload_n 0, 1) := by decide +kernel
theorem dM_drop_1 : decode prog_6_method_31_code 1 = .ok (.getfield 160, 3) := by decide +kernel
theorem dM_drop_4 : decode prog_6_method_31_code 4 = .ok (.istore_n 1, 1) := by decide +kernel
theorem dM_drop_5 : decode prog_6_method_31_code 5 = .ok (.aload_n 0, 1) := by decide +kernel
theorem dM_drop_6 : decode prog_6_method_31_code 6 = .ok (.iconst 0, 1) := by decide +kernel
theorem dM_drop_7 : decode prog_6_method_31_code 7 = .ok (.putfield 160, 3) := by decide +kernel
theorem dM_drop_10 : decode prog_6_method_31_code 10 = .ok (.iload_n 1, 1) := by decide +kernel
theorem dM_drop_11 : decode prog_6_method_31_code 11 = .ok (.ireturn, 1) := by decide +kernel
def g_M_drop (m : MS) : Int32 × MS := (nI (m.1 7), mN m 7 0)
set_option maxHeartbeats 4000000 in
set_option maxRecDepth 100000 in
theorem c_M_drop (l : Launch) (D : va_G) (cI cL cQ : ClassId) (d : Nat → Nat) (κ0 : Nat → Option va_E) (m : MS) (hm : IsM cI cL d κ0 m) (hB : MB m) (sz : Nat)   : Met l yM_drop wM_drop { frames := 0, cells := 0, slots := 0, locals := 0 } (va_Pc [.ref (d 0)] (kC D vCl (kT cI cL cQ) d κ0 sz)) (kNi D vCl d (kA d κ0 sz) (fun r κ' => r = (g_M_drop m).1 ∧ MW cI cL κ0 d κ' (g_M_drop m).2)) 0 0 (kA d κ0 sz) := by
  refine kMet (by decide) (Nat.le_of_ble_eq_true rfl) ?_
  intro p0 e0 s0 m0 below0 meth0 c0 hx hb hr hml hown hlocks hin hts hsz hP hK ls hl
  subst hsz
  have hl : lv_has ls 2 [(0, .ref (d 0))] := hl
  have hB9 := hB
  obtain ⟨hb0, hb1, hb2, hb3, hb4, hb5, hb6, hb7, hb8, hb9, hb10⟩ := hB9
  obtain ⟨κ, hM, hW⟩ : ∃ κ', kW D vCl d κ' (kA d κ0 s0.heap.size) s0.heap s0.heap [] ∧ MW cI cL κ0 d κ' m := ⟨κ0, kW.start hP, ⟨hm, fun _ _ => rfl⟩⟩
  refine lv_aload_n hx hb dM_drop_0 rfl (lv_at hl 0 rfl) ?_
  refine ka_get (v := .int (nI (m.1 7))) (ci := 4) (C := RM) (T := TM) (N := 26) hx hb hts inM hown hK hM.1 (q := 0) hW.1.1 rfl 21 (by decide) (hts _ tw_405) (fun _ h9 => h9) rfl dM_drop_1 ?_
  refine lv_istore_n (lv' := [(1, .int (nI (m.1 7))), (0, .ref (d 0))]) hx hb dM_drop_4 rfl hl (by decide) rfl (fun ls hl => ?_)
  refine lv_aload_n hx hb dM_drop_5 rfl (lv_at hl 1 rfl) ?_
  refine lv_iconst (v := 0) hx hb dM_drop_6 (by decide) ?_
  refine ka_put (D := D) (ci := 4) (v := .int (0)) (ty := .int) (C := RM) (T := TM) (N := 26) hx hb hts inM tM tM_ok nM hown hK hM (q := 0) hW.1.1 rfl 21 (by decide) (hts _ tw_405) (fun _ h9 => h9) rfl (by decide +kernel) rfl rfl (Nat.le_of_ble_eq_true rfl) dM_drop_7 (fun H locs hM => ?_)
  obtain ⟨κ, hM, hW⟩ : ∃ κ', kW D vCl d κ' (kA d κ0 s0.heap.size) s0.heap H locs ∧ MW cI cL κ0 d κ' (mN m 7 0) := ⟨_, hM, mw_legs 0 hW⟩
  refine lv_iload_n hx hb dM_drop_10 rfl (lv_at hl 0 rfl) ?_
  have hg : g_M_drop m = (nI (m.1 7), mN m 7 0) := by rw [g_M_drop]
  exact W.iret (v := nI (m.1 7)) hx hb hr (fun t ht h9 => kNi.of hM ht (by rw [hg]; exact ⟨rfl, hW⟩)) hM.2.2.2.2 dM_drop_11

theorem dM_move_0 : decode prog_6_method_21_code 0 = .ok (.aload_n 0, 1) := by decide +kernel
theorem dM_move_1 : decode prog_6_method_21_code 1 = .ok (.getfield 24, 3) := by decide +kernel
theorem dM_move_4 : decode prog_6_method_21_code 4 = .ok (.aload_n 0, 1) := by decide +kernel
theorem dM_move_5 : decode prog_6_method_21_code 5 = .ok (.getfield 72, 3) := by decide +kernel
theorem dM_move_8 : decode prog_6_method_21_code 8 = .ok (.iload_n 1, 1) := by decide +kernel
theorem dM_move_9 : decode prog_6_method_21_code 9 = .ok (.aload_n 0, 1) := by decide +kernel
theorem dM_move_10 : decode prog_6_method_21_code 10 = .ok (.getfield 69, 3) := by decide +kernel
theorem dM_move_13 : decode prog_6_method_21_code 13 = .ok (.imul, 1) := by decide +kernel
theorem dM_move_14 : decode prog_6_method_21_code 14 = .ok (.iload_n 2, 1) := by decide +kernel
theorem dM_move_15 : decode prog_6_method_21_code 15 = .ok (.iadd, 1) := by decide +kernel
theorem dM_move_16 : decode prog_6_method_21_code 16 = .ok (.iastore, 1) := by decide +kernel
theorem dM_move_17 : decode prog_6_method_21_code 17 = .ok (.aload_n 0, 1) := by decide +kernel
theorem dM_move_18 : decode prog_6_method_21_code 18 = .ok (.getfield 27, 3) := by decide +kernel
theorem dM_move_21 : decode prog_6_method_21_code 21 = .ok (.aload_n 0, 1) := by decide +kernel
theorem dM_move_22 : decode prog_6_method_21_code 22 = .ok (.getfield 72, 3) := by decide +kernel
theorem dM_move_25 : decode prog_6_method_21_code 25 = .ok (.lload_n 3, 1) := by decide +kernel
theorem dM_move_26 : decode prog_6_method_21_code 26 = .ok (.lastore, 1) := by decide +kernel
theorem dM_move_27 : decode prog_6_method_21_code 27 = .ok (.aload_n 0, 1) := by decide +kernel
theorem dM_move_28 : decode prog_6_method_21_code 28 = .ok (.dup, 1) := by decide +kernel
theorem dM_move_29 : decode prog_6_method_21_code 29 = .ok (.getfield 72, 3) := by decide +kernel
theorem dM_move_32 : decode prog_6_method_21_code 32 = .ok (.iconst 1, 1) := by decide +kernel
theorem dM_move_33 : decode prog_6_method_21_code 33 = .ok (.iadd, 1) := by decide +kernel
theorem dM_move_34 : decode prog_6_method_21_code 34 = .ok (.putfield 72, 3) := by decide +kernel
theorem dM_move_37 : decode prog_6_method_21_code 37 = .ok (.return_, 1) := by decide +kernel
def g_M_move (m : MS) (p : Int32) (a : Int32) (by9 : Int64) : MS := mN (mL (mI m 2 (va_up (m.2.2.1 2) (nI (m.1 3)).toNatClampNeg ((p * (nI (m.1 1))) + a))) 1 (va_up (m.2.2.2 1) (nI (m.1 3)).toNatClampNeg by9)) 3 ((m.1 3) + 1)
set_option maxHeartbeats 4000000 in
set_option maxRecDepth 100000 in
theorem c_M_move (l : Launch) (D : va_G) (cI cL cQ : ClassId) (d : Nat → Nat) (κ0 : Nat → Option va_E) (m : MS) (hm : IsM cI cL d κ0 m) (hB : MB m) (sz : Nat) (p : Int32) (a : Int32) (by9 : Int64) (hmv : m.1 3 < 1040) : Met l yM_move wM_move { frames := 0, cells := 0, slots := 0, locals := 0 } (va_Pc [.ref (d 0), .int (p), .int (a), .long (by9)] (kC D vCl (kT cI cL cQ) d κ0 sz)) (kNv D vCl d (kA d κ0 sz) (fun κ' => MW cI cL κ0 d κ' (g_M_move m p a by9))) 0 0 (kA d κ0 sz) := by
  refine kMet (by decide) (Nat.le_of_ble_eq_true rfl) ?_
  intro p0 e0 s0 m0 below0 meth0 c0 hx hb hr hml hown hlocks hin hts hsz hP hK ls hl
  subst hsz
  have hl : lv_has ls 5 [(0, .ref (d 0)), (1, .int (p)), (2, .int (a)), (3, .long (by9))] := hl
  have hB9 := hB
  obtain ⟨hb0, hb1, hb2, hb3, hb4, hb5, hb6, hb7, hb8, hb9, hb10⟩ := hB9
  obtain ⟨κ, hM, hW⟩ : ∃ κ', kW D vCl d κ' (kA d κ0 s0.heap.size) s0.heap s0.heap [] ∧ MW cI cL κ0 d κ' m := ⟨κ0, kW.start hP, ⟨hm, fun _ _ => rfl⟩⟩
  refine lv_aload_n hx hb dM_move_0 rfl (lv_at hl 0 rfl) ?_
  refine ka_get (v := .ref (d 4)) (ci := 4) (C := RM) (T := TM) (N := 26) hx hb hts inM hown hK hM.1 (q := 0) hW.1.1 rfl 8 (by decide) (hts _ tw_392) (fun _ h9 => h9) rfl dM_move_1 ?_
  refine lv_aload_n hx hb dM_move_4 rfl (lv_at hl 0 rfl) ?_
  refine ka_get (v := .int (nI (m.1 3))) (ci := 4) (C := RM) (T := TM) (N := 26) hx hb hts inM hown hK hM.1 (q := 0) hW.1.1 rfl 7 (by decide) (hts _ tw_391) (fun _ h9 => h9) rfl dM_move_5 ?_
  refine lv_iload_n hx hb dM_move_8 rfl (lv_at hl 1 rfl) ?_
  refine lv_aload_n hx hb dM_move_9 rfl (lv_at hl 0 rfl) ?_
  refine ka_get (v := .int (nI (m.1 1))) (ci := 4) (C := RM) (T := TM) (N := 26) hx hb hts inM hown hK hM.1 (q := 0) hW.1.1 rfl 1 (by decide) (hts _ tw_385) (fun _ h9 => h9) rfl dM_move_10 ?_
  refine lv_imul hx hb dM_move_13 ?_
  refine lv_iload_n hx hb dM_move_14 rfl (lv_at hl 2 rfl) ?_
  refine lv_iadd hx hb dM_move_15 ?_
  refine ka_iast (f := m.2.2.1 2) hx hb hK hM 0 (q := 4) hW.1.2.2.2.2.1 rfl (i := nI (m.1 3)) (x := (p * (nI (m.1 1))) + a) (by first | assumption | exact vp_in_nI (by omega) (by omega)) dM_move_16 (fun H locs hM => ?_)
  obtain ⟨κ, hM, hW⟩ : ∃ κ', kW D vCl d κ' (kA d κ0 s0.heap.size) s0.heap H locs ∧ MW cI cL κ0 d κ' (mI m 2 (va_up (m.2.2.1 2) (nI (m.1 3)).toNatClampNeg ((p * (nI (m.1 1))) + a))) := ⟨_, hM, mw_moveAt _ hW⟩
  refine lv_aload_n hx hb dM_move_17 rfl (lv_at hl 0 rfl) ?_
  refine ka_get (v := .ref (d 5)) (ci := 4) (C := RM) (T := TM) (N := 26) hx hb hts inM hown hK hM.1 (q := 0) hW.1.1 rfl 9 (by decide) (hts _ tw_393) (fun _ h9 => h9) rfl dM_move_18 ?_
  refine lv_aload_n hx hb dM_move_21 rfl (lv_at hl 0 rfl) ?_
  refine ka_get (v := .int (nI (m.1 3))) (ci := 4) (C := RM) (T := TM) (N := 26) hx hb hts inM hown hK hM.1 (q := 0) hW.1.1 rfl 7 (by decide) (hts _ tw_391) (fun _ h9 => h9) rfl dM_move_22 ?_
  refine lv_lload_n hx hb dM_move_25 rfl (lv_at hl 3 rfl) ?_
  refine ka_last (f := m.2.2.2 1) hx hb hK hM 1 (q := 5) hW.1.2.2.2.2.2.1 rfl (i := nI (m.1 3)) (x := by9) (by first | assumption | exact vp_in_nI (by omega) (by omega)) dM_move_26 (fun H locs hM => ?_)
  obtain ⟨κ, hM, hW⟩ : ∃ κ', kW D vCl d κ' (kA d κ0 s0.heap.size) s0.heap H locs ∧ MW cI cL κ0 d κ' (mL (mI m 2 (va_up (m.2.2.1 2) (nI (m.1 3)).toNatClampNeg ((p * (nI (m.1 1))) + a))) 1 (va_up (m.2.2.2 1) (nI (m.1 3)).toNatClampNeg by9)) := ⟨_, hM, mw_moveBy _ hW⟩
  refine lv_aload_n hx hb dM_move_27 rfl (lv_at hl 0 rfl) ?_
  refine lv_dup hx hb dM_move_28 rfl ?_
  refine ka_get (v := .int (nI (m.1 3))) (ci := 4) (C := RM) (T := TM) (N := 26) hx hb hts inM hown hK hM.1 (q := 0) hW.1.1 rfl 7 (by decide) (hts _ tw_391) (fun _ h9 => h9) rfl dM_move_29 ?_
  refine lv_iconst (v := 1) hx hb dM_move_32 (by decide) ?_
  refine lv_iadd hx hb dM_move_33 ?_
  refine k_topi (show nI (m.1 3) + 1 = nI ((m.1 3) + 1) from nI_add _ _) ?_
  refine ka_put (D := D) (ci := 4) (v := .int (nI ((m.1 3) + 1))) (ty := .int) (C := RM) (T := TM) (N := 26) hx hb hts inM tM tM_ok nM hown hK hM (q := 0) hW.1.1 rfl 7 (by decide) (hts _ tw_391) (fun _ h9 => h9) rfl (by decide +kernel) rfl rfl (Nat.le_of_ble_eq_true rfl) dM_move_34 (fun H locs hM => ?_)
  obtain ⟨κ, hM, hW⟩ : ∃ κ', kW D vCl d κ' (kA d κ0 s0.heap.size) s0.heap H locs ∧ MW cI cL κ0 d κ' (mN (mL (mI m 2 (va_up (m.2.2.1 2) (nI (m.1 3)).toNatClampNeg ((p * (nI (m.1 1))) + a))) 1 (va_up (m.2.2.2 1) (nI (m.1 3)).toNatClampNeg by9)) 3 ((m.1 3) + 1)) := ⟨_, hM, mw_moves ((m.1 3) + 1) hW⟩
  have hg : g_M_move m p a by9 = mN (mL (mI m 2 (va_up (m.2.2.1 2) (nI (m.1 3)).toNatClampNeg ((p * (nI (m.1 1))) + a))) 1 (va_up (m.2.2.2 1) (nI (m.1 3)).toNatClampNeg by9)) 3 ((m.1 3) + 1) := by rw [g_M_move]
  exact W.vret hx hb hr (fun t ht h9 => kNv.of hM ht (by rw [hg]; exact hW)) hM.2.2.2.2 dM_move_37

theorem dM_pledgeMore_0 : decode prog_6_method_24_code 0 = .ok (.aload_n 0, 1) := by decide +kernel
theorem dM_pledgeMore_1 : decode prog_6_method_24_code 1 = .ok (.getfield 39, 3) := by decide +kernel
theorem dM_pledgeMore_4 : decode prog_6_method_24_code 4 = .ok (.aload_n 0, 1) := by decide +kernel
theorem dM_pledgeMore_5 : decode prog_6_method_24_code 5 = .ok (.getfield 75, 3) := by decide +kernel
theorem dM_pledgeMore_8 : decode prog_6_method_24_code 8 = .ok (.iload_n 1, 1) := by decide +kernel
theorem dM_pledgeMore_9 : decode prog_6_method_24_code 9 = .ok (.aload_n 0, 1) := by decide +kernel
theorem dM_pledgeMore_10 : decode prog_6_method_24_code 10 = .ok (.getfield 69, 3) := by decide +kernel
theorem dM_pledgeMore_13 : decode prog_6_method_24_code 13 = .ok (.imul, 1) := by decide +kernel
theorem dM_pledgeMore_14 : decode prog_6_method_24_code 14 = .ok (.iload_n 2, 1) := by decide +kernel
theorem dM_pledgeMore_15 : decode prog_6_method_24_code 15 = .ok (.iadd, 1) := by decide +kernel
theorem dM_pledgeMore_16 : decode prog_6_method_24_code 16 = .ok (.iastore, 1) := by decide +kernel
theorem dM_pledgeMore_17 : decode prog_6_method_24_code 17 = .ok (.aload_n 0, 1) := by decide +kernel
theorem dM_pledgeMore_18 : decode prog_6_method_24_code 18 = .ok (.getfield 42, 3) := by decide +kernel
theorem dM_pledgeMore_21 : decode prog_6_method_24_code 21 = .ok (.aload_n 0, 1) := by decide +kernel
theorem dM_pledgeMore_22 : decode prog_6_method_24_code 22 = .ok (.getfield 75, 3) := by decide +kernel
theorem dM_pledgeMore_25 : decode prog_6_method_24_code 25 = .ok (.lload_n 3, 1) := by decide +kernel
theorem dM_pledgeMore_26 : decode prog_6_method_24_code 26 = .ok (.lastore, 1) := by decide +kernel
theorem dM_pledgeMore_27 : decode prog_6_method_24_code 27 = .ok (.aload_n 0, 1) := by decide +kernel
theorem dM_pledgeMore_28 : decode prog_6_method_24_code 28 = .ok (.dup, 1) := by decide +kernel
theorem dM_pledgeMore_29 : decode prog_6_method_24_code 29 = .ok (.getfield 75, 3) := by decide +kernel
theorem dM_pledgeMore_32 : decode prog_6_method_24_code 32 = .ok (.iconst 1, 1) := by decide +kernel
theorem dM_pledgeMore_33 : decode prog_6_method_24_code 33 = .ok (.iadd, 1) := by decide +kernel
theorem dM_pledgeMore_34 : decode prog_6_method_24_code 34 = .ok (.putfield 75, 3) := by decide +kernel
theorem dM_pledgeMore_37 : decode prog_6_method_24_code 37 = .ok (.return_, 1) := by decide +kernel
def g_M_pledgeMore (m : MS) (p : Int32) (a : Int32) (by9 : Int64) : MS := mN (mL (mI m 5 (va_up (m.2.2.1 5) (nI (m.1 5)).toNatClampNeg ((p * (nI (m.1 1))) + a))) 3 (va_up (m.2.2.2 3) (nI (m.1 5)).toNatClampNeg by9)) 5 ((m.1 5) + 1)
set_option maxHeartbeats 4000000 in
set_option maxRecDepth 100000 in
theorem c_M_pledgeMore (l : Launch) (D : va_G) (cI cL cQ : ClassId) (d : Nat → Nat) (κ0 : Nat → Option va_E) (m : MS) (hm : IsM cI cL d κ0 m) (hB : MB m) (sz : Nat) (p : Int32) (a : Int32) (by9 : Int64) (hmv : m.1 5 < 520) : Met l yM_pledgeMore wM_pledgeMore { frames := 0, cells := 0, slots := 0, locals := 0 } (va_Pc [.ref (d 0), .int (p), .int (a), .long (by9)] (kC D vCl (kT cI cL cQ) d κ0 sz)) (kNv D vCl d (kA d κ0 sz) (fun κ' => MW cI cL κ0 d κ' (g_M_pledgeMore m p a by9))) 0 0 (kA d κ0 sz) := by
  refine kMet (by decide) (Nat.le_of_ble_eq_true rfl) ?_
  intro p0 e0 s0 m0 below0 meth0 c0 hx hb hr hml hown hlocks hin hts hsz hP hK ls hl
  subst hsz
  have hl : lv_has ls 5 [(0, .ref (d 0)), (1, .int (p)), (2, .int (a)), (3, .long (by9))] := hl
  have hB9 := hB
  obtain ⟨hb0, hb1, hb2, hb3, hb4, hb5, hb6, hb7, hb8, hb9, hb10⟩ := hB9
  obtain ⟨κ, hM, hW⟩ : ∃ κ', kW D vCl d κ' (kA d κ0 s0.heap.size) s0.heap s0.heap [] ∧ MW cI cL κ0 d κ' m := ⟨κ0, kW.start hP, ⟨hm, fun _ _ => rfl⟩⟩
  refine lv_aload_n hx hb dM_pledgeMore_0 rfl (lv_at hl 0 rfl) ?_
  refine ka_get (v := .ref (d 9)) (ci := 4) (C := RM) (T := TM) (N := 26) hx hb hts inM hown hK hM.1 (q := 0) hW.1.1 rfl 15 (by decide) (hts _ tw_399) (fun _ h9 => h9) rfl dM_pledgeMore_1 ?_
  refine lv_aload_n hx hb dM_pledgeMore_4 rfl (lv_at hl 0 rfl) ?_
  refine ka_get (v := .int (nI (m.1 5))) (ci := 4) (C := RM) (T := TM) (N := 26) hx hb hts inM hown hK hM.1 (q := 0) hW.1.1 rfl 14 (by decide) (hts _ tw_398) (fun _ h9 => h9) rfl dM_pledgeMore_5 ?_
  refine lv_iload_n hx hb dM_pledgeMore_8 rfl (lv_at hl 1 rfl) ?_
  refine lv_aload_n hx hb dM_pledgeMore_9 rfl (lv_at hl 0 rfl) ?_
  refine ka_get (v := .int (nI (m.1 1))) (ci := 4) (C := RM) (T := TM) (N := 26) hx hb hts inM hown hK hM.1 (q := 0) hW.1.1 rfl 1 (by decide) (hts _ tw_385) (fun _ h9 => h9) rfl dM_pledgeMore_10 ?_
  refine lv_imul hx hb dM_pledgeMore_13 ?_
  refine lv_iload_n hx hb dM_pledgeMore_14 rfl (lv_at hl 2 rfl) ?_
  refine lv_iadd hx hb dM_pledgeMore_15 ?_
  refine ka_iast (f := m.2.2.1 5) hx hb hK hM 0 (q := 9) hW.1.2.2.2.2.2.2.2.2.2.1 rfl (i := nI (m.1 5)) (x := (p * (nI (m.1 1))) + a) (by first | assumption | exact vp_in_nI (by omega) (by omega)) dM_pledgeMore_16 (fun H locs hM => ?_)
  obtain ⟨κ, hM, hW⟩ : ∃ κ', kW D vCl d κ' (kA d κ0 s0.heap.size) s0.heap H locs ∧ MW cI cL κ0 d κ' (mI m 5 (va_up (m.2.2.1 5) (nI (m.1 5)).toNatClampNeg ((p * (nI (m.1 1))) + a))) := ⟨_, hM, mw_pledgeAt _ hW⟩
  refine lv_aload_n hx hb dM_pledgeMore_17 rfl (lv_at hl 0 rfl) ?_
  refine ka_get (v := .ref (d 10)) (ci := 4) (C := RM) (T := TM) (N := 26) hx hb hts inM hown hK hM.1 (q := 0) hW.1.1 rfl 16 (by decide) (hts _ tw_400) (fun _ h9 => h9) rfl dM_pledgeMore_18 ?_
  refine lv_aload_n hx hb dM_pledgeMore_21 rfl (lv_at hl 0 rfl) ?_
  refine ka_get (v := .int (nI (m.1 5))) (ci := 4) (C := RM) (T := TM) (N := 26) hx hb hts inM hown hK hM.1 (q := 0) hW.1.1 rfl 14 (by decide) (hts _ tw_398) (fun _ h9 => h9) rfl dM_pledgeMore_22 ?_
  refine lv_lload_n hx hb dM_pledgeMore_25 rfl (lv_at hl 3 rfl) ?_
  refine ka_last (f := m.2.2.2 3) hx hb hK hM 1 (q := 10) hW.1.2.2.2.2.2.2.2.2.2.2.1 rfl (i := nI (m.1 5)) (x := by9) (by first | assumption | exact vp_in_nI (by omega) (by omega)) dM_pledgeMore_26 (fun H locs hM => ?_)
  obtain ⟨κ, hM, hW⟩ : ∃ κ', kW D vCl d κ' (kA d κ0 s0.heap.size) s0.heap H locs ∧ MW cI cL κ0 d κ' (mL (mI m 5 (va_up (m.2.2.1 5) (nI (m.1 5)).toNatClampNeg ((p * (nI (m.1 1))) + a))) 3 (va_up (m.2.2.2 3) (nI (m.1 5)).toNatClampNeg by9)) := ⟨_, hM, mw_pledgeBy _ hW⟩
  refine lv_aload_n hx hb dM_pledgeMore_27 rfl (lv_at hl 0 rfl) ?_
  refine lv_dup hx hb dM_pledgeMore_28 rfl ?_
  refine ka_get (v := .int (nI (m.1 5))) (ci := 4) (C := RM) (T := TM) (N := 26) hx hb hts inM hown hK hM.1 (q := 0) hW.1.1 rfl 14 (by decide) (hts _ tw_398) (fun _ h9 => h9) rfl dM_pledgeMore_29 ?_
  refine lv_iconst (v := 1) hx hb dM_pledgeMore_32 (by decide) ?_
  refine lv_iadd hx hb dM_pledgeMore_33 ?_
  refine k_topi (show nI (m.1 5) + 1 = nI ((m.1 5) + 1) from nI_add _ _) ?_
  refine ka_put (D := D) (ci := 4) (v := .int (nI ((m.1 5) + 1))) (ty := .int) (C := RM) (T := TM) (N := 26) hx hb hts inM tM tM_ok nM hown hK hM (q := 0) hW.1.1 rfl 14 (by decide) (hts _ tw_398) (fun _ h9 => h9) rfl (by decide +kernel) rfl rfl (Nat.le_of_ble_eq_true rfl) dM_pledgeMore_34 (fun H locs hM => ?_)
  obtain ⟨κ, hM, hW⟩ : ∃ κ', kW D vCl d κ' (kA d κ0 s0.heap.size) s0.heap H locs ∧ MW cI cL κ0 d κ' (mN (mL (mI m 5 (va_up (m.2.2.1 5) (nI (m.1 5)).toNatClampNeg ((p * (nI (m.1 1))) + a))) 3 (va_up (m.2.2.2 3) (nI (m.1 5)).toNatClampNeg by9)) 5 ((m.1 5) + 1)) := ⟨_, hM, mw_pledges ((m.1 5) + 1) hW⟩
  have hg : g_M_pledgeMore m p a by9 = mN (mL (mI m 5 (va_up (m.2.2.1 5) (nI (m.1 5)).toNatClampNeg ((p * (nI (m.1 1))) + a))) 3 (va_up (m.2.2.2 3) (nI (m.1 5)).toNatClampNeg by9)) 5 ((m.1 5) + 1) := by rw [g_M_pledgeMore]
  exact W.vret hx hb hr (fun t ht h9 => kNv.of hM ht (by rw [hg]; exact hW)) hM.2.2.2.2 dM_pledgeMore_37

theorem dM_currency_0 : decode prog_6_method_17_code 0 = .ok (.aload_n 0, 1) := by decide +kernel
theorem dM_currency_1 : decode prog_6_method_17_code 1 = .ok (.getfield 85, 3) := by decide +kernel
theorem dM_currency_4 : decode prog_6_method_17_code 4 = .ok (.aload_n 0, 1) := by decide +kernel
theorem dM_currency_5 : decode prog_6_method_17_code 5 = .ok (.getfield 69, 3) := by decide +kernel
theorem dM_currency_8 : decode prog_6_method_17_code 8 = .ok (.if_icmp .ne 5, 3) := by decide +kernel
theorem dM_currency_11 : decode prog_6_method_17_code 11 = .ok (.iconst (-1), 1) := by decide +kernel
theorem dM_currency_12 : decode prog_6_method_17_code 12 = .ok (.ireturn, 1) := by decide +kernel
theorem dM_currency_13 : decode prog_6_method_17_code 13 = .ok (.aload_n 0, 1) := by decide +kernel
theorem dM_currency_14 : decode prog_6_method_17_code 14 = .ok (.getfield 13, 3) := by decide +kernel
theorem dM_currency_17 : decode prog_6_method_17_code 17 = .ok (.aload_n 0, 1) := by decide +kernel
theorem dM_currency_18 : decode prog_6_method_17_code 18 = .ok (.getfield 85, 3) := by decide +kernel
theorem dM_currency_21 : decode prog_6_method_17_code 21 = .ok (.iconst 0, 1) := by decide +kernel
theorem dM_currency_22 : decode prog_6_method_17_code 22 = .ok (.iastore, 1) := by decide +kernel
theorem dM_currency_23 : decode prog_6_method_17_code 23 = .ok (.aload_n 0, 1) := by decide +kernel
theorem dM_currency_24 : decode prog_6_method_17_code 24 = .ok (.aload_n 0, 1) := by decide +kernel
theorem dM_currency_25 : decode prog_6_method_17_code 25 = .ok (.getfield 7, 3) := by decide +kernel
theorem dM_currency_28 : decode prog_6_method_17_code 28 = .ok (.ifCond .ge 10, 3) := by decide +kernel
theorem dM_currency_31 : decode prog_6_method_17_code 31 = .ok (.aload_n 0, 1) := by decide +kernel
theorem dM_currency_32 : decode prog_6_method_17_code 32 = .ok (.getfield 85, 3) := by decide +kernel
theorem dM_currency_35 : decode prog_6_method_17_code 35 = .ok (.goto 7, 3) := by decide +kernel
theorem dM_currency_38 : decode prog_6_method_17_code 38 = .ok (.aload_n 0, 1) := by decide +kernel
theorem dM_currency_39 : decode prog_6_method_17_code 39 = .ok (.getfield 7, 3) := by decide +kernel
theorem dM_currency_42 : decode prog_6_method_17_code 42 = .ok (.putfield 7, 3) := by decide +kernel
theorem dM_currency_45 : decode prog_6_method_17_code 45 = .ok (.aload_n 0, 1) := by decide +kernel
theorem dM_currency_46 : decode prog_6_method_17_code 46 = .ok (.dup, 1) := by decide +kernel
theorem dM_currency_47 : decode prog_6_method_17_code 47 = .ok (.getfield 85, 3) := by decide +kernel
theorem dM_currency_50 : decode prog_6_method_17_code 50 = .ok (.iconst 1, 1) := by decide +kernel
theorem dM_currency_51 : decode prog_6_method_17_code 51 = .ok (.iadd, 1) := by decide +kernel
theorem dM_currency_52 : decode prog_6_method_17_code 52 = .ok (.putfield 85, 3) := by decide +kernel
theorem dM_currency_55 : decode prog_6_method_17_code 55 = .ok (.aload_n 0, 1) := by decide +kernel
theorem dM_currency_56 : decode prog_6_method_17_code 56 = .ok (.getfield 85, 3) := by decide +kernel
theorem dM_currency_59 : decode prog_6_method_17_code 59 = .ok (.iconst 1, 1) := by decide +kernel
theorem dM_currency_60 : decode prog_6_method_17_code 60 = .ok (.isub, 1) := by decide +kernel
theorem dM_currency_61 : decode prog_6_method_17_code 61 = .ok (.ireturn, 1) := by decide +kernel
def g_M_currency (m : MS) : Int32 × MS := if (nI (m.1 2)) = (nI (m.1 1)) then (-1, m) else (if 0 ≤ m.2.1 then (nI (((m.1 2) + 1) - 1), mN (mM (mI m 0 (va_up (m.2.2.1 0) (nI (m.1 2)).toNatClampNeg 0)) m.2.1) 2 ((m.1 2) + 1)) else (nI (((m.1 2) + 1) - 1), mN (mM (mI m 0 (va_up (m.2.2.1 0) (nI (m.1 2)).toNatClampNeg 0)) (nI (m.1 2))) 2 ((m.1 2) + 1)))
set_option maxHeartbeats 4000000 in
set_option maxRecDepth 100000 in
theorem c_M_currency (l : Launch) (D : va_G) (cI cL cQ : ClassId) (d : Nat → Nat) (κ0 : Nat → Option va_E) (m : MS) (hm : IsM cI cL d κ0 m) (hB : MB m) (sz : Nat)   : Met l yM_currency wM_currency { frames := 0, cells := 0, slots := 0, locals := 0 } (va_Pc [.ref (d 0)] (kC D vCl (kT cI cL cQ) d κ0 sz)) (kNi D vCl d (kA d κ0 sz) (fun r κ' => r = (g_M_currency m).1 ∧ MW cI cL κ0 d κ' (g_M_currency m).2)) 0 0 (kA d κ0 sz) := by
  refine kMet (by decide) (Nat.le_of_ble_eq_true rfl) ?_
  intro p0 e0 s0 m0 below0 meth0 c0 hx hb hr hml hown hlocks hin hts hsz hP hK ls hl
  subst hsz
  have hl : lv_has ls 1 [(0, .ref (d 0))] := hl
  have hB9 := hB
  obtain ⟨hb0, hb1, hb2, hb3, hb4, hb5, hb6, hb7, hb8, hb9, hb10⟩ := hB9
  obtain ⟨κ, hM, hW⟩ : ∃ κ', kW D vCl d κ' (kA d κ0 s0.heap.size) s0.heap s0.heap [] ∧ MW cI cL κ0 d κ' m := ⟨κ0, kW.start hP, ⟨hm, fun _ _ => rfl⟩⟩
  refine lv_aload_n hx hb dM_currency_0 rfl (lv_at hl 0 rfl) ?_
  refine ka_get (v := .int (nI (m.1 2))) (ci := 4) (C := RM) (T := TM) (N := 26) hx hb hts inM hown hK hM.1 (q := 0) hW.1.1 rfl 2 (by decide) (hts _ tw_386) (fun _ h9 => h9) rfl dM_currency_1 ?_
  refine lv_aload_n hx hb dM_currency_4 rfl (lv_at hl 0 rfl) ?_
  refine ka_get (v := .int (nI (m.1 1))) (ci := 4) (C := RM) (T := TM) (N := 26) hx hb hts inM hown hK hM.1 (q := 0) hW.1.1 rfl 1 (by decide) (hts _ tw_385) (fun _ h9 => h9) rfl dM_currency_5 ?_
  refine lv_icmp_ne (tgt := 13) hx hb dM_currency_8 (by decide) (fun c_8 => ?_) (fun c_8 => ?_)
  · have hlt : m.1 2 < m.1 1 := Nat.lt_of_le_of_ne hb4 (fun q => c_8 (by rw [q]))
    refine lv_aload_n hx hb dM_currency_13 rfl (lv_at hl 0 rfl) ?_
    refine ka_get (v := .ref (d 1)) (ci := 4) (C := RM) (T := TM) (N := 26) hx hb hts inM hown hK hM.1 (q := 0) hW.1.1 rfl 4 (by decide) (hts _ tw_388) (fun _ h9 => h9) rfl dM_currency_14 ?_
    refine lv_aload_n hx hb dM_currency_17 rfl (lv_at hl 0 rfl) ?_
    refine ka_get (v := .int (nI (m.1 2))) (ci := 4) (C := RM) (T := TM) (N := 26) hx hb hts inM hown hK hM.1 (q := 0) hW.1.1 rfl 2 (by decide) (hts _ tw_386) (fun _ h9 => h9) rfl dM_currency_18 ?_
    refine lv_iconst (v := 0) hx hb dM_currency_21 (by decide) ?_
    refine ka_iast (f := m.2.2.1 0) hx hb hK hM 0 (q := 1) hW.1.2.1 rfl (i := nI (m.1 2)) (x := 0) (by first | assumption | exact vp_in_nI (by omega) (by omega)) dM_currency_22 (fun H locs hM => ?_)
    obtain ⟨κ, hM, hW⟩ : ∃ κ', kW D vCl d κ' (kA d κ0 s0.heap.size) s0.heap H locs ∧ MW cI cL κ0 d κ' (mI m 0 (va_up (m.2.2.1 0) (nI (m.1 2)).toNatClampNeg 0)) := ⟨_, hM, mw_sort _ hW⟩
    refine lv_aload_n hx hb dM_currency_23 rfl (lv_at hl 0 rfl) ?_
    refine lv_aload_n hx hb dM_currency_24 rfl (lv_at hl 0 rfl) ?_
    refine ka_get (v := .int (m.2.1)) (ci := 4) (C := RM) (T := TM) (N := 26) hx hb hts inM hown hK hM.1 (q := 0) hW.1.1 rfl 3 (by decide) (hts _ tw_387) (fun _ h9 => h9) rfl dM_currency_25 ?_
    refine lv_if_ge (tgt := 38) hx hb dM_currency_28 (by decide) (fun c_28 => ?_) (fun c_28 => ?_)
    · refine lv_aload_n hx hb dM_currency_38 rfl (lv_at hl 0 rfl) ?_
      refine ka_get (v := .int (m.2.1)) (ci := 4) (C := RM) (T := TM) (N := 26) hx hb hts inM hown hK hM.1 (q := 0) hW.1.1 rfl 3 (by decide) (hts _ tw_387) (fun _ h9 => h9) rfl dM_currency_39 ?_
      refine ka_put (D := D) (ci := 4) (v := .int (m.2.1)) (ty := .int) (C := RM) (T := TM) (N := 26) hx hb hts inM tM tM_ok nM hown hK hM (q := 0) hW.1.1 rfl 3 (by decide) (hts _ tw_387) (fun _ h9 => h9) rfl (by decide +kernel) rfl rfl (Nat.le_of_ble_eq_true rfl) dM_currency_42 (fun H locs hM => ?_)
      obtain ⟨κ, hM, hW⟩ : ∃ κ', kW D vCl d κ' (kA d κ0 s0.heap.size) s0.heap H locs ∧ MW cI cL κ0 d κ' (mM (mI m 0 (va_up (m.2.2.1 0) (nI (m.1 2)).toNatClampNeg 0)) m.2.1) := ⟨_, hM, mw_money m.2.1 hW⟩
      refine lv_aload_n hx hb dM_currency_45 rfl (lv_at hl 0 rfl) ?_
      refine lv_dup hx hb dM_currency_46 rfl ?_
      refine ka_get (v := .int (nI (m.1 2))) (ci := 4) (C := RM) (T := TM) (N := 26) hx hb hts inM hown hK hM.1 (q := 0) hW.1.1 rfl 2 (by decide) (hts _ tw_386) (fun _ h9 => h9) rfl dM_currency_47 ?_
      refine lv_iconst (v := 1) hx hb dM_currency_50 (by decide) ?_
      refine lv_iadd hx hb dM_currency_51 ?_
      refine k_topi (show nI (m.1 2) + 1 = nI ((m.1 2) + 1) from nI_add _ _) ?_
      refine ka_put (D := D) (ci := 4) (v := .int (nI ((m.1 2) + 1))) (ty := .int) (C := RM) (T := TM) (N := 26) hx hb hts inM tM tM_ok nM hown hK hM (q := 0) hW.1.1 rfl 2 (by decide) (hts _ tw_386) (fun _ h9 => h9) rfl (by decide +kernel) rfl rfl (Nat.le_of_ble_eq_true rfl) dM_currency_52 (fun H locs hM => ?_)
      obtain ⟨κ, hM, hW⟩ : ∃ κ', kW D vCl d κ' (kA d κ0 s0.heap.size) s0.heap H locs ∧ MW cI cL κ0 d κ' (mN (mM (mI m 0 (va_up (m.2.2.1 0) (nI (m.1 2)).toNatClampNeg 0)) m.2.1) 2 ((m.1 2) + 1)) := ⟨_, hM, mw_assets ((m.1 2) + 1) hW⟩
      refine lv_aload_n hx hb dM_currency_55 rfl (lv_at hl 0 rfl) ?_
      refine ka_get (v := .int (nI ((m.1 2) + 1))) (ci := 4) (C := RM) (T := TM) (N := 26) hx hb hts inM hown hK hM.1 (q := 0) hW.1.1 rfl 2 (by decide) (hts _ tw_386) (fun _ h9 => h9) rfl dM_currency_56 ?_
      refine lv_iconst (v := 1) hx hb dM_currency_59 (by decide) ?_
      refine lv_isub hx hb dM_currency_60 ?_
      refine k_topi (show nI ((m.1 2) + 1) - 1 = nI (((m.1 2) + 1) - 1) from pk_sub (a := ((m.1 2) + 1)) (b := 1) (by omega)) ?_
      have hg : g_M_currency m = (nI (((m.1 2) + 1) - 1), mN (mM (mI m 0 (va_up (m.2.2.1 0) (nI (m.1 2)).toNatClampNeg 0)) m.2.1) 2 ((m.1 2) + 1)) := by rw [g_M_currency, if_neg c_8, if_pos c_28]
      exact W.iret (v := nI (((m.1 2) + 1) - 1)) hx hb hr (fun t ht h9 => kNi.of hM ht (by rw [hg]; exact ⟨rfl, hW⟩)) hM.2.2.2.2 dM_currency_61
    · refine lv_aload_n hx hb dM_currency_31 rfl (lv_at hl 0 rfl) ?_
      refine ka_get (v := .int (nI (m.1 2))) (ci := 4) (C := RM) (T := TM) (N := 26) hx hb hts inM hown hK hM.1 (q := 0) hW.1.1 rfl 2 (by decide) (hts _ tw_386) (fun _ h9 => h9) rfl dM_currency_32 ?_
      refine lv_goto (tgt := 42) hx hb dM_currency_35 (by decide) ?_
      refine ka_put (D := D) (ci := 4) (v := .int (nI (m.1 2))) (ty := .int) (C := RM) (T := TM) (N := 26) hx hb hts inM tM tM_ok nM hown hK hM (q := 0) hW.1.1 rfl 3 (by decide) (hts _ tw_387) (fun _ h9 => h9) rfl (by decide +kernel) rfl rfl (Nat.le_of_ble_eq_true rfl) dM_currency_42 (fun H locs hM => ?_)
      obtain ⟨κ, hM, hW⟩ : ∃ κ', kW D vCl d κ' (kA d κ0 s0.heap.size) s0.heap H locs ∧ MW cI cL κ0 d κ' (mM (mI m 0 (va_up (m.2.2.1 0) (nI (m.1 2)).toNatClampNeg 0)) (nI (m.1 2))) := ⟨_, hM, mw_money (nI (m.1 2)) hW⟩
      refine lv_aload_n hx hb dM_currency_45 rfl (lv_at hl 0 rfl) ?_
      refine lv_dup hx hb dM_currency_46 rfl ?_
      refine ka_get (v := .int (nI (m.1 2))) (ci := 4) (C := RM) (T := TM) (N := 26) hx hb hts inM hown hK hM.1 (q := 0) hW.1.1 rfl 2 (by decide) (hts _ tw_386) (fun _ h9 => h9) rfl dM_currency_47 ?_
      refine lv_iconst (v := 1) hx hb dM_currency_50 (by decide) ?_
      refine lv_iadd hx hb dM_currency_51 ?_
      refine k_topi (show nI (m.1 2) + 1 = nI ((m.1 2) + 1) from nI_add _ _) ?_
      refine ka_put (D := D) (ci := 4) (v := .int (nI ((m.1 2) + 1))) (ty := .int) (C := RM) (T := TM) (N := 26) hx hb hts inM tM tM_ok nM hown hK hM (q := 0) hW.1.1 rfl 2 (by decide) (hts _ tw_386) (fun _ h9 => h9) rfl (by decide +kernel) rfl rfl (Nat.le_of_ble_eq_true rfl) dM_currency_52 (fun H locs hM => ?_)
      obtain ⟨κ, hM, hW⟩ : ∃ κ', kW D vCl d κ' (kA d κ0 s0.heap.size) s0.heap H locs ∧ MW cI cL κ0 d κ' (mN (mM (mI m 0 (va_up (m.2.2.1 0) (nI (m.1 2)).toNatClampNeg 0)) (nI (m.1 2))) 2 ((m.1 2) + 1)) := ⟨_, hM, mw_assets ((m.1 2) + 1) hW⟩
      refine lv_aload_n hx hb dM_currency_55 rfl (lv_at hl 0 rfl) ?_
      refine ka_get (v := .int (nI ((m.1 2) + 1))) (ci := 4) (C := RM) (T := TM) (N := 26) hx hb hts inM hown hK hM.1 (q := 0) hW.1.1 rfl 2 (by decide) (hts _ tw_386) (fun _ h9 => h9) rfl dM_currency_56 ?_
      refine lv_iconst (v := 1) hx hb dM_currency_59 (by decide) ?_
      refine lv_isub hx hb dM_currency_60 ?_
      refine k_topi (show nI ((m.1 2) + 1) - 1 = nI (((m.1 2) + 1) - 1) from pk_sub (a := ((m.1 2) + 1)) (b := 1) (by omega)) ?_
      have hg : g_M_currency m = (nI (((m.1 2) + 1) - 1), mN (mM (mI m 0 (va_up (m.2.2.1 0) (nI (m.1 2)).toNatClampNeg 0)) (nI (m.1 2))) 2 ((m.1 2) + 1)) := by rw [g_M_currency, if_neg c_8, if_neg c_28]
      exact W.iret (v := nI (((m.1 2) + 1) - 1)) hx hb hr (fun t ht h9 => kNi.of hM ht (by rw [hg]; exact ⟨rfl, hW⟩)) hM.2.2.2.2 dM_currency_61
  · refine lv_iconst (v := -1) hx hb dM_currency_11 (by decide) ?_
    have hg : g_M_currency m = (-1, m) := by rw [g_M_currency, if_pos c_8]
    exact W.iret (v := -1) hx hb hr (fun t ht h9 => kNi.of hM ht (by rw [hg]; exact ⟨rfl, hW⟩)) hM.2.2.2.2 dM_currency_12

theorem dM_security_0 : decode prog_6_method_19_code 0 = .ok (.aload_n 0, 1) := by decide +kernel
theorem dM_security_1 : decode prog_6_method_19_code 1 = .ok (.getfield 85, 3) := by decide +kernel
theorem dM_security_4 : decode prog_6_method_19_code 4 = .ok (.aload_n 0, 1) := by decide +kernel
theorem dM_security_5 : decode prog_6_method_19_code 5 = .ok (.getfield 69, 3) := by decide +kernel
theorem dM_security_8 : decode prog_6_method_19_code 8 = .ok (.if_icmp .eq 11, 3) := by decide +kernel
theorem dM_security_11 : decode prog_6_method_19_code 11 = .ok (.lload_n 1, 1) := by decide +kernel
theorem dM_security_12 : decode prog_6_method_19_code 12 = .ok (.iload_n 3, 1) := by decide +kernel
theorem dM_security_13 : decode prog_6_method_19_code 13 = .ok (.invokestatic 124, 3) := by decide +kernel
theorem dM_security_16 : decode prog_6_method_19_code 16 = .ok (.ifCond .ne 5, 3) := by decide +kernel
theorem dM_security_19 : decode prog_6_method_19_code 19 = .ok (.iconst (-1), 1) := by decide +kernel
theorem dM_security_20 : decode prog_6_method_19_code 20 = .ok (.ireturn, 1) := by decide +kernel
theorem dM_security_21 : decode prog_6_method_19_code 21 = .ok (.aload_n 0, 1) := by decide +kernel
theorem dM_security_22 : decode prog_6_method_19_code 22 = .ok (.getfield 13, 3) := by decide +kernel
theorem dM_security_25 : decode prog_6_method_19_code 25 = .ok (.aload_n 0, 1) := by decide +kernel
theorem dM_security_26 : decode prog_6_method_19_code 26 = .ok (.getfield 85, 3) := by decide +kernel
theorem dM_security_29 : decode prog_6_method_19_code 29 = .ok (.iconst 1, 1) := by decide +kernel
theorem dM_security_30 : decode prog_6_method_19_code 30 = .ok (.iastore, 1) := by decide +kernel
theorem dM_security_31 : decode prog_6_method_19_code 31 = .ok (.aload_n 0, 1) := by decide +kernel
theorem dM_security_32 : decode prog_6_method_19_code 32 = .ok (.getfield 17, 3) := by decide +kernel
theorem dM_security_35 : decode prog_6_method_19_code 35 = .ok (.aload_n 0, 1) := by decide +kernel
theorem dM_security_36 : decode prog_6_method_19_code 36 = .ok (.getfield 85, 3) := by decide +kernel
theorem dM_security_39 : decode prog_6_method_19_code 39 = .ok (.lload_n 1, 1) := by decide +kernel
theorem dM_security_40 : decode prog_6_method_19_code 40 = .ok (.lastore, 1) := by decide +kernel
theorem dM_security_41 : decode prog_6_method_19_code 41 = .ok (.aload_n 0, 1) := by decide +kernel
theorem dM_security_42 : decode prog_6_method_19_code 42 = .ok (.getfield 21, 3) := by decide +kernel
theorem dM_security_45 : decode prog_6_method_19_code 45 = .ok (.aload_n 0, 1) := by decide +kernel
theorem dM_security_46 : decode prog_6_method_19_code 46 = .ok (.getfield 85, 3) := by decide +kernel
theorem dM_security_49 : decode prog_6_method_19_code 49 = .ok (.iload_n 3, 1) := by decide +kernel
theorem dM_security_50 : decode prog_6_method_19_code 50 = .ok (.iastore, 1) := by decide +kernel
theorem dM_security_51 : decode prog_6_method_19_code 51 = .ok (.aload_n 0, 1) := by decide +kernel
theorem dM_security_52 : decode prog_6_method_19_code 52 = .ok (.dup, 1) := by decide +kernel
theorem dM_security_53 : decode prog_6_method_19_code 53 = .ok (.getfield 85, 3) := by decide +kernel
theorem dM_security_56 : decode prog_6_method_19_code 56 = .ok (.iconst 1, 1) := by decide +kernel
theorem dM_security_57 : decode prog_6_method_19_code 57 = .ok (.iadd, 1) := by decide +kernel
theorem dM_security_58 : decode prog_6_method_19_code 58 = .ok (.putfield 85, 3) := by decide +kernel
theorem dM_security_61 : decode prog_6_method_19_code 61 = .ok (.aload_n 0, 1) := by decide +kernel
theorem dM_security_62 : decode prog_6_method_19_code 62 = .ok (.getfield 85, 3) := by decide +kernel
theorem dM_security_65 : decode prog_6_method_19_code 65 = .ok (.iconst 1, 1) := by decide +kernel
theorem dM_security_66 : decode prog_6_method_19_code 66 = .ok (.isub, 1) := by decide +kernel
theorem dM_security_67 : decode prog_6_method_19_code 67 = .ok (.ireturn, 1) := by decide +kernel
def g_M_security (m : MS) (each : Int64) (cut : Int32) : Int32 × MS := if (nI (m.1 2)) = (nI (m.1 1)) then (-1, m) else (if (f_M_isPrice each cut) = 0 then (-1, m) else (nI (((m.1 2) + 1) - 1), mN (mI (mL (mI m 0 (va_up (m.2.2.1 0) (nI (m.1 2)).toNatClampNeg 1)) 0 (va_up (m.2.2.2 0) (nI (m.1 2)).toNatClampNeg each)) 1 (va_up (m.2.2.1 1) (nI (m.1 2)).toNatClampNeg cut)) 2 ((m.1 2) + 1)))
set_option maxHeartbeats 4000000 in
set_option maxRecDepth 100000 in
theorem c_M_security (l : Launch) (D : va_G) (cI cL cQ : ClassId) (d : Nat → Nat) (κ0 : Nat → Option va_E) (m : MS) (hm : IsM cI cL d κ0 m) (hB : MB m) (sz : Nat) (each : Int64) (cut : Int32)  : Met l yM_security wM_security { frames := 1, cells := 0, slots := 0, locals := 22 } (va_Pc [.ref (d 0), .long (each), .int (cut)] (kC D vCl (kT cI cL cQ) d κ0 sz)) (kNi D vCl d (kA d κ0 sz) (fun r κ' => r = (g_M_security m each cut).1 ∧ MW cI cL κ0 d κ' (g_M_security m each cut).2)) 0 0 (kA d κ0 sz) := by
  refine kMet (by decide) (Nat.le_of_ble_eq_true rfl) ?_
  intro p0 e0 s0 m0 below0 meth0 c0 hx hb hr hml hown hlocks hin hts hsz hP hK ls hl
  subst hsz
  have hl : lv_has ls 4 [(0, .ref (d 0)), (1, .long (each)), (3, .int (cut))] := hl
  have hB9 := hB
  obtain ⟨hb0, hb1, hb2, hb3, hb4, hb5, hb6, hb7, hb8, hb9, hb10⟩ := hB9
  obtain ⟨κ, hM, hW⟩ : ∃ κ', kW D vCl d κ' (kA d κ0 s0.heap.size) s0.heap s0.heap [] ∧ MW cI cL κ0 d κ' m := ⟨κ0, kW.start hP, ⟨hm, fun _ _ => rfl⟩⟩
  refine lv_aload_n hx hb dM_security_0 rfl (lv_at hl 0 rfl) ?_
  refine ka_get (v := .int (nI (m.1 2))) (ci := 4) (C := RM) (T := TM) (N := 26) hx hb hts inM hown hK hM.1 (q := 0) hW.1.1 rfl 2 (by decide) (hts _ tw_386) (fun _ h9 => h9) rfl dM_security_1 ?_
  refine lv_aload_n hx hb dM_security_4 rfl (lv_at hl 0 rfl) ?_
  refine ka_get (v := .int (nI (m.1 1))) (ci := 4) (C := RM) (T := TM) (N := 26) hx hb hts inM hown hK hM.1 (q := 0) hW.1.1 rfl 1 (by decide) (hts _ tw_385) (fun _ h9 => h9) rfl dM_security_5 ?_
  refine lv_icmp_eq (tgt := 19) hx hb dM_security_8 (by decide) (fun c_8 => ?_) (fun c_8 => ?_)
  · refine lv_iconst (v := -1) hx hb dM_security_19 (by decide) ?_
    have hg : g_M_security m each cut = (-1, m) := by rw [g_M_security, if_pos c_8]
    exact W.iret (v := -1) hx hb hr (fun t ht h9 => kNi.of hM ht (by rw [hg]; exact ⟨rfl, hW⟩)) hM.2.2.2.2 dM_security_20
  · have hlt : m.1 2 < m.1 1 := Nat.lt_of_le_of_ne hb4 (fun q => c_8 (by rw [q]))
    refine lv_lload_n hx hb dM_security_11 rfl (lv_at hl 1 rfl) ?_
    refine lv_iload_n hx hb dM_security_12 rfl (lv_at hl 2 rfl) ?_
    refine vp_callSi (W.runS (As := [.long (each), .int (cut)]) (rest := []) ⟨hx, hb, hml, hown, hts⟩ (c_M_isPrice l D cI cL cQ d κ _ each cut) (cwS 2 hts (k_gS tw_487 tw_488 tw_41 tw_489) rfl rfl rfl (by decide +kernel) ⟨Nat.le_of_ble_eq_true rfl, Nat.le_of_ble_eq_true rfl⟩) (kPreS hM.1 hK) rfl rfl hl.1 rfl (lv_room (Nat.le_of_ble_eq_true rfl)) dM_security_13 ⟨Nat.le_of_ble_eq_true rfl, Nat.le_of_ble_eq_true rfl⟩) (fun r_13 e_13 => ?_)
    subst e_13
    refine lv_if_ne (tgt := 21) hx hb dM_security_16 (by decide) (fun c_16 => ?_) (fun c_16 => ?_)
    · refine lv_aload_n hx hb dM_security_21 rfl (lv_at hl 0 rfl) ?_
      refine ka_get (v := .ref (d 1)) (ci := 4) (C := RM) (T := TM) (N := 26) hx hb hts inM hown hK hM.1 (q := 0) hW.1.1 rfl 4 (by decide) (hts _ tw_388) (fun _ h9 => h9) rfl dM_security_22 ?_
      refine lv_aload_n hx hb dM_security_25 rfl (lv_at hl 0 rfl) ?_
      refine ka_get (v := .int (nI (m.1 2))) (ci := 4) (C := RM) (T := TM) (N := 26) hx hb hts inM hown hK hM.1 (q := 0) hW.1.1 rfl 2 (by decide) (hts _ tw_386) (fun _ h9 => h9) rfl dM_security_26 ?_
      refine lv_iconst (v := 1) hx hb dM_security_29 (by decide) ?_
      refine ka_iast (f := m.2.2.1 0) hx hb hK hM 0 (q := 1) hW.1.2.1 rfl (i := nI (m.1 2)) (x := 1) (by first | assumption | exact vp_in_nI (by omega) (by omega)) dM_security_30 (fun H locs hM => ?_)
      obtain ⟨κ, hM, hW⟩ : ∃ κ', kW D vCl d κ' (kA d κ0 s0.heap.size) s0.heap H locs ∧ MW cI cL κ0 d κ' (mI m 0 (va_up (m.2.2.1 0) (nI (m.1 2)).toNatClampNeg 1)) := ⟨_, hM, mw_sort _ hW⟩
      refine lv_aload_n hx hb dM_security_31 rfl (lv_at hl 0 rfl) ?_
      refine ka_get (v := .ref (d 2)) (ci := 4) (C := RM) (T := TM) (N := 26) hx hb hts inM hown hK hM.1 (q := 0) hW.1.1 rfl 5 (by decide) (hts _ tw_389) (fun _ h9 => h9) rfl dM_security_32 ?_
      refine lv_aload_n hx hb dM_security_35 rfl (lv_at hl 0 rfl) ?_
      refine ka_get (v := .int (nI (m.1 2))) (ci := 4) (C := RM) (T := TM) (N := 26) hx hb hts inM hown hK hM.1 (q := 0) hW.1.1 rfl 2 (by decide) (hts _ tw_386) (fun _ h9 => h9) rfl dM_security_36 ?_
      refine lv_lload_n hx hb dM_security_39 rfl (lv_at hl 1 rfl) ?_
      refine ka_last (f := m.2.2.2 0) hx hb hK hM 1 (q := 2) hW.1.2.2.1 rfl (i := nI (m.1 2)) (x := each) (by first | assumption | exact vp_in_nI (by omega) (by omega)) dM_security_40 (fun H locs hM => ?_)
      obtain ⟨κ, hM, hW⟩ : ∃ κ', kW D vCl d κ' (kA d κ0 s0.heap.size) s0.heap H locs ∧ MW cI cL κ0 d κ' (mL (mI m 0 (va_up (m.2.2.1 0) (nI (m.1 2)).toNatClampNeg 1)) 0 (va_up (m.2.2.2 0) (nI (m.1 2)).toNatClampNeg each)) := ⟨_, hM, mw_price _ hW⟩
      refine lv_aload_n hx hb dM_security_41 rfl (lv_at hl 0 rfl) ?_
      refine ka_get (v := .ref (d 3)) (ci := 4) (C := RM) (T := TM) (N := 26) hx hb hts inM hown hK hM.1 (q := 0) hW.1.1 rfl 6 (by decide) (hts _ tw_390) (fun _ h9 => h9) rfl dM_security_42 ?_
      refine lv_aload_n hx hb dM_security_45 rfl (lv_at hl 0 rfl) ?_
      refine ka_get (v := .int (nI (m.1 2))) (ci := 4) (C := RM) (T := TM) (N := 26) hx hb hts inM hown hK hM.1 (q := 0) hW.1.1 rfl 2 (by decide) (hts _ tw_386) (fun _ h9 => h9) rfl dM_security_46 ?_
      refine lv_iload_n hx hb dM_security_49 rfl (lv_at hl 2 rfl) ?_
      refine ka_iast (f := m.2.2.1 1) hx hb hK hM 0 (q := 3) hW.1.2.2.2.1 rfl (i := nI (m.1 2)) (x := cut) (by first | assumption | exact vp_in_nI (by omega) (by omega)) dM_security_50 (fun H locs hM => ?_)
      obtain ⟨κ, hM, hW⟩ : ∃ κ', kW D vCl d κ' (kA d κ0 s0.heap.size) s0.heap H locs ∧ MW cI cL κ0 d κ' (mI (mL (mI m 0 (va_up (m.2.2.1 0) (nI (m.1 2)).toNatClampNeg 1)) 0 (va_up (m.2.2.2 0) (nI (m.1 2)).toNatClampNeg each)) 1 (va_up (m.2.2.1 1) (nI (m.1 2)).toNatClampNeg cut)) := ⟨_, hM, mw_haircut _ hW⟩
      refine lv_aload_n hx hb dM_security_51 rfl (lv_at hl 0 rfl) ?_
      refine lv_dup hx hb dM_security_52 rfl ?_
      refine ka_get (v := .int (nI (m.1 2))) (ci := 4) (C := RM) (T := TM) (N := 26) hx hb hts inM hown hK hM.1 (q := 0) hW.1.1 rfl 2 (by decide) (hts _ tw_386) (fun _ h9 => h9) rfl dM_security_53 ?_
      refine lv_iconst (v := 1) hx hb dM_security_56 (by decide) ?_
      refine lv_iadd hx hb dM_security_57 ?_
      refine k_topi (show nI (m.1 2) + 1 = nI ((m.1 2) + 1) from nI_add _ _) ?_
      refine ka_put (D := D) (ci := 4) (v := .int (nI ((m.1 2) + 1))) (ty := .int) (C := RM) (T := TM) (N := 26) hx hb hts inM tM tM_ok nM hown hK hM (q := 0) hW.1.1 rfl 2 (by decide) (hts _ tw_386) (fun _ h9 => h9) rfl (by decide +kernel) rfl rfl (Nat.le_of_ble_eq_true rfl) dM_security_58 (fun H locs hM => ?_)
      obtain ⟨κ, hM, hW⟩ : ∃ κ', kW D vCl d κ' (kA d κ0 s0.heap.size) s0.heap H locs ∧ MW cI cL κ0 d κ' (mN (mI (mL (mI m 0 (va_up (m.2.2.1 0) (nI (m.1 2)).toNatClampNeg 1)) 0 (va_up (m.2.2.2 0) (nI (m.1 2)).toNatClampNeg each)) 1 (va_up (m.2.2.1 1) (nI (m.1 2)).toNatClampNeg cut)) 2 ((m.1 2) + 1)) := ⟨_, hM, mw_assets ((m.1 2) + 1) hW⟩
      refine lv_aload_n hx hb dM_security_61 rfl (lv_at hl 0 rfl) ?_
      refine ka_get (v := .int (nI ((m.1 2) + 1))) (ci := 4) (C := RM) (T := TM) (N := 26) hx hb hts inM hown hK hM.1 (q := 0) hW.1.1 rfl 2 (by decide) (hts _ tw_386) (fun _ h9 => h9) rfl dM_security_62 ?_
      refine lv_iconst (v := 1) hx hb dM_security_65 (by decide) ?_
      refine lv_isub hx hb dM_security_66 ?_
      refine k_topi (show nI ((m.1 2) + 1) - 1 = nI (((m.1 2) + 1) - 1) from pk_sub (a := ((m.1 2) + 1)) (b := 1) (by omega)) ?_
      have hg : g_M_security m each cut = (nI (((m.1 2) + 1) - 1), mN (mI (mL (mI m 0 (va_up (m.2.2.1 0) (nI (m.1 2)).toNatClampNeg 1)) 0 (va_up (m.2.2.2 0) (nI (m.1 2)).toNatClampNeg each)) 1 (va_up (m.2.2.1 1) (nI (m.1 2)).toNatClampNeg cut)) 2 ((m.1 2) + 1)) := by rw [g_M_security, if_neg c_8, if_neg c_16]
      exact W.iret (v := nI (((m.1 2) + 1) - 1)) hx hb hr (fun t ht h9 => kNi.of hM ht (by rw [hg]; exact ⟨rfl, hW⟩)) hM.2.2.2.2 dM_security_67
    · refine lv_iconst (v := -1) hx hb dM_security_19 (by decide) ?_
      have hg : g_M_security m each cut = (-1, m) := by rw [g_M_security, if_neg c_8, if_pos c_16]
      exact W.iret (v := -1) hx hb hr (fun t ht h9 => kNi.of hM ht (by rw [hg]; exact ⟨rfl, hW⟩)) hM.2.2.2.2 dM_security_20
