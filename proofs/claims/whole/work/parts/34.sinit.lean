theorem dP_init_0 : decode prog_4_method_1_code 0 = .ok (.aload_n 0, 1) := by decide +kernel
theorem dP_init_1 : decode prog_4_method_1_code 1 = .ok (.invokespecial 3, 3) := by decide +kernel
theorem dP_init_4 : decode prog_4_method_1_code 4 = .ok (.aload_n 0, 1) := by decide +kernel
theorem dP_init_5 : decode prog_4_method_1_code 5 = .ok (.iload_n 1, 1) := by decide +kernel
theorem dP_init_6 : decode prog_4_method_1_code 6 = .ok (.newarray .int, 2) := by decide +kernel
theorem dP_init_8 : decode prog_4_method_1_code 8 = .ok (.putfield 9, 3) := by decide +kernel
theorem dP_init_11 : decode prog_4_method_1_code 11 = .ok (.aload_n 0, 1) := by decide +kernel
theorem dP_init_12 : decode prog_4_method_1_code 12 = .ok (.iload_n 1, 1) := by decide +kernel
theorem dP_init_13 : decode prog_4_method_1_code 13 = .ok (.newarray .long, 2) := by decide +kernel
theorem dP_init_15 : decode prog_4_method_1_code 15 = .ok (.putfield 15, 3) := by decide +kernel
theorem dP_init_18 : decode prog_4_method_1_code 18 = .ok (.aload_n 0, 1) := by decide +kernel
theorem dP_init_19 : decode prog_4_method_1_code 19 = .ok (.iconst 0, 1) := by decide +kernel
theorem dP_init_20 : decode prog_4_method_1_code 20 = .ok (.putfield 19, 3) := by decide +kernel
theorem dP_init_23 : decode prog_4_method_1_code 23 = .ok (.return_, 1) := by decide +kernel
set_option maxHeartbeats 4000000 in
set_option maxRecDepth 100000 in
theorem c_P_init (l : Launch) (D : va_G) (cI cL cQ : ClassId) (d : Nat → Nat) (κ0 : Nat → Option va_E) (q : Nat) (n : Nat) (hn5 : n ≤ 512) (hq : κ0 q = some (.inr (2, [.null, .null, .int 0]))) (hn : ∀ i, 0 < i → i ≤ 2 → κ0 (q + i) = none) (sz : Nat) : Met l yP_init wP_init { frames := 1, cells := 2, slots := 1024, locals := 12 } (va_Pc [.ref (d q), .int (nI n)] (kC D vCl (kT cI cL cQ) d κ0 sz)) (kQv D vCl (kA d κ0 sz) (fun d' κ' => (∀ k, k ≤ q ∨ q + 2 < k → d' k = d k) ∧ (∀ k, k < q ∨ q + 2 < k → κ' k = κ0 k) ∧ κ' q = some (.inr (2, [.ref (d' (q + 1)), .ref (d' (q + 2)), .int 0])) ∧ κ' (q + 1) = some (.inl (cI, n, .inl (fun _ => 0))) ∧ κ' (q + 2) = some (.inl (cL, n, .inr (.inl (fun _ => 0)))))) 2 1024 (kA d κ0 sz) := by
  refine kMet (by decide) (Nat.le_of_ble_eq_true rfl) ?_
  intro p0 e0 s0 m0 below0 meth0 c0 hx hb hr hml hown hlocks hin hts hsz hP hK ls hl
  subst hsz
  have hl : lv_has ls 2 [(0, .ref (d q)), (1, .int (nI n))] := hl
  have hA : ∀ x, s0.heap.size ≤ x → kA d κ0 s0.heap.size x := fun _ h => Or.inr h
  obtain ⟨dC, κ, hM, hdf, hq, hf, hκf⟩ : ∃ d1 κ1, kW D vCl d1 κ1 (kA d κ0 s0.heap.size) s0.heap s0.heap [] ∧ (∀ k, k ≤ q ∨ q + 2 < k → d1 k = d k) ∧ κ1 q = some (.inr (2, [.null, .null, .int 0])) ∧ (∀ i, 0 < i → i ≤ 2 → κ1 (q + i) = none) ∧ (∀ k, k < q ∨ q + 2 < k → κ1 k = κ0 k) := ⟨d, κ0, kW.start hP, fun _ _ => rfl, hq, fun i h h2 => hn i h h2, fun _ _ => rfl⟩
  refine lv_aload_n hx hb dP_init_0 rfl (lv_at hl 0 rfl) ?_
  refine W.objInit hx hb hown (hts _ tw_59) (hts _ tw_50) (hts _ tw_51) rfl (hl.1.trans hml.symm) rfl dP_init_1 (Nat.le_of_ble_eq_true rfl) (Nat.le_of_ble_eq_true rfl) ?_
  refine W.eq (g2 := F0 m0 4 ls []) rfl ?_
  refine lv_aload_n hx hb dP_init_4 rfl (lv_at hl 0 rfl) ?_
  refine lv_iload_n hx hb dP_init_5 rfl (lv_at hl 1 rfl) ?_
  refine ka_newa (atype := .int) (a0 := (n, .inl (fun _ => 0))) (ty := .int) hx hb (hts _ tw_71) rfl hK 0 rfl (fun _ h => h) hM hA (q + 1) (hf 1 (by decide) (by decide)) (fun _ => rfl) (nI_pos (by omega)) (nI_clamp (by omega)) (by show n * 4 ≤ 536870912; omega) (Nat.le_of_ble_eq_true rfl) (by show 0 + n ≤ 1024; omega) dP_init_6 (fun a1 H hM9 => ?_)
  obtain ⟨dC, κ, hM, hdf, hq, hf, hκf, hk1, ha1⟩ : ∃ d1 κ1, kW D vCl d1 κ1 (kA d κ0 s0.heap.size) s0.heap H [] ∧ (∀ k, k ≤ q ∨ q + 2 < k → d1 k = d k) ∧ κ1 q = some (.inr (2, [.null, .null, .int 0])) ∧ (∀ i, 1 < i → i ≤ 2 → κ1 (q + i) = none) ∧ (∀ k, k < q ∨ q + 2 < k → κ1 k = κ0 k) ∧ κ1 (q + 1) = some (.inl (cI, n, .inl (fun _ => 0))) ∧ d1 (q + 1) = a1 := ⟨_, _, hM9, fun k h => (va_up_ne _ _ (by omega)).trans (hdf k h), (va_up_ne _ _ (by omega)).trans hq, fun i h h2 => (va_up_ne _ _ (by omega)).trans (hf i (by omega) h2), fun k h => (va_up_ne _ _ (by omega)).trans (hκf k h), va_up_self _ _ _, va_up_self _ _ _⟩
  clear hM9
  refine W.widen (k := 1) (n := 512) (by omega) (by omega) ?_
  refine W.eq (g2 := F0 m0 8 ls [.ref a1, .ref (dC q)]) (by rw [hdf q (Or.inl (Nat.le_refl q))]) ?_
  refine ka_putF (D := D) (ci := 2) (v := .ref a1) (ty := .array .int) (C := RP) (T := TP) (N := 3) hx hb hts inP tP tP_ok nP hown hK hM (q := q) hq rfl 0 (by decide) (hts _ tw_60) (fun _ h9 => h9) rfl hin rfl (by decide +kernel) rfl rfl (Nat.le_of_ble_eq_true rfl) dP_init_8 (fun H locs hM => ?_)
  obtain ⟨κ, hM, hq, hf, hκf, hk1⟩ : ∃ κ1, kW D vCl dC κ1 (kA d κ0 s0.heap.size) s0.heap H locs ∧ κ1 q = some (.inr (2, [.ref a1, .null, .int 0])) ∧ (∀ i, 1 < i → i ≤ 2 → κ1 (q + i) = none) ∧ (∀ k, k < q ∨ q + 2 < k → κ1 k = κ0 k) ∧ κ1 (q + 1) = some (.inl (cI, n, .inl (fun _ => 0))) := ⟨_, hM, va_up_self _ _ _, fun i h h2 => (va_up_ne _ _ (by omega)).trans (hf i h h2), fun k h => (va_up_ne _ _ (by omega)).trans (hκf k h), (va_up_ne _ _ (by omega)).trans hk1⟩
  refine lv_aload_n hx hb dP_init_11 rfl (lv_at hl 0 rfl) ?_
  refine lv_iload_n hx hb dP_init_12 rfl (lv_at hl 1 rfl) ?_
  refine ka_newa (atype := .long) (a0 := (n, .inr (.inl (fun _ => 0)))) (ty := .long) hx hb (hts _ tw_70) rfl hK 1 rfl (fun _ h => h) hM hA (q + 2) (hf 2 (by decide) (by decide)) (fun _ => rfl) (nI_pos (by omega)) (nI_clamp (by omega)) (by show n * 8 ≤ 536870912; omega) (Nat.le_of_ble_eq_true rfl) (by show 512 + n ≤ 1024; omega) dP_init_13 (fun a2 H hM9 => ?_)
  obtain ⟨dC, κ, hM, hdf, hq, hf, hκf, hk1, hk2, ha1, ha2⟩ : ∃ d1 κ1, kW D vCl d1 κ1 (kA d κ0 s0.heap.size) s0.heap H locs ∧ (∀ k, k ≤ q ∨ q + 2 < k → d1 k = d k) ∧ κ1 q = some (.inr (2, [.ref a1, .null, .int 0])) ∧ (∀ i, 2 < i → i ≤ 2 → κ1 (q + i) = none) ∧ (∀ k, k < q ∨ q + 2 < k → κ1 k = κ0 k) ∧ κ1 (q + 1) = some (.inl (cI, n, .inl (fun _ => 0))) ∧ κ1 (q + 2) = some (.inl (cL, n, .inr (.inl (fun _ => 0)))) ∧ d1 (q + 1) = a1 ∧ d1 (q + 2) = a2 := ⟨_, _, hM9, fun k h => (va_up_ne _ _ (by omega)).trans (hdf k h), (va_up_ne _ _ (by omega)).trans hq, fun i h h2 => (va_up_ne _ _ (by omega)).trans (hf i (by omega) h2), fun k h => (va_up_ne _ _ (by omega)).trans (hκf k h), (va_up_ne _ _ (by omega)).trans hk1, va_up_self _ _ _, (va_up_ne _ _ (by omega)).trans ha1, va_up_self _ _ _⟩
  clear hM9
  refine W.widen (k := 2) (n := 1024) (by omega) (by omega) ?_
  refine W.eq (g2 := F0 m0 15 ls [.ref a2, .ref (dC q)]) (by rw [hdf q (Or.inl (Nat.le_refl q))]) ?_
  refine ka_putF (D := D) (ci := 2) (v := .ref a2) (ty := .array .long) (C := RP) (T := TP) (N := 3) hx hb hts inP tP tP_ok nP hown hK hM (q := q) hq rfl 1 (by decide) (hts _ tw_61) (fun _ h9 => h9) rfl hin rfl (by decide +kernel) rfl rfl (Nat.le_of_ble_eq_true rfl) dP_init_15 (fun H locs hM => ?_)
  obtain ⟨κ, hM, hq, hf, hκf, hk1, hk2⟩ : ∃ κ1, kW D vCl dC κ1 (kA d κ0 s0.heap.size) s0.heap H locs ∧ κ1 q = some (.inr (2, [.ref a1, .ref a2, .int 0])) ∧ (∀ i, 2 < i → i ≤ 2 → κ1 (q + i) = none) ∧ (∀ k, k < q ∨ q + 2 < k → κ1 k = κ0 k) ∧ κ1 (q + 1) = some (.inl (cI, n, .inl (fun _ => 0))) ∧ κ1 (q + 2) = some (.inl (cL, n, .inr (.inl (fun _ => 0)))) := ⟨_, hM, va_up_self _ _ _, fun i h h2 => (va_up_ne _ _ (by omega)).trans (hf i h h2), fun k h => (va_up_ne _ _ (by omega)).trans (hκf k h), (va_up_ne _ _ (by omega)).trans hk1, (va_up_ne _ _ (by omega)).trans hk2⟩
  refine lv_aload_n hx hb dP_init_18 rfl (lv_at hl 0 rfl) ?_
  refine lv_iconst (v := 0) hx hb dP_init_19 (by decide) ?_
  refine W.eq (g2 := F0 m0 20 ls [.int 0, .ref (dC q)]) (by rw [hdf q (Or.inl (Nat.le_refl q))]) ?_
  refine ka_put (D := D) (ci := 2) (v := .int 0) (ty := .int) (C := RP) (T := TP) (N := 3) hx hb hts inP tP tP_ok nP hown hK hM (q := q) hq rfl 2 (by decide) (hts _ tw_62) (fun _ h9 => h9) rfl (by decide +kernel) rfl rfl (Nat.le_of_ble_eq_true rfl) dP_init_20 (fun H locs hM => ?_)
  obtain ⟨κ, hM, hq, hf, hκf, hk1, hk2⟩ : ∃ κ1, kW D vCl dC κ1 (kA d κ0 s0.heap.size) s0.heap H locs ∧ κ1 q = some (.inr (2, [.ref a1, .ref a2, .int 0])) ∧ (∀ i, 2 < i → i ≤ 2 → κ1 (q + i) = none) ∧ (∀ k, k < q ∨ q + 2 < k → κ1 k = κ0 k) ∧ κ1 (q + 1) = some (.inl (cI, n, .inl (fun _ => 0))) ∧ κ1 (q + 2) = some (.inl (cL, n, .inr (.inl (fun _ => 0)))) := ⟨_, hM, va_up_self _ _ _, fun i h h2 => (va_up_ne _ _ (by omega)).trans (hf i h h2), fun k h => (va_up_ne _ _ (by omega)).trans (hκf k h), (va_up_ne _ _ (by omega)).trans hk1, (va_up_ne _ _ (by omega)).trans hk2⟩
  exact W.vret hx hb hr (fun t ht h9 => kQv.of hM ht ⟨hdf, hκf, (by rw [ha1, ha2]; exact hq), hk1, hk2⟩) hM.2.2.2.2 dP_init_23
theorem dG_init_0 : decode prog_3_method_1_code 0 = .ok (.aload_n 0, 1) := by decide +kernel
theorem dG_init_1 : decode prog_3_method_1_code 1 = .ok (.invokespecial 3, 3) := by decide +kernel
theorem dG_init_4 : decode prog_3_method_1_code 4 = .ok (.aload_n 0, 1) := by decide +kernel
theorem dG_init_5 : decode prog_3_method_1_code 5 = .ok (.iconst 4, 1) := by decide +kernel
theorem dG_init_6 : decode prog_3_method_1_code 6 = .ok (.newarray .int, 2) := by decide +kernel
theorem dG_init_8 : decode prog_3_method_1_code 8 = .ok (.putfield 9, 3) := by decide +kernel
theorem dG_init_11 : decode prog_3_method_1_code 11 = .ok (.aload_n 0, 1) := by decide +kernel
theorem dG_init_12 : decode prog_3_method_1_code 12 = .ok (.iconst 4, 1) := by decide +kernel
theorem dG_init_13 : decode prog_3_method_1_code 13 = .ok (.newarray .int, 2) := by decide +kernel
theorem dG_init_15 : decode prog_3_method_1_code 15 = .ok (.putfield 15, 3) := by decide +kernel
theorem dG_init_18 : decode prog_3_method_1_code 18 = .ok (.aload_n 0, 1) := by decide +kernel
theorem dG_init_19 : decode prog_3_method_1_code 19 = .ok (.iconst 4, 1) := by decide +kernel
theorem dG_init_20 : decode prog_3_method_1_code 20 = .ok (.newarray .int, 2) := by decide +kernel
theorem dG_init_22 : decode prog_3_method_1_code 22 = .ok (.putfield 18, 3) := by decide +kernel
theorem dG_init_25 : decode prog_3_method_1_code 25 = .ok (.aload_n 0, 1) := by decide +kernel
theorem dG_init_26 : decode prog_3_method_1_code 26 = .ok (.iconst 4, 1) := by decide +kernel
theorem dG_init_27 : decode prog_3_method_1_code 27 = .ok (.newarray .long, 2) := by decide +kernel
theorem dG_init_29 : decode prog_3_method_1_code 29 = .ok (.putfield 21, 3) := by decide +kernel
theorem dG_init_32 : decode prog_3_method_1_code 32 = .ok (.aload_n 0, 1) := by decide +kernel
theorem dG_init_33 : decode prog_3_method_1_code 33 = .ok (.iconst 0, 1) := by decide +kernel
theorem dG_init_34 : decode prog_3_method_1_code 34 = .ok (.putfield 25, 3) := by decide +kernel
theorem dG_init_37 : decode prog_3_method_1_code 37 = .ok (.return_, 1) := by decide +kernel
set_option maxHeartbeats 4000000 in
set_option maxRecDepth 100000 in
theorem c_G_init (l : Launch) (D : va_G) (cI cL cQ : ClassId) (d : Nat → Nat) (κ0 : Nat → Option va_E) (q : Nat)  (hq : κ0 q = some (.inr (1, [.null, .null, .null, .null, .int 0]))) (hn : ∀ i, 0 < i → i ≤ 4 → κ0 (q + i) = none) (sz : Nat) : Met l yG_init wG_init { frames := 1, cells := 4, slots := 16, locals := 12 } (va_Pc [.ref (d q)] (kC D vCl (kT cI cL cQ) d κ0 sz)) (kQv D vCl (kA d κ0 sz) (fun d' κ' => (∀ k, k ≤ q ∨ q + 4 < k → d' k = d k) ∧ (∀ k, k < q ∨ q + 4 < k → κ' k = κ0 k) ∧ κ' q = some (.inr (1, [.ref (d' (q + 1)), .ref (d' (q + 2)), .ref (d' (q + 3)), .ref (d' (q + 4)), .int 0])) ∧ κ' (q + 1) = some (.inl (cI, 4, .inl (fun _ => 0))) ∧ κ' (q + 2) = some (.inl (cI, 4, .inl (fun _ => 0))) ∧ κ' (q + 3) = some (.inl (cI, 4, .inl (fun _ => 0))) ∧ κ' (q + 4) = some (.inl (cL, 4, .inr (.inl (fun _ => 0)))))) 4 16 (kA d κ0 sz) := by
  refine kMet (by decide) (Nat.le_of_ble_eq_true rfl) ?_
  intro p0 e0 s0 m0 below0 meth0 c0 hx hb hr hml hown hlocks hin hts hsz hP hK ls hl
  subst hsz
  have hl : lv_has ls 1 [(0, .ref (d q))] := hl
  have hA : ∀ x, s0.heap.size ≤ x → kA d κ0 s0.heap.size x := fun _ h => Or.inr h
  obtain ⟨dC, κ, hM, hdf, hq, hf, hκf⟩ : ∃ d1 κ1, kW D vCl d1 κ1 (kA d κ0 s0.heap.size) s0.heap s0.heap [] ∧ (∀ k, k ≤ q ∨ q + 4 < k → d1 k = d k) ∧ κ1 q = some (.inr (1, [.null, .null, .null, .null, .int 0])) ∧ (∀ i, 0 < i → i ≤ 4 → κ1 (q + i) = none) ∧ (∀ k, k < q ∨ q + 4 < k → κ1 k = κ0 k) := ⟨d, κ0, kW.start hP, fun _ _ => rfl, hq, fun i h h2 => hn i h h2, fun _ _ => rfl⟩
  refine lv_aload_n hx hb dG_init_0 rfl (lv_at hl 0 rfl) ?_
  refine W.objInit hx hb hown (hts _ tw_77) (hts _ tw_50) (hts _ tw_51) rfl (hl.1.trans hml.symm) rfl dG_init_1 (Nat.le_of_ble_eq_true rfl) (Nat.le_of_ble_eq_true rfl) ?_
  refine W.eq (g2 := F0 m0 4 ls []) rfl ?_
  refine lv_aload_n hx hb dG_init_4 rfl (lv_at hl 0 rfl) ?_
  refine lv_iconst (v := 4) hx hb dG_init_5 (by decide) ?_
  refine ka_newa (atype := .int) (a0 := (4, .inl (fun _ => 0))) (ty := .int) hx hb (hts _ tw_71) rfl hK 0 rfl (fun _ h => h) hM hA (q + 1) (hf 1 (by decide) (by decide)) (fun _ => rfl) (by decide) (by decide) (by decide) (Nat.le_of_ble_eq_true rfl) (Nat.le_of_ble_eq_true rfl) dG_init_6 (fun a1 H hM9 => ?_)
  obtain ⟨dC, κ, hM, hdf, hq, hf, hκf, hk1, ha1⟩ : ∃ d1 κ1, kW D vCl d1 κ1 (kA d κ0 s0.heap.size) s0.heap H [] ∧ (∀ k, k ≤ q ∨ q + 4 < k → d1 k = d k) ∧ κ1 q = some (.inr (1, [.null, .null, .null, .null, .int 0])) ∧ (∀ i, 1 < i → i ≤ 4 → κ1 (q + i) = none) ∧ (∀ k, k < q ∨ q + 4 < k → κ1 k = κ0 k) ∧ κ1 (q + 1) = some (.inl (cI, 4, .inl (fun _ => 0))) ∧ d1 (q + 1) = a1 := ⟨_, _, hM9, fun k h => (va_up_ne _ _ (by omega)).trans (hdf k h), (va_up_ne _ _ (by omega)).trans hq, fun i h h2 => (va_up_ne _ _ (by omega)).trans (hf i (by omega) h2), fun k h => (va_up_ne _ _ (by omega)).trans (hκf k h), va_up_self _ _ _, va_up_self _ _ _⟩
  clear hM9
  refine W.widen (k := 1) (n := 4) (by omega) (by omega) ?_
  refine W.eq (g2 := F0 m0 8 ls [.ref a1, .ref (dC q)]) (by rw [hdf q (Or.inl (Nat.le_refl q))]) ?_
  refine ka_putF (D := D) (ci := 1) (v := .ref a1) (ty := .array .int) (C := RG) (T := TG) (N := 5) hx hb hts inG tG tG_ok nG hown hK hM (q := q) hq rfl 0 (by decide) (hts _ tw_78) (fun _ h9 => h9) rfl hin rfl (by decide +kernel) rfl rfl (Nat.le_of_ble_eq_true rfl) dG_init_8 (fun H locs hM => ?_)
  obtain ⟨κ, hM, hq, hf, hκf, hk1⟩ : ∃ κ1, kW D vCl dC κ1 (kA d κ0 s0.heap.size) s0.heap H locs ∧ κ1 q = some (.inr (1, [.ref a1, .null, .null, .null, .int 0])) ∧ (∀ i, 1 < i → i ≤ 4 → κ1 (q + i) = none) ∧ (∀ k, k < q ∨ q + 4 < k → κ1 k = κ0 k) ∧ κ1 (q + 1) = some (.inl (cI, 4, .inl (fun _ => 0))) := ⟨_, hM, va_up_self _ _ _, fun i h h2 => (va_up_ne _ _ (by omega)).trans (hf i h h2), fun k h => (va_up_ne _ _ (by omega)).trans (hκf k h), (va_up_ne _ _ (by omega)).trans hk1⟩
  refine lv_aload_n hx hb dG_init_11 rfl (lv_at hl 0 rfl) ?_
  refine lv_iconst (v := 4) hx hb dG_init_12 (by decide) ?_
  refine ka_newa (atype := .int) (a0 := (4, .inl (fun _ => 0))) (ty := .int) hx hb (hts _ tw_71) rfl hK 0 rfl (fun _ h => h) hM hA (q + 2) (hf 2 (by decide) (by decide)) (fun _ => rfl) (by decide) (by decide) (by decide) (Nat.le_of_ble_eq_true rfl) (Nat.le_of_ble_eq_true rfl) dG_init_13 (fun a2 H hM9 => ?_)
  obtain ⟨dC, κ, hM, hdf, hq, hf, hκf, hk1, hk2, ha1, ha2⟩ : ∃ d1 κ1, kW D vCl d1 κ1 (kA d κ0 s0.heap.size) s0.heap H locs ∧ (∀ k, k ≤ q ∨ q + 4 < k → d1 k = d k) ∧ κ1 q = some (.inr (1, [.ref a1, .null, .null, .null, .int 0])) ∧ (∀ i, 2 < i → i ≤ 4 → κ1 (q + i) = none) ∧ (∀ k, k < q ∨ q + 4 < k → κ1 k = κ0 k) ∧ κ1 (q + 1) = some (.inl (cI, 4, .inl (fun _ => 0))) ∧ κ1 (q + 2) = some (.inl (cI, 4, .inl (fun _ => 0))) ∧ d1 (q + 1) = a1 ∧ d1 (q + 2) = a2 := ⟨_, _, hM9, fun k h => (va_up_ne _ _ (by omega)).trans (hdf k h), (va_up_ne _ _ (by omega)).trans hq, fun i h h2 => (va_up_ne _ _ (by omega)).trans (hf i (by omega) h2), fun k h => (va_up_ne _ _ (by omega)).trans (hκf k h), (va_up_ne _ _ (by omega)).trans hk1, va_up_self _ _ _, (va_up_ne _ _ (by omega)).trans ha1, va_up_self _ _ _⟩
  clear hM9
  refine W.widen (k := 2) (n := 8) (by omega) (by omega) ?_
  refine W.eq (g2 := F0 m0 15 ls [.ref a2, .ref (dC q)]) (by rw [hdf q (Or.inl (Nat.le_refl q))]) ?_
  refine ka_putF (D := D) (ci := 1) (v := .ref a2) (ty := .array .int) (C := RG) (T := TG) (N := 5) hx hb hts inG tG tG_ok nG hown hK hM (q := q) hq rfl 1 (by decide) (hts _ tw_80) (fun _ h9 => h9) rfl hin rfl (by decide +kernel) rfl rfl (Nat.le_of_ble_eq_true rfl) dG_init_15 (fun H locs hM => ?_)
  obtain ⟨κ, hM, hq, hf, hκf, hk1, hk2⟩ : ∃ κ1, kW D vCl dC κ1 (kA d κ0 s0.heap.size) s0.heap H locs ∧ κ1 q = some (.inr (1, [.ref a1, .ref a2, .null, .null, .int 0])) ∧ (∀ i, 2 < i → i ≤ 4 → κ1 (q + i) = none) ∧ (∀ k, k < q ∨ q + 4 < k → κ1 k = κ0 k) ∧ κ1 (q + 1) = some (.inl (cI, 4, .inl (fun _ => 0))) ∧ κ1 (q + 2) = some (.inl (cI, 4, .inl (fun _ => 0))) := ⟨_, hM, va_up_self _ _ _, fun i h h2 => (va_up_ne _ _ (by omega)).trans (hf i h h2), fun k h => (va_up_ne _ _ (by omega)).trans (hκf k h), (va_up_ne _ _ (by omega)).trans hk1, (va_up_ne _ _ (by omega)).trans hk2⟩
  refine lv_aload_n hx hb dG_init_18 rfl (lv_at hl 0 rfl) ?_
  refine lv_iconst (v := 4) hx hb dG_init_19 (by decide) ?_
  refine ka_newa (atype := .int) (a0 := (4, .inl (fun _ => 0))) (ty := .int) hx hb (hts _ tw_71) rfl hK 0 rfl (fun _ h => h) hM hA (q + 3) (hf 3 (by decide) (by decide)) (fun _ => rfl) (by decide) (by decide) (by decide) (Nat.le_of_ble_eq_true rfl) (Nat.le_of_ble_eq_true rfl) dG_init_20 (fun a3 H hM9 => ?_)
  obtain ⟨dC, κ, hM, hdf, hq, hf, hκf, hk1, hk2, hk3, ha1, ha2, ha3⟩ : ∃ d1 κ1, kW D vCl d1 κ1 (kA d κ0 s0.heap.size) s0.heap H locs ∧ (∀ k, k ≤ q ∨ q + 4 < k → d1 k = d k) ∧ κ1 q = some (.inr (1, [.ref a1, .ref a2, .null, .null, .int 0])) ∧ (∀ i, 3 < i → i ≤ 4 → κ1 (q + i) = none) ∧ (∀ k, k < q ∨ q + 4 < k → κ1 k = κ0 k) ∧ κ1 (q + 1) = some (.inl (cI, 4, .inl (fun _ => 0))) ∧ κ1 (q + 2) = some (.inl (cI, 4, .inl (fun _ => 0))) ∧ κ1 (q + 3) = some (.inl (cI, 4, .inl (fun _ => 0))) ∧ d1 (q + 1) = a1 ∧ d1 (q + 2) = a2 ∧ d1 (q + 3) = a3 := ⟨_, _, hM9, fun k h => (va_up_ne _ _ (by omega)).trans (hdf k h), (va_up_ne _ _ (by omega)).trans hq, fun i h h2 => (va_up_ne _ _ (by omega)).trans (hf i (by omega) h2), fun k h => (va_up_ne _ _ (by omega)).trans (hκf k h), (va_up_ne _ _ (by omega)).trans hk1, (va_up_ne _ _ (by omega)).trans hk2, va_up_self _ _ _, (va_up_ne _ _ (by omega)).trans ha1, (va_up_ne _ _ (by omega)).trans ha2, va_up_self _ _ _⟩
  clear hM9
  refine W.widen (k := 3) (n := 12) (by omega) (by omega) ?_
  refine W.eq (g2 := F0 m0 22 ls [.ref a3, .ref (dC q)]) (by rw [hdf q (Or.inl (Nat.le_refl q))]) ?_
  refine ka_putF (D := D) (ci := 1) (v := .ref a3) (ty := .array .int) (C := RG) (T := TG) (N := 5) hx hb hts inG tG tG_ok nG hown hK hM (q := q) hq rfl 2 (by decide) (hts _ tw_82) (fun _ h9 => h9) rfl hin rfl (by decide +kernel) rfl rfl (Nat.le_of_ble_eq_true rfl) dG_init_22 (fun H locs hM => ?_)
  obtain ⟨κ, hM, hq, hf, hκf, hk1, hk2, hk3⟩ : ∃ κ1, kW D vCl dC κ1 (kA d κ0 s0.heap.size) s0.heap H locs ∧ κ1 q = some (.inr (1, [.ref a1, .ref a2, .ref a3, .null, .int 0])) ∧ (∀ i, 3 < i → i ≤ 4 → κ1 (q + i) = none) ∧ (∀ k, k < q ∨ q + 4 < k → κ1 k = κ0 k) ∧ κ1 (q + 1) = some (.inl (cI, 4, .inl (fun _ => 0))) ∧ κ1 (q + 2) = some (.inl (cI, 4, .inl (fun _ => 0))) ∧ κ1 (q + 3) = some (.inl (cI, 4, .inl (fun _ => 0))) := ⟨_, hM, va_up_self _ _ _, fun i h h2 => (va_up_ne _ _ (by omega)).trans (hf i h h2), fun k h => (va_up_ne _ _ (by omega)).trans (hκf k h), (va_up_ne _ _ (by omega)).trans hk1, (va_up_ne _ _ (by omega)).trans hk2, (va_up_ne _ _ (by omega)).trans hk3⟩
  refine lv_aload_n hx hb dG_init_25 rfl (lv_at hl 0 rfl) ?_
  refine lv_iconst (v := 4) hx hb dG_init_26 (by decide) ?_
  refine ka_newa (atype := .long) (a0 := (4, .inr (.inl (fun _ => 0)))) (ty := .long) hx hb (hts _ tw_70) rfl hK 1 rfl (fun _ h => h) hM hA (q + 4) (hf 4 (by decide) (by decide)) (fun _ => rfl) (by decide) (by decide) (by decide) (Nat.le_of_ble_eq_true rfl) (Nat.le_of_ble_eq_true rfl) dG_init_27 (fun a4 H hM9 => ?_)
  obtain ⟨dC, κ, hM, hdf, hq, hf, hκf, hk1, hk2, hk3, hk4, ha1, ha2, ha3, ha4⟩ : ∃ d1 κ1, kW D vCl d1 κ1 (kA d κ0 s0.heap.size) s0.heap H locs ∧ (∀ k, k ≤ q ∨ q + 4 < k → d1 k = d k) ∧ κ1 q = some (.inr (1, [.ref a1, .ref a2, .ref a3, .null, .int 0])) ∧ (∀ i, 4 < i → i ≤ 4 → κ1 (q + i) = none) ∧ (∀ k, k < q ∨ q + 4 < k → κ1 k = κ0 k) ∧ κ1 (q + 1) = some (.inl (cI, 4, .inl (fun _ => 0))) ∧ κ1 (q + 2) = some (.inl (cI, 4, .inl (fun _ => 0))) ∧ κ1 (q + 3) = some (.inl (cI, 4, .inl (fun _ => 0))) ∧ κ1 (q + 4) = some (.inl (cL, 4, .inr (.inl (fun _ => 0)))) ∧ d1 (q + 1) = a1 ∧ d1 (q + 2) = a2 ∧ d1 (q + 3) = a3 ∧ d1 (q + 4) = a4 := ⟨_, _, hM9, fun k h => (va_up_ne _ _ (by omega)).trans (hdf k h), (va_up_ne _ _ (by omega)).trans hq, fun i h h2 => (va_up_ne _ _ (by omega)).trans (hf i (by omega) h2), fun k h => (va_up_ne _ _ (by omega)).trans (hκf k h), (va_up_ne _ _ (by omega)).trans hk1, (va_up_ne _ _ (by omega)).trans hk2, (va_up_ne _ _ (by omega)).trans hk3, va_up_self _ _ _, (va_up_ne _ _ (by omega)).trans ha1, (va_up_ne _ _ (by omega)).trans ha2, (va_up_ne _ _ (by omega)).trans ha3, va_up_self _ _ _⟩
  clear hM9
  refine W.widen (k := 4) (n := 16) (by omega) (by omega) ?_
  refine W.eq (g2 := F0 m0 29 ls [.ref a4, .ref (dC q)]) (by rw [hdf q (Or.inl (Nat.le_refl q))]) ?_
  refine ka_putF (D := D) (ci := 1) (v := .ref a4) (ty := .array .long) (C := RG) (T := TG) (N := 5) hx hb hts inG tG tG_ok nG hown hK hM (q := q) hq rfl 3 (by decide) (hts _ tw_84) (fun _ h9 => h9) rfl hin rfl (by decide +kernel) rfl rfl (Nat.le_of_ble_eq_true rfl) dG_init_29 (fun H locs hM => ?_)
  obtain ⟨κ, hM, hq, hf, hκf, hk1, hk2, hk3, hk4⟩ : ∃ κ1, kW D vCl dC κ1 (kA d κ0 s0.heap.size) s0.heap H locs ∧ κ1 q = some (.inr (1, [.ref a1, .ref a2, .ref a3, .ref a4, .int 0])) ∧ (∀ i, 4 < i → i ≤ 4 → κ1 (q + i) = none) ∧ (∀ k, k < q ∨ q + 4 < k → κ1 k = κ0 k) ∧ κ1 (q + 1) = some (.inl (cI, 4, .inl (fun _ => 0))) ∧ κ1 (q + 2) = some (.inl (cI, 4, .inl (fun _ => 0))) ∧ κ1 (q + 3) = some (.inl (cI, 4, .inl (fun _ => 0))) ∧ κ1 (q + 4) = some (.inl (cL, 4, .inr (.inl (fun _ => 0)))) := ⟨_, hM, va_up_self _ _ _, fun i h h2 => (va_up_ne _ _ (by omega)).trans (hf i h h2), fun k h => (va_up_ne _ _ (by omega)).trans (hκf k h), (va_up_ne _ _ (by omega)).trans hk1, (va_up_ne _ _ (by omega)).trans hk2, (va_up_ne _ _ (by omega)).trans hk3, (va_up_ne _ _ (by omega)).trans hk4⟩
  refine lv_aload_n hx hb dG_init_32 rfl (lv_at hl 0 rfl) ?_
  refine lv_iconst (v := 0) hx hb dG_init_33 (by decide) ?_
  refine W.eq (g2 := F0 m0 34 ls [.int 0, .ref (dC q)]) (by rw [hdf q (Or.inl (Nat.le_refl q))]) ?_
  refine ka_put (D := D) (ci := 1) (v := .int 0) (ty := .int) (C := RG) (T := TG) (N := 5) hx hb hts inG tG tG_ok nG hown hK hM (q := q) hq rfl 4 (by decide) (hts _ tw_86) (fun _ h9 => h9) rfl (by decide +kernel) rfl rfl (Nat.le_of_ble_eq_true rfl) dG_init_34 (fun H locs hM => ?_)
  obtain ⟨κ, hM, hq, hf, hκf, hk1, hk2, hk3, hk4⟩ : ∃ κ1, kW D vCl dC κ1 (kA d κ0 s0.heap.size) s0.heap H locs ∧ κ1 q = some (.inr (1, [.ref a1, .ref a2, .ref a3, .ref a4, .int 0])) ∧ (∀ i, 4 < i → i ≤ 4 → κ1 (q + i) = none) ∧ (∀ k, k < q ∨ q + 4 < k → κ1 k = κ0 k) ∧ κ1 (q + 1) = some (.inl (cI, 4, .inl (fun _ => 0))) ∧ κ1 (q + 2) = some (.inl (cI, 4, .inl (fun _ => 0))) ∧ κ1 (q + 3) = some (.inl (cI, 4, .inl (fun _ => 0))) ∧ κ1 (q + 4) = some (.inl (cL, 4, .inr (.inl (fun _ => 0)))) := ⟨_, hM, va_up_self _ _ _, fun i h h2 => (va_up_ne _ _ (by omega)).trans (hf i h h2), fun k h => (va_up_ne _ _ (by omega)).trans (hκf k h), (va_up_ne _ _ (by omega)).trans hk1, (va_up_ne _ _ (by omega)).trans hk2, (va_up_ne _ _ (by omega)).trans hk3, (va_up_ne _ _ (by omega)).trans hk4⟩
  exact W.vret hx hb hr (fun t ht h9 => kQv.of hM ht ⟨hdf, hκf, (by rw [ha1, ha2, ha3, ha4]; exact hq), hk1, hk2, hk3, hk4⟩) hM.2.2.2.2 dG_init_37
