theorem dA_init_0 : decode prog_2_method_1_code 0 = .ok (.aload_n 0, 1) := by decide +kernel
theorem dA_init_1 : decode prog_2_method_1_code 1 = .ok (.invokespecial 1, 3) := by decide +kernel
theorem dA_init_4 : decode prog_2_method_1_code 4 = .ok (.aload_n 0, 1) := by decide +kernel
theorem dA_init_5 : decode prog_2_method_1_code 5 = .ok (.iload_n 1, 1) := by decide +kernel
theorem dA_init_6 : decode prog_2_method_1_code 6 = .ok (.putfield 7, 3) := by decide +kernel
theorem dA_init_9 : decode prog_2_method_1_code 9 = .ok (.aload_n 0, 1) := by decide +kernel
theorem dA_init_10 : decode prog_2_method_1_code 10 = .ok (.lload_n 2, 1) := by decide +kernel
theorem dA_init_11 : decode prog_2_method_1_code 11 = .ok (.putfield 13, 3) := by decide +kernel
theorem dA_init_14 : decode prog_2_method_1_code 14 = .ok (.aload_n 0, 1) := by decide +kernel
theorem dA_init_15 : decode prog_2_method_1_code 15 = .ok (.iload 4, 2) := by decide +kernel
theorem dA_init_17 : decode prog_2_method_1_code 17 = .ok (.newarray .long, 2) := by decide +kernel
theorem dA_init_19 : decode prog_2_method_1_code 19 = .ok (.putfield 17, 3) := by decide +kernel
theorem dA_init_22 : decode prog_2_method_1_code 22 = .ok (.aload_n 0, 1) := by decide +kernel
theorem dA_init_23 : decode prog_2_method_1_code 23 = .ok (.iload_n 1, 1) := by decide +kernel
theorem dA_init_24 : decode prog_2_method_1_code 24 = .ok (.ifCond .eq 8, 3) := by decide +kernel
theorem dA_init_27 : decode prog_2_method_1_code 27 = .ok (.iload 4, 2) := by decide +kernel
theorem dA_init_29 : decode prog_2_method_1_code 29 = .ok (.goto 4, 3) := by decide +kernel
theorem dA_init_32 : decode prog_2_method_1_code 32 = .ok (.iconst 0, 1) := by decide +kernel
theorem dA_init_33 : decode prog_2_method_1_code 33 = .ok (.newarray .long, 2) := by decide +kernel
theorem dA_init_35 : decode prog_2_method_1_code 35 = .ok (.putfield 21, 3) := by decide +kernel
theorem dA_init_38 : decode prog_2_method_1_code 38 = .ok (.return_, 1) := by decide +kernel
/-! methods that make cells -/
theorem k_fitB {v : Int32} (h : v = 0 ∨ v = 1) : fits .boolean (.int v) = true := by
  rcases h with rfl | rfl <;> decide +kernel
theorem kH.old {D : va_G} {cl : List vw_C} {d : Nat → Nat} {κ : Nat → Option va_E} {H : Heap} {q a : Nat} {e : va_E} (h : kH D cl (va_up d q a) (va_up κ q (some e)) H) (hq : κ q = none) : kH D cl d κ H := by
  have ne : ∀ (k : Nat) (f : va_E), κ k = some f → k ≠ q := fun k f hk z => by rw [z, hq] at hk; cases hk
  refine ⟨fun k f hk => ?_, fun i j f g hi hj hij => ?_⟩
  · have h1 := h.1 k f (by rw [va_up_ne _ _ (ne k f hk)]; exact hk)
    rw [va_up_ne _ _ (ne k f hk)] at h1
    exact h1
  · exact h.2 i j f g (by rw [va_up_ne _ _ (ne i f hi)]; exact hi) (by rw [va_up_ne _ _ (ne j g hj)]; exact hj) (by rw [va_up_ne _ _ (ne i f hi), va_up_ne _ _ (ne j g hj)]; exact hij)
/-- what Asset's constructor leaves at the keys q, q + 1, q + 2 -/
def AI (cL : ClassId) (d : Nat → Nat) (κ0 : Nat → Option va_E) (q P : Nat) (sec : Int32) (rate : Int64) (d' : Nat → Nat) (κ' : Nat → Option va_E) : Prop :=
  (∀ k, ¬ k = q + 1 → ¬ k = q + 2 → d' k = d k) ∧ (∀ k, ¬ k = q → ¬ k = q + 1 → ¬ k = q + 2 → κ' k = κ0 k) ∧ κ' q = some (.inr (0, [.int sec, .ref (d' (q + 1)), .ref (d' (q + 2)), .long rate])) ∧ κ' (q + 1) = some (.inl (cL, P, .inr (.inl (fun _ => 0)))) ∧ κ' (q + 2) = some (.inl (cL, if sec = 0 then 0 else P, .inr (.inl (fun _ => 0))))
set_option maxHeartbeats 4000000 in
set_option maxRecDepth 100000 in
theorem c_A_init (l : Launch) (D : va_G) (cI cL cQ : ClassId) (d : Nat → Nat) (κ0 : Nat → Option va_E) (q P : Nat) (hq : κ0 q = some (.inr (0, [.int 0, .null, .null, .long 0]))) (h1 : κ0 (q + 1) = none) (h2 : κ0 (q + 2) = none) (hP2 : P ≤ 256) (sz : Nat) (sec : Int32) (hs : sec = 0 ∨ sec = 1) (rate : Int64) : Met l yA_init wA_init { frames := 1, cells := 2, slots := 512, locals := 12 } (va_Pc [.ref (d q), .int (sec), .long (rate), .int (nI P)] (kC D vCl (kT cI cL cQ) d κ0 sz)) (kQv D vCl (kA d κ0 sz) (fun d' κ' => AI cL d κ0 q P sec rate d' κ')) 2 512 (kA d κ0 sz) := by
  refine kMet (by decide) (Nat.le_of_ble_eq_true rfl) ?_
  intro p0 e0 s0 m0 below0 meth0 c0 hx hb hr hml hown hlocks hin hts hsz hP hK ls hl
  subst hsz
  have hl : lv_has ls 5 [(0, .ref (d q)), (1, .int (sec)), (2, .long (rate)), (4, .int (nI P))] := hl
  have hA : ∀ x, s0.heap.size ≤ x → kA d κ0 s0.heap.size x := fun _ h => Or.inr h
  have hM := kW.start hP
  refine lv_aload_n hx hb dA_init_0 rfl (lv_at hl 0 rfl) ?_
  refine W.objInit hx hb hown (hts _ tw_142) (hts _ tw_50) (hts _ tw_51) rfl (hl.1.trans hml.symm) rfl dA_init_1 (Nat.le_of_ble_eq_true rfl) (Nat.le_of_ble_eq_true rfl) ?_
  refine W.eq (g2 := F0 m0 4 ls []) rfl ?_
  refine lv_aload_n hx hb dA_init_4 rfl (lv_at hl 0 rfl) ?_
  refine lv_iload_n hx hb dA_init_5 rfl (lv_at hl 1 rfl) ?_
  refine ka_putF (D := D) (ci := 0) (v := .int sec) (ty := .boolean) (C := RA) (T := TA) (N := 4) hx hb hts inA tA tA_ok nA hown hK hM (q := q) hq rfl 0 (by decide) (hts _ tw_143) (fun _ h9 => h9) rfl hin rfl (by decide +kernel) (k_nar hs) (k_fitB hs) (Nat.le_of_ble_eq_true rfl) dA_init_6 (fun H locs hM => ?_)
  obtain ⟨κ, hM, hκq, hκ⟩ : ∃ κ', kW D vCl d κ' (kA d κ0 s0.heap.size) s0.heap H locs ∧ κ' q = some (.inr (0, [.int sec, .null, .null, .long 0])) ∧ ∀ k, ¬ k = q → κ' k = κ0 k := ⟨_, hM, va_up_self _ _ _, fun k h => va_up_ne _ _ h⟩
  refine lv_aload_n hx hb dA_init_9 rfl (lv_at hl 0 rfl) ?_
  refine lv_lload_n hx hb dA_init_10 rfl (lv_at hl 2 rfl) ?_
  refine ka_put (D := D) (ci := 0) (v := .long rate) (ty := .long) (C := RA) (T := TA) (N := 4) hx hb hts inA tA tA_ok nA hown hK hM (q := q) hκq rfl 3 (by decide) (hts _ tw_149) (fun _ h9 => h9) rfl (by decide +kernel) rfl rfl (Nat.le_of_ble_eq_true rfl) dA_init_11 (fun H locs hM => ?_)
  obtain ⟨κ, hM, hκq, hκ⟩ : ∃ κ', kW D vCl d κ' (kA d κ0 s0.heap.size) s0.heap H locs ∧ κ' q = some (.inr (0, [.int sec, .null, .null, .long rate])) ∧ ∀ k, ¬ k = q → κ' k = κ0 k := ⟨_, hM, va_up_self _ _ _, fun k h => (va_up_ne _ _ h).trans (hκ k h)⟩
  refine lv_aload_n hx hb dA_init_14 rfl (lv_at hl 0 rfl) ?_
  refine lv_iload hx hb dA_init_15 (lv_at hl 3 rfl) ?_
  refine ka_newa (atype := .long) (a0 := (P, .inr (.inl (fun _ => 0)))) (ty := .long) hx hb (hts _ tw_70) rfl hK 1 rfl (fun _ h => h) hM hA (q + 1) ((hκ _ (by omega)).trans h1) (fun _ => rfl) (nI_pos (by omega)) (nI_clamp (by omega)) (by show P * 8 ≤ 536870912; omega) (Nat.le_of_ble_eq_true rfl) (by show 0 + P ≤ 512; omega) dA_init_17 (fun a1 H hM9 => ?_)
  obtain ⟨d1, κ1, hM, ea, hd1, hq1, hq1n, hκ1⟩ : ∃ d1 κ1, kW D vCl d1 κ1 (kA d κ0 s0.heap.size) s0.heap H locs ∧ a1 = d1 (q + 1) ∧ (∀ k, ¬ k = q + 1 → d1 k = d k) ∧ κ1 q = some (.inr (0, [.int sec, .null, .null, .long rate])) ∧ κ1 (q + 1) = some (.inl (cL, P, .inr (.inl (fun _ => 0)))) ∧ ∀ k, ¬ k = q → ¬ k = q + 1 → κ1 k = κ0 k := ⟨_, _, hM9, (va_up_self _ _ _).symm, fun k h => va_up_ne _ _ h, (va_up_ne _ _ (by omega)).trans hκq, va_up_self _ _ _, fun k h h' => (va_up_ne _ _ h').trans (hκ k h)⟩
  clear hM9
  subst ea
  refine W.widen (k := 1) (n := 256) (by omega) (by omega) ?_
  refine W.eq (g2 := F0 m0 19 ls [.ref (d1 (q + 1)), .ref (d1 q)]) (by rw [hd1 q (by omega)]) ?_
  refine ka_putF (D := D) (ci := 0) (v := .ref (d1 (q + 1))) (ty := .array .long) (C := RA) (T := TA) (N := 4) hx hb hts inA tA tA_ok nA hown hK hM (q := q) hq1 rfl 1 (by decide) (hts _ tw_145) (fun _ h9 => h9) rfl hin rfl (by decide +kernel) rfl rfl (Nat.le_of_ble_eq_true rfl) dA_init_19 (fun H locs hM => ?_)
  obtain ⟨κ, hM, hκq, hq1n, hκ⟩ : ∃ κ', kW D vCl d1 κ' (kA d κ0 s0.heap.size) s0.heap H locs ∧ κ' q = some (.inr (0, [.int sec, .ref (d1 (q + 1)), .null, .long rate])) ∧ κ' (q + 1) = some (.inl (cL, P, .inr (.inl (fun _ => 0)))) ∧ ∀ k, ¬ k = q → ¬ k = q + 1 → κ' k = κ0 k := ⟨_, hM, va_up_self _ _ _, (va_up_ne _ _ (by omega)).trans hq1n, fun k h h' => (va_up_ne _ _ h).trans (hκ1 k h h')⟩
  refine lv_aload_n hx hb dA_init_22 rfl (lv_at hl 0 rfl) ?_
  refine lv_iload_n hx hb dA_init_23 rfl (lv_at hl 1 rfl) ?_
  have tail : ∀ (N : Nat) (v : Int32), v = nI N → N ≤ 256 → N = (if sec = 0 then 0 else P) → W p0 l e0 { frames := 1, cells := 2, slots := 512, locals := 12 } s0 m0 [Value.ref (d q), .int (sec), .long (rate), .int (nI P)].toArray below0 meth0 c0 H locs 1 256 (MQ below0 (kQv D vCl (kA d κ0 s0.heap.size) (fun d' κ' => AI cL d κ0 q P sec rate d' κ')) [Value.ref (d q), .int (sec), .long (rate), .int (nI P)].toArray s0 2 512 (kA d κ0 s0.heap.size)) (F0 m0 33 ls [.int v, .ref (d q)]) := by
    intro N v ev hN eN
    subst ev
    refine ka_newa (atype := .long) (a0 := (N, .inr (.inl (fun _ => 0)))) (ty := .long) hx hb (hts _ tw_70) rfl hK 1 rfl (fun _ h => h) hM hA (q + 2) ((hκ _ (by omega) (by omega)).trans h2) (fun _ => rfl) (nI_pos (by omega)) (nI_clamp (by omega)) (by show N * 8 ≤ 536870912; omega) (Nat.le_of_ble_eq_true rfl) (by show 256 + N ≤ 512; omega) dA_init_33 (fun a2 H hM9 => ?_)
    obtain ⟨d2, κ2, hM, ea, hd2, hq2, hq2a, hq2b, hκ2⟩ : ∃ d2 κ2, kW D vCl d2 κ2 (kA d κ0 s0.heap.size) s0.heap H locs ∧ a2 = d2 (q + 2) ∧ (∀ k, ¬ k = q + 2 → d2 k = d1 k) ∧ κ2 q = some (.inr (0, [.int sec, .ref (d1 (q + 1)), .null, .long rate])) ∧ κ2 (q + 1) = some (.inl (cL, P, .inr (.inl (fun _ => 0)))) ∧ κ2 (q + 2) = some (.inl (cL, N, .inr (.inl (fun _ => 0)))) ∧ ∀ k, ¬ k = q → ¬ k = q + 1 → ¬ k = q + 2 → κ2 k = κ0 k := ⟨_, _, hM9, (va_up_self _ _ _).symm, fun k h => va_up_ne _ _ h, (va_up_ne _ _ (by omega)).trans hκq, (va_up_ne _ _ (by omega)).trans hq1n, va_up_self _ _ _, fun k h h' h'' => (va_up_ne _ _ h'').trans (hκ k h h')⟩
    clear hM9
    subst ea
    refine W.widen (k := 2) (n := 512) (by omega) (by omega) ?_
    refine W.eq (g2 := F0 m0 35 ls [.ref (d2 (q + 2)), .ref (d2 q)]) (by rw [hd2 q (by omega), hd1 q (by omega)]) ?_
    refine ka_putF (D := D) (ci := 0) (v := .ref (d2 (q + 2))) (ty := .array .long) (C := RA) (T := TA) (N := 4) hx hb hts inA tA tA_ok nA hown hK hM (q := q) hq2 rfl 2 (by decide) (hts _ tw_147) (fun _ h9 => h9) rfl hin rfl (by decide +kernel) rfl rfl (Nat.le_of_ble_eq_true rfl) dA_init_35 (fun H locs hM => ?_)
    refine W.vret hx hb hr (fun t ht h9 => kQv.of hM ht ?_) hM.2.2.2.2 dA_init_38
    refine ⟨fun k h h' => (hd2 k h').trans (hd1 k h), fun k h h' h'' => (va_up_ne _ _ h).trans (hκ2 k h h' h''), ?_, (va_up_ne _ _ (by omega)).trans hq2a, ?_⟩
    · rw [va_up_self, ← hd2 (q + 1) (by omega)]
      rfl
    · rw [va_up_ne _ _ (by omega), hq2b, eN]
  refine lv_if_eq (tgt := 32) hx hb dA_init_24 (by decide) (fun c_24 => ?_) (fun c_24 => ?_)
  · refine lv_iconst (v := 0) hx hb dA_init_32 (by decide) ?_
    exact tail 0 0 rfl (by omega) (by rw [if_pos c_24])
  · refine lv_iload hx hb dA_init_27 (lv_at hl 3 rfl) ?_
    refine lv_goto (tgt := 33) hx hb dA_init_29 (by decide) ?_
    exact tail P (nI P) rfl hP2 (by rw [if_neg c_24])
