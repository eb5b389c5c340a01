theorem dX_addAsset_0 : decode prog_1_method_31_code 0 = .ok (.aload_n 0, 1) := by decide +kernel
theorem dX_addAsset_1 : decode prog_1_method_31_code 1 = .ok (.getfield 22, 3) := by decide +kernel
theorem dX_addAsset_4 : decode prog_1_method_31_code 4 = .ok (.aload_n 0, 1) := by decide +kernel
theorem dX_addAsset_5 : decode prog_1_method_31_code 5 = .ok (.getfield 15, 3) := by decide +kernel
theorem dX_addAsset_8 : decode prog_1_method_31_code 8 = .ok (.arraylength, 1) := by decide +kernel
theorem dX_addAsset_9 : decode prog_1_method_31_code 9 = .ok (.if_icmp .lt 5, 3) := by decide +kernel
theorem dX_addAsset_12 : decode prog_1_method_31_code 12 = .ok (.iconst (-1), 1) := by decide +kernel
theorem dX_addAsset_13 : decode prog_1_method_31_code 13 = .ok (.ireturn, 1) := by decide +kernel
theorem dX_addAsset_14 : decode prog_1_method_31_code 14 = .ok (.aload_n 0, 1) := by decide +kernel
theorem dX_addAsset_15 : decode prog_1_method_31_code 15 = .ok (.getfield 22, 3) := by decide +kernel
theorem dX_addAsset_18 : decode prog_1_method_31_code 18 = .ok (.istore 4, 2) := by decide +kernel
theorem dX_addAsset_20 : decode prog_1_method_31_code 20 = .ok (.aload_n 0, 1) := by decide +kernel
theorem dX_addAsset_21 : decode prog_1_method_31_code 21 = .ok (.getfield 15, 3) := by decide +kernel
theorem dX_addAsset_24 : decode prog_1_method_31_code 24 = .ok (.iload 4, 2) := by decide +kernel
theorem dX_addAsset_26 : decode prog_1_method_31_code 26 = .ok (.new 13, 3) := by decide +kernel
theorem dX_addAsset_29 : decode prog_1_method_31_code 29 = .ok (.dup, 1) := by decide +kernel
theorem dX_addAsset_30 : decode prog_1_method_31_code 30 = .ok (.iload_n 1, 1) := by decide +kernel
theorem dX_addAsset_31 : decode prog_1_method_31_code 31 = .ok (.lload_n 2, 1) := by decide +kernel
theorem dX_addAsset_32 : decode prog_1_method_31_code 32 = .ok (.aload_n 0, 1) := by decide +kernel
theorem dX_addAsset_33 : decode prog_1_method_31_code 33 = .ok (.getfield 9, 3) := by decide +kernel
theorem dX_addAsset_36 : decode prog_1_method_31_code 36 = .ok (.invokespecial 191, 3) := by decide +kernel
theorem dX_addAsset_39 : decode prog_1_method_31_code 39 = .ok (.aastore, 1) := by decide +kernel
theorem dX_addAsset_40 : decode prog_1_method_31_code 40 = .ok (.aload_n 0, 1) := by decide +kernel
theorem dX_addAsset_41 : decode prog_1_method_31_code 41 = .ok (.iload 4, 2) := by decide +kernel
theorem dX_addAsset_43 : decode prog_1_method_31_code 43 = .ok (.iconst 1, 1) := by decide +kernel
theorem dX_addAsset_44 : decode prog_1_method_31_code 44 = .ok (.iadd, 1) := by decide +kernel
theorem dX_addAsset_45 : decode prog_1_method_31_code 45 = .ok (.putfield 22, 3) := by decide +kernel
theorem dX_addAsset_48 : decode prog_1_method_31_code 48 = .ok (.iload 4, 2) := by decide +kernel
theorem dX_addAsset_50 : decode prog_1_method_31_code 50 = .ok (.ireturn, 1) := by decide +kernel
/-- the class's part of the map behind a method that makes cells: old keys keep their addresses -/
def XG (cI cL cQ : ClassId) (d : Nat → Nat) (κ0 : Nat → Option va_E) (d' : Nat → Nat) (κ' : Nat → Option va_E) (x' : XS) : Prop := IsX cI cL cQ d' κ' x' ∧ (∀ k, k < 18 → κ' k = κ0 k) ∧ ∀ (k : Nat) (e : va_E), κ0 k = some e → d' k = d k
def g_X_addAsset (x : XS) (sec : Int32) (rate : Int64) : Int32 × XS := if nI (x.1 2) < nI (x.1 1) then (nI (x.1 2), xNew x sec rate) else (-1, x)
theorem IsX_new {cI cL cQ : ClassId} {d d1 d2 : Nat → Nat} {κ0 κ1 κ2 : Nat → Option va_E} {x : XS} {q : Nat} {sec : Int32} {rate : Int64} (hX : IsX cI cL cQ d κ0 x) (hB : XB x) (eq : q = 32 + 3 * x.1 2) (hAI : AI cL d1 κ1 q (x.1 0) sec rate d2 κ2) (hd1 : ∀ k, ¬ k = q → d1 k = d k) (hκ1 : ∀ k, ¬ k = q → κ1 k = κ0 k) :
    XG cI cL cQ d κ0 d2 (va_up (va_up κ2 19 (some (.inl (cQ, x.1 1, .inr (.inr (.inr (.inr (va_up (xRef d (x.1 2)) (nI (x.1 2)).toNatClampNeg (some (d2 q)))))))))) 18 (some (.inr (3, [.int (nI (x.1 0)), .int (nI (x.1 0 * x.1 1)), .ref (d 19), .int (nI (x.1 2 + 1)), .int (x.2.1), .ref (d 20), .long (x.2.2.1), .ref (d 21), .ref (d 24), .ref (d 27)])))) (xNew x sec rate) := by
  obtain ⟨a1, a2, a3, a4, a5⟩ := hAI
  obtain ⟨hb0, hb1, hb2, hb3, hb4, hb5, hb6, hb7, hb8⟩ := hB
  have hdd : ∀ k, ¬ k = q → ¬ k = q + 1 → ¬ k = q + 2 → d2 k = d k := fun k h h' h'' => (a1 k h' h'').trans (hd1 k h)
  have hkk : ∀ k, ¬ k = q → ¬ k = q + 1 → ¬ k = q + 2 → κ2 k = κ0 k := fun k h h' h'' => (a2 k h h' h'').trans (hκ1 k h)
  obtain ⟨κ4, e18, e19, eo⟩ : ∃ κ4, κ4 18 = some (.inr (3, [.int (nI (x.1 0)), .int (nI (x.1 0 * x.1 1)), .ref (d 19), .int (nI (x.1 2 + 1)), .int (x.2.1), .ref (d 20), .long (x.2.2.1), .ref (d 21), .ref (d 24), .ref (d 27)])) ∧ κ4 19 = some (.inl (cQ, x.1 1, .inr (.inr (.inr (.inr (va_up (xRef d (x.1 2)) (nI (x.1 2)).toNatClampNeg (some (d2 q)))))))) ∧ (∀ k, ¬ k = 18 → ¬ k = 19 → κ4 k = κ2 k) ∧ κ4 = (va_up (va_up κ2 19 (some (.inl (cQ, x.1 1, .inr (.inr (.inr (.inr (va_up (xRef d (x.1 2)) (nI (x.1 2)).toNatClampNeg (some (d2 q)))))))))) 18 (some (.inr (3, [.int (nI (x.1 0)), .int (nI (x.1 0 * x.1 1)), .ref (d 19), .int (nI (x.1 2 + 1)), .int (x.2.1), .ref (d 20), .long (x.2.2.1), .ref (d 21), .ref (d 24), .ref (d 27)])))) := ⟨_, va_up_self _ _ _, (va_up_ne _ _ (by decide)).trans (va_up_self _ _ _), fun k h h' => (va_up_ne _ _ h).trans (va_up_ne _ _ h'), rfl⟩
  obtain ⟨eo, e4⟩ := eo
  rw [← e4]
  clear e4
  have D19 : d2 19 = d 19 := hdd 19 (by omega) (by omega) (by omega)
  have D20 : d2 20 = d 20 := hdd 20 (by omega) (by omega) (by omega)
  have D21 : d2 21 = d 21 := hdd 21 (by omega) (by omega) (by omega)
  have D22 : d2 22 = d 22 := hdd 22 (by omega) (by omega) (by omega)
  have D23 : d2 23 = d 23 := hdd 23 (by omega) (by omega) (by omega)
  have D24 : d2 24 = d 24 := hdd 24 (by omega) (by omega) (by omega)
  have D25 : d2 25 = d 25 := hdd 25 (by omega) (by omega) (by omega)
  have D26 : d2 26 = d 26 := hdd 26 (by omega) (by omega) (by omega)
  have D27 : d2 27 = d 27 := hdd 27 (by omega) (by omega) (by omega)
  have D28 : d2 28 = d 28 := hdd 28 (by omega) (by omega) (by omega)
  have D29 : d2 29 = d 29 := hdd 29 (by omega) (by omega) (by omega)
  have D30 : d2 30 = d 30 := hdd 30 (by omega) (by omega) (by omega)
  have D31 : d2 31 = d 31 := hdd 31 (by omega) (by omega) (by omega)
  have old : ∀ k, ¬ k = 18 → ¬ k = 19 → k < 32 → κ4 k = κ0 k := fun k h h' h'' => (eo k h h').trans (hkk k (by omega) (by omega) (by omega))
  refine ⟨⟨?_, ?_, (old 20 (by decide) (by decide) (by decide)).trans hX.2.2.1, ?_, (old 22 (by decide) (by decide) (by decide)).trans hX.2.2.2.2.1, (old 23 (by decide) (by decide) (by decide)).trans hX.2.2.2.2.2.1, ?_, (old 25 (by decide) (by decide) (by decide)).trans hX.2.2.2.2.2.2.2.1, (old 26 (by decide) (by decide) (by decide)).trans hX.2.2.2.2.2.2.2.2.1, ?_, (old 28 (by decide) (by decide) (by decide)).trans hX.2.2.2.2.2.2.2.2.2.2.1, (old 29 (by decide) (by decide) (by decide)).trans hX.2.2.2.2.2.2.2.2.2.2.2.1, (old 30 (by decide) (by decide) (by decide)).trans hX.2.2.2.2.2.2.2.2.2.2.2.2.1, (old 31 (by decide) (by decide) (by decide)).trans hX.2.2.2.2.2.2.2.2.2.2.2.2.2.1, ?_, ?_⟩, ?_, ?_⟩
  · rw [D19, D20, D21, D24, D27]
    exact e18
  · rw [e19]
    have ef : va_up (xRef d (x.1 2)) (nI (x.1 2)).toNatClampNeg (some (d2 q)) = xRef d2 (x.1 2 + 1) := by
      funext i
      rw [nI_clamp (by omega)]
      unfold xRef
      by_cases h : i = x.1 2
      · subst h
        rw [va_up_self, if_pos (by omega), eq]
      · rw [va_up_ne _ _ h]
        by_cases h2 : i < x.1 2
        · rw [if_pos h2, if_pos (by omega), hdd _ (by omega) (by omega) (by omega)]
        · rw [if_neg h2, if_neg (by omega)]
    rw [ef]
    rfl
  · rw [D22, D23]
    exact (old 21 (by decide) (by decide) (by decide)).trans hX.2.2.2.1
  · rw [D25, D26]
    exact (old 24 (by decide) (by decide) (by decide)).trans hX.2.2.2.2.2.2.1
  · rw [D28, D29, D30, D31]
    exact (old 27 (by decide) (by decide) (by decide)).trans hX.2.2.2.2.2.2.2.2.2.1
  · intro i hi
    have hi : i < x.1 2 + 1 := hi
    show κ4 (32 + 3 * i) = some (.inr (0, [.int (va_up (xS x) (x.1 2) sec i), .ref (d2 (33 + 3 * i)), .ref (d2 (34 + 3 * i)), .long (va_up (xR x) (x.1 2) rate i)])) ∧ κ4 (33 + 3 * i) = some (.inl (cL, x.1 0, .inr (.inl (va_up (xH x) (x.1 2) (fun _ => 0) i)))) ∧ κ4 (34 + 3 * i) = some (.inl (cL, (if va_up (xS x) (x.1 2) sec i = 0 then 0 else x.1 0), .inr (.inl (va_up (xP x) (x.1 2) (fun _ => 0) i))))
    by_cases h : i = x.1 2
    · subst h
      rw [va_up_self, va_up_self, va_up_self, va_up_self]
      have k1 : 33 + 3 * x.1 2 = q + 1 := by omega
      have k2 : 34 + 3 * x.1 2 = q + 2 := by omega
      rw [k1, k2, ← eq]
      exact ⟨(eo _ (by omega) (by omega)).trans a3, (eo _ (by omega) (by omega)).trans a4, (eo _ (by omega) (by omega)).trans a5⟩
    · rw [va_up_ne _ _ h, va_up_ne _ _ h, va_up_ne _ _ h, va_up_ne _ _ h]
      obtain ⟨b1, b2, b3⟩ := hX.2.2.2.2.2.2.2.2.2.2.2.2.2.2.1 i (by omega)
      rw [hdd (33 + 3 * i) (by omega) (by omega) (by omega), hdd (34 + 3 * i) (by omega) (by omega) (by omega)]
      exact ⟨((eo _ (by omega) (by omega)).trans (hkk _ (by omega) (by omega) (by omega))).trans b1, ((eo _ (by omega) (by omega)).trans (hkk _ (by omega) (by omega) (by omega))).trans b2, ((eo _ (by omega) (by omega)).trans (hkk _ (by omega) (by omega) (by omega))).trans b3⟩
  · intro k hk
    have hk : 32 + 3 * (x.1 2 + 1) ≤ k := hk
    exact ((eo _ (by omega) (by omega)).trans (hkk _ (by omega) (by omega) (by omega))).trans (hX.2.2.2.2.2.2.2.2.2.2.2.2.2.2.2 k (by omega))
  · intro k hk
    exact (eo _ (by omega) (by omega)).trans (hkk _ (by omega) (by omega) (by omega))
  · intro k e hk
    have hl : k < 32 + 3 * x.1 2 := by
      rcases Nat.lt_or_ge k (32 + 3 * x.1 2) with h | h
      · exact h
      · rw [hX.2.2.2.2.2.2.2.2.2.2.2.2.2.2.2 k h] at hk
        cases hk
    exact hdd k (by omega) (by omega) (by omega)
set_option maxHeartbeats 4000000 in
set_option maxRecDepth 100000 in
theorem c_X_addAsset (l : Launch) (D : va_G) (cI cL cQ : ClassId) (d : Nat → Nat) (κ0 : Nat → Option va_E) (x : XS) (hX : IsX cI cL cQ d κ0 x) (hB : XB x) (sz : Nat) (sec : Int32) (rate : Int64) (hs : sec = 0 ∨ sec = 1) : Met l yX_addAsset wX_addAsset { frames := 2, cells := 3, slots := 516, locals := 36 } (va_Pc [.ref (d 18), .int (sec), .long (rate)] (kC D vCl (kT cI cL cQ) d κ0 sz)) (kQi D vCl (kA d κ0 sz) (fun r d' κ' => r = (g_X_addAsset x sec rate).1 ∧ XG cI cL cQ d κ0 d' κ' (g_X_addAsset x sec rate).2)) 3 516 (kA d κ0 sz) := by
  refine kMet (by decide) (Nat.le_of_ble_eq_true rfl) ?_
  intro p0 e0 s0 m0 below0 meth0 c0 hx hb hr hml hown hlocks hin hts hsz hP hK ls hl
  subst hsz
  have hl : lv_has ls 5 [(0, .ref (d 18)), (1, .int (sec)), (2, .long (rate))] := hl
  have hA : ∀ x, s0.heap.size ≤ x → kA d κ0 s0.heap.size x := fun _ h => Or.inr h
  have hB9 := hB
  obtain ⟨hb0, hb1, hb2, hb3, hb4, hb5, hb6, hb7, hb8⟩ := hB9
  have hM0 := kW.start hP
  refine lv_aload_n hx hb dX_addAsset_0 rfl (lv_at hl 0 rfl) ?_
  refine ka_get (ci := 3) (C := RX) (T := TX) (N := 10) hx hb hts inX hown hK hP (q := 18) hX.1 rfl 3 (by decide) (hts _ tw_102) (fun _ h9 => h9) rfl dX_addAsset_1 ?_
  refine lv_aload_n hx hb dX_addAsset_4 rfl (lv_at hl 0 rfl) ?_
  refine ka_get (ci := 3) (C := RX) (T := TX) (N := 10) hx hb hts inX hown hK hP (q := 18) hX.1 rfl 2 (by decide) (hts _ tw_101) (fun _ h9 => h9) rfl dX_addAsset_5 ?_
  refine ka_alen hx hb hK hP 2 (q := 19) hX.2.1 rfl (v := nI (x.1 1)) rfl dX_addAsset_8 ?_
  refine lv_icmp_lt (tgt := 14) hx hb dX_addAsset_9 (by decide) (fun c_9 => ?_) (fun c_9 => ?_)
  · have hlt : x.1 2 < x.1 1 := Nat.lt_of_not_le (fun q => nI_nlt q (by omega) c_9)
    obtain ⟨q, eq⟩ : ∃ q, q = 32 + 3 * x.1 2 := ⟨_, rfl⟩
    have f0 : κ0 q = none := hX.2.2.2.2.2.2.2.2.2.2.2.2.2.2.2 q (by omega)
    have f1 : κ0 (q + 1) = none := hX.2.2.2.2.2.2.2.2.2.2.2.2.2.2.2 _ (by omega)
    have f2 : κ0 (q + 2) = none := hX.2.2.2.2.2.2.2.2.2.2.2.2.2.2.2 _ (by omega)
    refine lv_aload_n hx hb dX_addAsset_14 rfl (lv_at hl 0 rfl) ?_
    refine ka_get (ci := 3) (C := RX) (T := TX) (N := 10) hx hb hts inX hown hK hP (q := 18) hX.1 rfl 3 (by decide) (hts _ tw_102) (fun _ h9 => h9) rfl dX_addAsset_15 ?_
    refine lv_istore (lv' := [(4, .int (nI (x.1 2))), (0, .ref (d 18)), (1, .int (sec)), (2, .long (rate))]) hx hb dX_addAsset_18 hl (by decide) rfl (fun ls hl => ?_)
    refine lv_aload_n hx hb dX_addAsset_20 rfl (lv_at hl 1 rfl) ?_
    refine ka_get (ci := 3) (C := RX) (T := TX) (N := 10) hx hb hts inX hown hK hP (q := 18) hX.1 rfl 2 (by decide) (hts _ tw_101) (fun _ h9 => h9) rfl dX_addAsset_21 ?_
    refine lv_iload hx hb dX_addAsset_24 (lv_at hl 0 rfl) ?_
    refine ka_new (ci := 0) (fs := [.int 0, .null, .null, .long 0]) (C := RA) (T := TA) (N := 4) hx hb hts inA tA tA_ok hown (hts _ tw_52) (hts _ tw_138) (hts _ tw_42) hK hM0 hA q f0 rfl (fun j hj => by rcases (show j = 0 ∨ j = 1 ∨ j = 2 ∨ j = 3 by omega) with rfl | rfl | rfl | rfl <;> rfl) (Nat.le_of_ble_eq_true rfl) (Nat.le_of_ble_eq_true rfl) dX_addAsset_26 (fun a H hM9 => ?_)
    have hP0 := hM9.1.old f0
    obtain ⟨d1, κ1, hM, ea, hd1, hq1, hκ1⟩ : ∃ d1 κ1, kW D vCl d1 κ1 (kA d κ0 s0.heap.size) s0.heap H [] ∧ a = d1 q ∧ (∀ k, ¬ k = q → d1 k = d k) ∧ κ1 q = some (.inr (0, [.int 0, .null, .null, .long 0])) ∧ ∀ k, ¬ k = q → κ1 k = κ0 k := ⟨_, _, hM9, (va_up_self _ _ _).symm, fun k h => va_up_ne _ _ h, va_up_self _ _ _, fun k h => va_up_ne _ _ h⟩
    clear hM9
    subst ea
    refine W.widen (k := 1) (n := 4) (by omega) (by omega) ?_
    refine lv_dup hx hb dX_addAsset_29 rfl ?_
    refine lv_iload_n hx hb dX_addAsset_30 rfl (lv_at hl 2 rfl) ?_
    refine lv_lload_n hx hb dX_addAsset_31 rfl (lv_at hl 3 rfl) ?_
    refine lv_aload_n hx hb dX_addAsset_32 rfl (lv_at hl 1 rfl) ?_
    refine ka_get (ci := 3) (C := RX) (T := TX) (N := 10) hx hb hts inX hown hK hP0 (q := 18) hX.1 rfl 0 (by decide) (hts _ tw_99) (fun _ h9 => h9) rfl dX_addAsset_33 ?_
    refine ka_callv (W.runI (As := [.int sec, .long rate, .int (nI (x.1 0))]) (rest := [.ref (d1 q), .int (nI (x.1 2)), .ref (d 19)]) ⟨hx, hb, hml, hown, hts⟩ (c_A_init l D cI cL cQ d1 κ1 q (x.1 0) hq1 ((hκ1 _ (by omega)).trans f1) ((hκ1 _ (by omega)).trans f2) hb1 H.size sec hs rate) (cwI 3 hts (k_gC tw_141) rfl rfl rfl (hts _ tw_42) (hts _ tw_139) (hts _ tw_140) rfl (by decide +kernel) ⟨Nat.le_of_ble_eq_true rfl, Nat.le_of_ble_eq_true rfl⟩) (kPreS hM.1 hK) rfl rfl hl.1 rfl (lv_room (Nat.le_of_ble_eq_true rfl)) dX_addAsset_36 ⟨Nat.le_of_ble_eq_true rfl, Nat.le_of_ble_eq_true rfl⟩) hM hA (fun d2 κ2 H locs hAI hM => ?_)
    refine W.widen (k := 3) (n := 516) (by omega) (by omega) ?_
    have hdd : ∀ k, ¬ k = q → ¬ k = q + 1 → ¬ k = q + 2 → d2 k = d k := fun k h h' h'' => (hAI.1 k h' h'').trans (hd1 k h)
    have hkk : ∀ k, ¬ k = q → ¬ k = q + 1 → ¬ k = q + 2 → κ2 k = κ0 k := fun k h h' h'' => (hAI.2.1 k h h' h'').trans (hκ1 k h)
    refine W.eq (g2 := F0 m0 39 ls [.ref (d2 q), .int (nI (x.1 2)), .ref (d2 19)]) (by rw [hAI.1 q (by omega) (by omega), hdd 19 (by omega) (by omega) (by omega)]) ?_
    refine ka_astq (r := (RA, TA, 4)) (f := xRef d (x.1 2)) hx hb hK hM 2 0 (q := 19) (qk := q) ((hkk 19 (by omega) (by omega) (by omega)).trans hX.2.1) rfl hAI.2.2.1 rfl (i := nI (x.1 2)) (vp_in_nI hlt (by omega)) dX_addAsset_39 (fun H locs hM => ?_)
    refine lv_aload_n hx hb dX_addAsset_40 rfl (lv_at hl 1 rfl) ?_
    refine lv_iload hx hb dX_addAsset_41 (lv_at hl 0 rfl) ?_
    refine lv_iconst (v := 1) hx hb dX_addAsset_43 (by decide) ?_
    refine lv_iadd hx hb dX_addAsset_44 ?_
    refine k_topi (show nI (x.1 2) + 1 = nI (x.1 2 + 1) from nI_add _ _) ?_
    refine W.eq (g2 := F0 m0 45 ls [.int (nI (x.1 2 + 1)), .ref (d2 18)]) (by rw [hdd 18 (by omega) (by omega) (by omega)]) ?_
    refine ka_put (D := D) (ci := 3) (v := .int (nI (x.1 2 + 1))) (ty := .int) (C := RX) (T := TX) (N := 10) hx hb hts inX tX tX_ok nX hown hK hM (q := 18) ((va_up_ne _ _ (by decide)).trans ((hkk 18 (by omega) (by omega) (by omega)).trans hX.1)) rfl 3 (by decide) (hts _ tw_102) (fun _ h9 => h9) rfl (by decide +kernel) rfl rfl (Nat.le_of_ble_eq_true rfl) dX_addAsset_45 (fun H locs hM => ?_)
    refine lv_iload hx hb dX_addAsset_48 (lv_at hl 0 rfl) ?_
    have hg : g_X_addAsset x sec rate = (nI (x.1 2), xNew x sec rate) := by rw [g_X_addAsset, if_pos c_9]
    exact W.iret (v := nI (x.1 2)) hx hb hr (fun t ht h9 => kQi.of hM ht (by rw [hg]; exact ⟨rfl, IsX_new hX hB eq hAI hd1 hκ1⟩)) hM.2.2.2.2 dX_addAsset_50
  · refine lv_iconst (v := -1) hx hb dX_addAsset_12 (by decide) ?_
    refine W.widen (k := 3) (n := 516) (by omega) (by omega) ?_
    have hg : g_X_addAsset x sec rate = (-1, x) := by rw [g_X_addAsset, if_neg c_9]
    exact W.iret (v := -1) hx hb hr (fun t ht h9 => kQi.of hM0 ht (by rw [hg]; exact ⟨rfl, hX, fun _ _ => rfl, fun _ _ _ => rfl⟩)) hM0.2.2.2.2 dX_addAsset_13
