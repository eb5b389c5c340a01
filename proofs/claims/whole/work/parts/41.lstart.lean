theorem dL_cell_0 : decode method_2_code 0 = .ok (.iload_n 1, 1) := by decide +kernel
theorem dL_cell_1 : decode method_2_code 1 = .ok (.aload_n 0, 1) := by decide +kernel
theorem dL_cell_2 : decode method_2_code 2 = .ok (.arraylength, 1) := by decide +kernel
theorem dL_cell_3 : decode method_2_code 3 = .ok (.if_icmp .ge 9, 3) := by decide +kernel
theorem dL_cell_6 : decode method_2_code 6 = .ok (.aload_n 0, 1) := by decide +kernel
theorem dL_cell_7 : decode method_2_code 7 = .ok (.iload_n 1, 1) := by decide +kernel
theorem dL_cell_8 : decode method_2_code 8 = .ok (.iaload, 1) := by decide +kernel
theorem dL_cell_9 : decode method_2_code 9 = .ok (.goto 4, 3) := by decide +kernel
theorem dL_cell_12 : decode method_2_code 12 = .ok (.iconst 0, 1) := by decide +kernel
theorem dL_cell_13 : decode method_2_code 13 = .ok (.ireturn, 1) := by decide +kernel
/-- the script's k-th int, 0 behind its end -/
def lcell (L : Nat) (xs : Nat → Int32) (k : Nat) : Int32 := if nI L ≤ nI k then 0 else xs (nI k).toNatClampNeg
set_option maxHeartbeats 4000000 in
set_option maxRecDepth 100000 in
theorem c_L_cell (l : Launch) (b L : Nat) (xs : Nat → Int32) (hL : L ≤ 3074) (k : Nat) (hk : k < 2) : Met l yL_cell wL_cell { frames := 0, cells := 0, slots := 0, locals := 0 } (va_Pc [.ref b, .int (nI k)] (fun U => va_X b L xs U U.heap)) (vp_Si (fun r => r = lcell L xs k)) 0 0 (fun _ => False) := by
  refine Met.ofW (cc := method_2_code) (maxL := 2) (ret := (some .int)) (ws' := lw_g) (by decide) rfl ?_
  intro p e s m args below meth c s₁ B hml hv
  obtain ⟨rfl, hX⟩ := hv
  have hx := B.exec
  have hb := B.bytes
  have hr := B.returns
  have hlocks := B.notSynchronized
  have hl := lv_entry ([.ref b, .int (nI k)]) (n := 2) (Nat.le_of_ble_eq_true rfl)
  rw [lg_entry_eq]
  generalize (lg_sl ([.ref b, .int (nI k)]) ++ List.replicate (2 - (lg_sl ([.ref b, .int (nI k)])).length) Slot.unset).toArray = ls at hl ⊢
  have hl : lv_has ls 2 [(0, .ref b), (1, .int (nI k))] := hl
  have hbl : b < s.heap.size := by
    obtain ⟨scr, h1, -⟩ := hX
    exact (Array.getElem?_eq_some_iff.mp h1).1
  have hS : va_S (fun _ => False) s.heap s.heap [] := va_S.rf
  refine lv_iload_n hx hb dL_cell_0 rfl (lv_at hl 1 rfl) ?_
  refine lv_aload_n hx hb dL_cell_1 rfl (lv_at hl 0 rfl) ?_
  refine va_slen hx hb hX hbl (fun h => h) hS dL_cell_2 ?_
  refine lv_icmp_ge (tgt := 12) hx hb dL_cell_3 (by decide) (fun c_3 => ?_) (fun c_3 => ?_)
  · refine lv_iconst (v := 0) hx hb dL_cell_12 (by decide) ?_
    exact W.iret (v := 0) hx hb hr (fun t ht hW => ⟨_, rfl, (if_pos c_3).symm, ht⟩) (fun q h => by cases h) dL_cell_13
  · have hlt : k < L := Nat.lt_of_not_le (fun q => c_3 (nI_le q (by omega)))
    refine lv_aload_n hx hb dL_cell_6 rfl (lv_at hl 0 rfl) ?_
    refine lv_iload_n hx hb dL_cell_7 rfl (lv_at hl 1 rfl) ?_
    refine va_sld hx hb hX hbl (fun h => h) hS (vp_in_nI hlt (by omega)) dL_cell_8 ?_
    refine lv_goto (tgt := 13) hx hb dL_cell_9 (by decide) ?_
    exact W.iret (v := xs (nI k).toNatClampNeg) hx hb hr (fun t ht hW => ⟨_, rfl, (if_neg c_3).symm, ht⟩) (fun q h => by cases h) dL_cell_13
theorem IsX.keepD {cI cL cQ : ClassId} {d d' : Nat → Nat} {κ κ' : Nat → Option va_E} {x : XS} (h : IsX cI cL cQ d κ x) (hk : ∀ k, 18 ≤ k → κ' k = κ k) (hd : ∀ k, 18 ≤ k → d' k = d k) : IsX cI cL cQ d' κ' x := by
  have h := h.keep hk
  have ef : xRef d' (x.1 2) = xRef d (x.1 2) := by
    funext i
    unfold xRef
    rw [hd _ (by omega)]
  unfold IsX at h ⊢
  obtain ⟨a1, a2, a3, a4, a5, a6, a7, a8, a9, a10, a11, a12, a13, a14, a15, a16⟩ := h
  refine ⟨?_, ?_, a3, ?_, a5, a6, ?_, a8, a9, ?_, a11, a12, a13, a14, fun i hi => ?_, a16⟩
  · rw [hd 19 (by decide), hd 20 (by decide), hd 21 (by decide), hd 24 (by decide), hd 27 (by decide)]; exact a1
  · rw [ef]; exact a2
  · rw [hd 22 (by decide), hd 23 (by decide)]; exact a4
  · rw [hd 25 (by decide), hd 26 (by decide)]; exact a7
  · rw [hd 28 (by decide), hd 29 (by decide), hd 30 (by decide), hd 31 (by decide)]; exact a10
  · obtain ⟨b1, b2, b3⟩ := a15 i hi
    rw [hd _ (by omega), hd _ (by omega)]
    exact ⟨b1, b2, b3⟩
set_option maxHeartbeats 8000000 in
set_option maxRecDepth 100000 in
/-- THE LAW, from its entry, over any relation that holds at the start and that the calls keep -/
theorem whole_startR (RR : Nat → MS → XS → Prop) (hRB : ∀ n ms x, RR n ms x → RB n ms x) (hS : RSt RR) (hw : ∀ n ms x, RR n ms x → RR (n + 1) ms x) (h0 : ∀ p a : Int32, RR 0 (mInit p a) (xInit p a)) {p : Program} {e : Env} {s : State} {m : MethodId} {below : List Frame} {meth : Method} {c : Code} (l : Launch) {b L : Nat} {xs : Nat → Int32} (hL : L ≤ 3074) (C0 : lw_At p s m meth c b L xs) : W p l e room_1 s m #[Value.ref b] below meth c s.heap [] 0 0 (lw_Z below #[Value.ref b] s) (entryFrame m ([Value.ref b] : List Value).toArray 4) := by
  have C1 := C0
  obtain ⟨hx, hb, hr, hml, hown, hts0, hX0, hbl, hlocks, hgv⟩ := C1
  have hts : ∀ w ∈ lw_g, w.before #[Value.ref b] s = true := fun w h => hts0 w (List.mem_filter.mp h).1
  have hA : ∀ q : Nat, s.heap.size ≤ q → (fun q : Nat => s.heap.size ≤ q) q := fun _ h => h
  have hbA : ¬ (fun q : Nat => s.heap.size ≤ q) b := Nat.not_le.mpr hbl
  obtain ⟨c0, iS0, hKn0⟩ := u_known (C := RA) (T := TA) (N := 4) (n := 4) hts0 inA_t (hts _ tw_138)
  obtain ⟨c1, iS1, hKn1⟩ := u_known (C := RG) (T := TG) (N := 5) (n := 5) hts0 inG_t (hts _ tw_73)
  obtain ⟨c2, iS2, hKn2⟩ := u_known (C := RP) (T := TP) (N := 3) (n := 3) hts0 inP_t (hts _ tw_55)
  obtain ⟨c3, iS3, hKn3⟩ := u_known (C := RX) (T := TX) (N := 10) (n := 10) hts0 inX_t (hts _ tw_45)
  obtain ⟨c4, iS4, hKn4⟩ := u_known (C := RM) (T := TM) (N := 26) (n := 26) hts0 inM_t (hts _ tw_379)
  obtain ⟨dC, dI, hKc⟩ : ∃ (dC : Nat → ClassId) (dI : Nat → Nat → Nat), ∀ (k : Nat) (q : vw_C), vCl[k]? = some q → u_Kn s q.1 q.2.1 q.2.2 (dC k) (dI k) := by
    refine ⟨fun k => if k = 0 then c0 else if k = 1 then c1 else if k = 2 then c2 else if k = 3 then c3 else c4, fun k => if k = 0 then iS0 else if k = 1 then iS1 else if k = 2 then iS2 else if k = 3 then iS3 else iS4, ?_⟩
    intro k q hq
    match k, hq with
    | 0, hq => cases hq; exact hKn0
    | 1, hq => cases hq; exact hKn1
    | 2, hq => cases hq; exact hKn2
    | 3, hq => cases hq; exact hKn3
    | 4, hq => cases hq; exact hKn4
    | k + 5, hq => simp [vCl] at hq
  obtain ⟨cI, kI, pI, i1, i2, i3⟩ := Cond.arrayClass_spec (hts _ tw_71)
  obtain ⟨cL, kL, pL, l1, l2, l3⟩ := Cond.arrayClass_spec (hts _ tw_70)
  have hao : va_AO "PositionDesk$Asset" s := va_AO.of (hts0 _ tw_53)
  have hnw : va_Nw (.methodLinkNest "PositionDesk" 50 yG_init "PositionDesk") s := va_Nw.of rfl (hts0 _ tw_74)
  obtain ⟨pQ, cQ, kQ, q1, q2, q3, q4, q5⟩ := Cond.arrayOver_spec (hts0 _ tw_53)
  have hK : va_K (dC, dI) vCl (kT cI cL cQ) s := by
    refine ⟨hKc, fun k q hq => ?_⟩
    match k, hq with
    | 0, hq => cases hq; exact ⟨fun n z => ⟨fun k h => (by cases h), kI, i2, pI, i3⟩, i1⟩
    | 1, hq => cases hq; exact ⟨fun n z => ⟨fun k h => (by cases h), kL, l2, pL, l3⟩, l1⟩
    | 2, hq => cases hq; exact ⟨fun n z => ⟨fun k h => (by cases h), kQ, q3, pQ, q4⟩, kQ, pQ, q3, q4, q1, q5⟩
    | k + 3, hq => simp [kT] at hq
  generalize hDD : ((dC, dI) : va_G) = D at hK
  have hM : kW D vCl (fun _ => 0) (fun _ => none) (fun q : Nat => s.heap.size ≤ q) s.heap s.heap [] := ⟨⟨fun k e h => (by cases h), fun i j e f h => (by cases h)⟩, fun k e h => (by cases h), va_S.rf⟩
  have hl := lv_entry ([.ref b]) (n := 4) (Nat.le_of_ble_eq_true rfl)
  rw [lg_entry_eq]
  generalize (lg_sl ([.ref b]) ++ List.replicate (4 - (lg_sl ([.ref b])).length) Slot.unset).toArray = ls at hl ⊢
  have hl : lv_has ls 4 [(0, .ref b)] := hl
  refine ka_new (ci := 3) (fs := [.int 0, .int 0, .null, .int 0, .int 0, .null, .long 0, .null, .null, .null]) (C := RX) (T := TX) (N := 10) hx hb hts inX tX tX_ok hown (hts _ tw_44) (hts _ tw_45) (hts _ tw_38) hK hM hA 18 rfl rfl (fun j hj => by rcases (show j = 0 ∨ j = 1 ∨ j = 2 ∨ j = 3 ∨ j = 4 ∨ j = 5 ∨ j = 6 ∨ j = 7 ∨ j = 8 ∨ j = 9 by omega) with rfl | rfl | rfl | rfl | rfl | rfl | rfl | rfl | rfl | rfl <;> rfl) (Nat.le_of_ble_eq_true rfl) (Nat.le_of_ble_eq_true rfl) dL_law_0 (fun aX H hM9 => ?_)
  obtain ⟨d, κ, hM, ed, hq, hn⟩ : ∃ (d : Nat → Nat) (κ : Nat → Option va_E), kW D vCl d κ (fun q : Nat => s.heap.size ≤ q) s.heap H [] ∧ d 18 = aX ∧ κ 18 = some (.inr (3, [.int 0, .int 0, .null, .int 0, .int 0, .null, .long 0, .null, .null, .null])) ∧ (∀ k, ¬ k = 18 → κ k = none) := ⟨_, _, hM9, va_up_self _ _ _, va_up_self _ _ _, fun k h => va_up_ne _ _ h⟩
  clear hM9
  refine W.widen (k := 1) (n := 10) (by omega) (by omega) ?_
  refine lv_dup hx hb dL_law_3 rfl ?_
  refine lv_aload_n hx hb dL_law_4 rfl (lv_at hl 0 rfl) ?_
  refine lv_iconst (v := 0) hx hb dL_law_5 (by decide) ?_
  have hXH : va_X b L xs s H := hX0.kept (hM.2.2.2.1 b hbl hbA)
  refine vp_callSi (W.runS (As := [.ref b, .int (nI 0)]) (rest := [.ref aX, .ref aX]) ⟨hx, hb, hml, hown, hts⟩ (c_L_cell l b L xs hL 0 (by decide)) (cwS 2 hts (k_gS tw_375 tw_376 tw_37 tw_377) rfl rfl rfl (by decide +kernel) ⟨Nat.le_of_ble_eq_true rfl, Nat.le_of_ble_eq_true rfl⟩) ⟨fun a U g mk q => ⟨q.1, va_X.moved (u := U) (U := U.calling g mk a) (Vm.Alike.refl U.vm) q.2⟩, fun U hU hW => ⟨rfl, (by show va_X b L xs U U.heap; rw [hU]; exact va_X.moved hW.alike hXH)⟩⟩ rfl rfl hl.1 rfl (lv_room (Nat.le_of_ble_eq_true rfl)) dL_law_6 ⟨Nat.le_of_ble_eq_true rfl, Nat.le_of_ble_eq_true rfl⟩) (fun r9 e9 => ?_)
  subst e9
  refine lv_aload_n hx hb dL_law_9 rfl (lv_at hl 0 rfl) ?_
  refine lv_iconst (v := 1) hx hb dL_law_10 (by decide) ?_
  have hXH : va_X b L xs s H := hX0.kept (hM.2.2.2.1 b hbl hbA)
  refine vp_callSi (W.runS (As := [.ref b, .int (nI 1)]) (rest := [.int (lcell L xs 0), .ref aX, .ref aX]) ⟨hx, hb, hml, hown, hts⟩ (c_L_cell l b L xs hL 1 (by decide)) (cwS 2 hts (k_gS tw_375 tw_376 tw_37 tw_377) rfl rfl rfl (by decide +kernel) ⟨Nat.le_of_ble_eq_true rfl, Nat.le_of_ble_eq_true rfl⟩) ⟨fun a U g mk q => ⟨q.1, va_X.moved (u := U) (U := U.calling g mk a) (Vm.Alike.refl U.vm) q.2⟩, fun U hU hW => ⟨rfl, (by show va_X b L xs U U.heap; rw [hU]; exact va_X.moved hW.alike hXH)⟩⟩ rfl rfl hl.1 rfl (lv_room (Nat.le_of_ble_eq_true rfl)) dL_law_11 ⟨Nat.le_of_ble_eq_true rfl, Nat.le_of_ble_eq_true rfl⟩) (fun r9 e9 => ?_)
  subst e9
  refine W.eq (g2 := F0 m 14 ls [.int (lcell L xs 1), .int (lcell L xs 0), .ref (d 18), .ref (d 18)]) (by rw [ed]) ?_
  refine ka_callv (W.runI (As := [.int (lcell L xs 0), .int (lcell L xs 1)]) (rest := [.ref (d 18)]) ⟨hx, hb, hml, hown, hts⟩ (c_X_init l D cI cL cQ d κ hq (fun k h => hn k (by omega)) H.size (lcell L xs 0) (lcell L xs 1)) (cwI 2 hts (k_gC tw_48) rfl rfl rfl (hts _ tw_38) (hts _ tw_46) (hts _ tw_47) rfl (by decide +kernel) ⟨Nat.le_of_ble_eq_true rfl, Nat.le_of_ble_eq_true rfl⟩) ⟨fun a U g mk q => ⟨q.1, ⟨q.2.1.1, q.2.1.2.1, va_K.moved (u := U) (U := U.calling g mk a) (Vm.Alike.refl U.vm) q.2.1.2.2⟩, va_AO.moved (u := U) (U := U.calling g mk a) (Vm.Alike.refl U.vm) q.2.2.1, va_Nw.same (u := U) (U := U.calling g mk a) rfl rfl q.2.2.2⟩, fun U hU hW => ⟨rfl, ⟨by rw [hU], by rw [hU]; exact hM.1, va_K.moved hW.alike hK⟩, va_AO.moved hW.alike hao, va_Nw.warmM hW hnw⟩⟩ rfl rfl hl.1 rfl (lv_room (Nat.le_of_ble_eq_true rfl)) dL_law_14 ⟨Nat.le_of_ble_eq_true rfl, Nat.le_of_ble_eq_true rfl⟩) hM hA (fun d1 κ1 H locs h1 hM => ?_)
  obtain ⟨hX1, hk1, hd1⟩ := h1
  refine W.eq (g2 := F0 m 17 ls [.ref (d1 18)]) (by rw [hd1 18 (by decide)]) ?_
  refine lv_astore_n (lv' := [(1, .ref (d1 18)), (0, .ref b)]) hx hb dL_law_17 rfl hl (by decide) rfl (fun ls hl => ?_)
  refine ka_new (ci := 4) (fs := [.int 0, .int 0, .int 0, .int 0, .null, .null, .null, .int 0, .null, .null, .int 0, .null, .null, .null, .int 0, .null, .null, .int 0, .null, .null, .null, .int 0, .null, .null, .null, .null]) (C := RM) (T := TM) (N := 26) hx hb hts inM tM tM_ok hown (hts _ tw_378) (hts _ tw_379) (hts _ tw_41) hK hM hA 0 ((hk1 0 (by decide)).trans (hn 0 (by decide))) rfl (fun j hj => by rcases (show j = 0 ∨ j = 1 ∨ j = 2 ∨ j = 3 ∨ j = 4 ∨ j = 5 ∨ j = 6 ∨ j = 7 ∨ j = 8 ∨ j = 9 ∨ j = 10 ∨ j = 11 ∨ j = 12 ∨ j = 13 ∨ j = 14 ∨ j = 15 ∨ j = 16 ∨ j = 17 ∨ j = 18 ∨ j = 19 ∨ j = 20 ∨ j = 21 ∨ j = 22 ∨ j = 23 ∨ j = 24 ∨ j = 25 by omega) with rfl | rfl | rfl | rfl | rfl | rfl | rfl | rfl | rfl | rfl | rfl | rfl | rfl | rfl | rfl | rfl | rfl | rfl | rfl | rfl | rfl | rfl | rfl | rfl | rfl | rfl <;> rfl) (Nat.le_of_ble_eq_true rfl) (Nat.le_of_ble_eq_true rfl) dL_law_18 (fun aM H hM9 => ?_)
  obtain ⟨d2, κ2, hM, ed2, hq2, hk2, hd2⟩ : ∃ (d2 : Nat → Nat) (κ2 : Nat → Option va_E), kW D vCl d2 κ2 (fun q : Nat => s.heap.size ≤ q) s.heap H locs ∧ d2 0 = aM ∧ κ2 0 = some (.inr (4, [.int 0, .int 0, .int 0, .int 0, .null, .null, .null, .int 0, .null, .null, .int 0, .null, .null, .null, .int 0, .null, .null, .int 0, .null, .null, .null, .int 0, .null, .null, .null, .null])) ∧ (∀ k, ¬ k = 0 → κ2 k = κ1 k) ∧ (∀ k, ¬ k = 0 → d2 k = d1 k) := ⟨_, _, hM9, va_up_self _ _ _, va_up_self _ _ _, fun k h => va_up_ne _ _ h, fun k h => va_up_ne _ _ h⟩
  clear hM9
  have hX2 := hX1.keepD (fun k h => hk2 k (by omega)) (fun k h => hd2 k (by omega))
  refine lv_dup hx hb dL_law_21 rfl ?_
  refine lv_aload_n hx hb dL_law_22 rfl (lv_at hl 1 rfl) ?_
  refine lv_iconst (v := 0) hx hb dL_law_23 (by decide) ?_
  have hXH : va_X b L xs s H := hX0.kept (hM.2.2.2.1 b hbl hbA)
  refine vp_callSi (W.runS (As := [.ref b, .int (nI 0)]) (rest := [.ref aM, .ref aM]) ⟨hx, hb, hml, hown, hts⟩ (c_L_cell l b L xs hL 0 (by decide)) (cwS 2 hts (k_gS tw_375 tw_376 tw_37 tw_377) rfl rfl rfl (by decide +kernel) ⟨Nat.le_of_ble_eq_true rfl, Nat.le_of_ble_eq_true rfl⟩) ⟨fun a U g mk q => ⟨q.1, va_X.moved (u := U) (U := U.calling g mk a) (Vm.Alike.refl U.vm) q.2⟩, fun U hU hW => ⟨rfl, (by show va_X b L xs U U.heap; rw [hU]; exact va_X.moved hW.alike hXH)⟩⟩ rfl rfl hl.1 rfl (lv_room (Nat.le_of_ble_eq_true rfl)) dL_law_24 ⟨Nat.le_of_ble_eq_true rfl, Nat.le_of_ble_eq_true rfl⟩) (fun r9 e9 => ?_)
  subst e9
  refine lv_aload_n hx hb dL_law_27 rfl (lv_at hl 1 rfl) ?_
  refine lv_iconst (v := 1) hx hb dL_law_28 (by decide) ?_
  have hXH : va_X b L xs s H := hX0.kept (hM.2.2.2.1 b hbl hbA)
  refine vp_callSi (W.runS (As := [.ref b, .int (nI 1)]) (rest := [.int (lcell L xs 0), .ref aM, .ref aM]) ⟨hx, hb, hml, hown, hts⟩ (c_L_cell l b L xs hL 1 (by decide)) (cwS 2 hts (k_gS tw_375 tw_376 tw_37 tw_377) rfl rfl rfl (by decide +kernel) ⟨Nat.le_of_ble_eq_true rfl, Nat.le_of_ble_eq_true rfl⟩) ⟨fun a U g mk q => ⟨q.1, va_X.moved (u := U) (U := U.calling g mk a) (Vm.Alike.refl U.vm) q.2⟩, fun U hU hW => ⟨rfl, (by show va_X b L xs U U.heap; rw [hU]; exact va_X.moved hW.alike hXH)⟩⟩ rfl rfl hl.1 rfl (lv_room (Nat.le_of_ble_eq_true rfl)) dL_law_29 ⟨Nat.le_of_ble_eq_true rfl, Nat.le_of_ble_eq_true rfl⟩) (fun r9 e9 => ?_)
  subst e9
  refine W.eq (g2 := F0 m 32 ls [.int (lcell L xs 1), .int (lcell L xs 0), .ref (d2 0), .ref (d2 0)]) (by rw [ed2]) ?_
  refine ka_callv (W.runI (As := [.int (lcell L xs 0), .int (lcell L xs 1)]) (rest := [.ref (d2 0)]) ⟨hx, hb, hml, hown, hts⟩ (c_M_init l D cI cL cQ d2 κ2 hq2 (fun k h h9 => (hk2 k (by omega)).trans ((hk1 k h9).trans (hn k (by omega)))) H.size (lcell L xs 0) (lcell L xs 1)) (cwI 2 hts (k_gC tw_382) rfl rfl rfl (hts _ tw_41) (hts _ tw_380) (hts _ tw_381) rfl (by decide +kernel) ⟨Nat.le_of_ble_eq_true rfl, Nat.le_of_ble_eq_true rfl⟩) (kPreS hM.1 hK) rfl rfl hl.1 rfl (lv_room (Nat.le_of_ble_eq_true rfl)) dL_law_32 ⟨Nat.le_of_ble_eq_true rfl, Nat.le_of_ble_eq_true rfl⟩) hM hA (fun d3 κ3 H locs h3 hM => ?_)
  obtain ⟨hm3, hk3, hd3, hd30⟩ : IsM cI cL d3 κ3 (mInit (lcell L xs 0) (lcell L xs 1)) ∧ (∀ k, 18 ≤ k → κ3 k = κ2 k) ∧ (∀ k, 18 ≤ k → d3 k = d2 k) ∧ True := ⟨h3.1, h3.2.1, h3.2.2.1, trivial⟩
  have hX3 := hX2.keepD hk3 hd3
  refine W.eq (g2 := F0 m 35 ls [.ref (d3 0)]) (by rw [h3.2.2.2]) ?_
  have e18 : d3 18 = d1 18 := (hd3 18 (by decide)).trans (hd2 18 (by decide))
  refine lv_astore_n (lv' := [(2, .ref (d3 0)), (1, .ref (d1 18)), (0, .ref b)]) hx hb dL_law_35 rfl hl (by decide) rfl (fun ls hl => ?_)
  refine lv_iconst (v := 2) hx hb dL_law_36 (by decide) ?_
  refine lv_istore_n (lv' := [(3, .int 2), (2, .ref (d3 0)), (1, .ref (d1 18)), (0, .ref b)]) hx hb dL_law_37 rfl hl (by decide) rfl (fun ls hl => ?_)
  have hl : lv_has ls 4 [(3, .int (nI (2 + 6 * 0))), (2, .ref (d3 0)), (1, .ref (d3 18)), (0, .ref b)] := by rw [e18]; exact hl
  refine W.widen (k := 32 + 3 * 0) (n := 7442 + 516 * 0) (by omega) (by omega) ?_
  exact law_loop RR hRB hS hw hL C0 hK 513 0 (by omega) (by omega) d3 κ3 _ _ H locs ls hM hm3 hX3 (h0 _ _) hl
