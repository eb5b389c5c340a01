/-- what is owed of the two states: every call answers alike, and keeps the relation -/
def RSt (RR : Nat → MS → XS → Prop) : Prop := (∀ (n : Nat) (ms : MS) (x : XS), RR n ms x → n < 512 → (g_X_currency x).1 = (g_M_currency ms).1 ∧ RR (n + 1) (g_M_currency ms).2 (g_X_currency x).2) ∧ (∀ (n : Nat) (ms : MS) (x : XS) (v0 : Int64) (v1 : Int32), RR n ms x → n < 512 → (g_X_security x v0 v1).1 = (g_M_security ms v0 v1).1 ∧ RR (n + 1) (g_M_security ms v0 v1).2 (g_X_security x v0 v1).2) ∧ (∀ (n : Nat) (ms : MS) (x : XS) (v0 : Int32) (v1 : Int64) (v2 : Int32), RR n ms x → n < 512 → (g_X_price x v0 v1 v2).1 = (g_M_price ms v0 v1 v2).1 ∧ RR (n + 1) (g_M_price ms v0 v1 v2).2 (g_X_price x v0 v1 v2).2) ∧ (∀ (n : Nat) (ms : MS) (x : XS) (v0 : Int32) (v1 : Int32) (v2 : Int64), RR n ms x → n < 512 → (g_X_give x v0 v1 v2).1 = (g_M_give ms v0 v1 v2).1 ∧ RR (n + 1) (g_M_give ms v0 v1 v2).2 (g_X_give x v0 v1 v2).2) ∧ (∀ (n : Nat) (ms : MS) (x : XS) (v0 : Int32) (v1 : Int32) (v2 : Int64), RR n ms x → n < 512 → (g_X_back x v0 v1 v2).1 = (g_M_back ms v0 v1 v2).1 ∧ RR (n + 1) (g_M_back ms v0 v1 v2).2 (g_X_back x v0 v1 v2).2) ∧ (∀ (n : Nat) (ms : MS) (x : XS) (v0 : Int32) (v1 : Int32) (v2 : Int64), RR n ms x → n < 512 → (g_X_pledge x v0 v1 v2).1 = (g_M_pledge ms v0 v1 v2).1 ∧ RR (n + 1) (g_M_pledge ms v0 v1 v2).2 (g_X_pledge x v0 v1 v2).2) ∧ (∀ (n : Nat) (ms : MS) (x : XS) (v0 : Int32) (v1 : Int32) (v2 : Int64), RR n ms x → n < 512 → (g_X_free x v0 v1 v2).1 = (g_M_free ms v0 v1 v2).1 ∧ RR (n + 1) (g_M_free ms v0 v1 v2).2 (g_X_free x v0 v1 v2).2) ∧ (∀ (n : Nat) (ms : MS) (x : XS) (v0 : Int32) (v1 : Int32) (v2 : Int64), RR n ms x → n < 512 → (g_X_limit x v0 v1 v2).1 = (g_M_limit ms v0 v1 v2).1 ∧ RR (n + 1) (g_M_limit ms v0 v1 v2).2 (g_X_limit x v0 v1 v2).2) ∧ (∀ (n : Nat) (ms : MS) (x : XS) (v0 : Int32) (v1 : Int32), RR n ms x → n < 512 → (g_X_open x v0 v1).1 = (g_M_open ms v0 v1).1 ∧ RR (n + 1) (g_M_open ms v0 v1).2 (g_X_open x v0 v1).2) ∧ (∀ (n : Nat) (ms : MS) (x : XS) (v0 : Int32) (v1 : Int32) (v2 : Int32) (v3 : Int64), RR n ms x → n < 512 → (g_X_leg x v0 v1 v2 v3).1 = (g_M_leg ms v0 v1 v2 v3).1 ∧ RR (n + 1) (g_M_leg ms v0 v1 v2 v3).2 (g_X_leg x v0 v1 v2 v3).2) ∧ (∀ (n : Nat) (ms : MS) (x : XS), RR n ms x → n < 512 → f_X_holds x = f_M_holds ms ∧ RR (n + 1) ms x) ∧ (∀ (n : Nat) (ms : MS) (x : XS), RR n ms x → n < 512 → (g_X_post x).1 = (g_M_post ms).1 ∧ RR (n + 1) (g_M_post ms).2 (g_X_post x).2) ∧ (∀ (n : Nat) (ms : MS) (x : XS), RR n ms x → n < 512 → (g_X_drop x).1 = (g_M_drop ms).1 ∧ RR (n + 1) (g_M_drop ms).2 (g_X_drop x).2) ∧ (∀ (n : Nat) (ms : MS) (x : XS) (v0 : Int32), RR n ms x → n < 512 → f_X_net x v0 = f_M_net ms v0 ∧ RR (n + 1) ms x) ∧ (∀ (n : Nat) (ms : MS) (x : XS) (v0 : Int32), RR n ms x → n < 512 → f_X_value x v0 = f_M_value ms v0 ∧ RR (n + 1) ms x) ∧ (∀ (n : Nat) (ms : MS) (x : XS) (v0 : Int32), RR n ms x → n < 512 → f_X_floor x v0 = f_M_floor ms v0 ∧ RR (n + 1) ms x) ∧ (∀ (n : Nat) (ms : MS) (x : XS) (v0 : Int32), RR n ms x → n < 512 → f_X_isThere x v0 = f_M_isThere ms v0 ∧ RR (n + 1) ms x) ∧ (∀ (n : Nat) (ms : MS) (x : XS) (v0 : Int32), RR n ms x → n < 512 → f_X_credit x v0 = f_M_credit ms v0 ∧ RR (n + 1) ms x) ∧ (∀ (n : Nat) (ms : MS) (x : XS), RR n ms x → n < 512 → RR (n + 1) (g_M_day ms) (g_X_day x))
set_option maxHeartbeats 8000000 in
set_option maxRecDepth 100000 in
theorem law_loop {p : Program} {l : Launch} {e : Env} {s : State} {m : MethodId} {below : List Frame} {meth : Method} {c : Code} {D : va_G} {cI cL cQ : ClassId} {b L : Nat} {xs : Nat → Int32} (RR : Nat → MS → XS → Prop) (hRB : ∀ n ms x, RR n ms x → RB n ms x) (hS : RSt RR) (hw : ∀ n ms x, RR n ms x → RR (n + 1) ms x) (hL : L ≤ 3074) (C0 : lw_At p s m meth c b L xs) (hK : va_K D vCl (kT cI cL cQ) s) : ∀ (n j : Nat), j ≤ 512 → 512 < j + n → ∀ (d : Nat → Nat) (κ : Nat → Option va_E) (ms : MS) (x : XS) (H : Heap) (locs : List Loc) (ls : Array Slot), kW D vCl d κ (fun q : Nat => s.heap.size ≤ q) s.heap H locs → IsM cI cL d κ ms → IsX cI cL cQ d κ x → RR j ms x → lv_has ls 4 [(3, .int (nI (2 + 6 * j))), (2, .ref (d 0)), (1, .ref (d 18)), (0, .ref b)] → W p l e room_1 s m #[Value.ref b] below meth c H locs (32 + 3 * j) (7442 + 516 * j) (lw_Z below #[Value.ref b] s) (F0 m 38 ls []) := by
  have C1 := C0
  obtain ⟨hx, hb, hr, hml, hown, hts0, hX0, hbl, hlocks, hgv⟩ := C1
  have hbA : ¬ (fun q : Nat => s.heap.size ≤ q) b := Nat.not_le.mpr hbl
  intro n
  induction n with
  | zero => intro j h1 h2; omega
  | succ n ih =>
    intro j h1 h2 d κ ms x H locs ls hM hm hX hR hl
    refine lv_iload_n hx hb dL_law_38 rfl (lv_at hl 0 rfl) ?_
    refine lv_aload_n hx hb dL_law_39 rfl (lv_at hl 3 rfl) ?_
    refine va_slen hx hb hX0 hbl hbA hM.2.2 dL_law_40 ?_
    refine lv_bipush (v := 6) hx hb dL_law_41 (by decide) ?_
    refine lv_isub hx hb dL_law_43 ?_
    refine lv_icmp_gt (tgt := 949) hx hb dL_law_44 (by decide) (fun c_44 => ?_) (fun c_44 => ?_)
    · refine lv_iconst (v := 1) hx hb dL_law_949 (by decide) ?_
      refine va_forget (fun q hq => hM.2.2.2.2 q hq) ?_
      refine W.widen (k := 600000) (n := 7302250) (by omega) (by omega) ?_
      exact lw_ret hx hb hr hlocks dL_law_950
    · have hj : 8 + 6 * j ≤ L := by
        have c2 : ¬ nI L - nI 6 < nI (2 + 6 * j) := c_44
        rw [Int32.lt_iff_toInt_lt, pk_sub_toInt (by omega) (by decide), nI_toInt (by omega)] at c2
        omega
      have hj2 : j < 512 := by omega
      have next : ∀ (d : Nat → Nat) (κ : Nat → Option va_E) (ms : MS) (x : XS) (H : Heap) (locs : List Loc) (ls : Array Slot), kW D vCl d κ (fun q : Nat => s.heap.size ≤ q) s.heap H locs → IsM cI cL d κ ms → IsX cI cL cQ d κ x → RR (j + 1) ms x → lv_has ls 4 [(3, .int (nI (2 + 6 * j))), (2, .ref (d 0)), (1, .ref (d 18)), (0, .ref b)] → W p l e room_1 s m #[Value.ref b] below meth c H locs ((32 + 3 * j) + 3) ((7442 + 516 * j) + 516) (lw_Z below #[Value.ref b] s) (F0 m 943 ls []) := by
        intro d κ ms x H locs ls hM hm hX hR hl
        refine lv_iinc (v := nI (2 + 6 * (j + 1))) (lv' := [(3, .int (nI (2 + 6 * (j + 1)))), (2, .ref (d 0)), (1, .ref (d 18)), (0, .ref b)]) hx hb dL_law_943 hl (k := 0) rfl (nI_add (2 + 6 * j) 6) (by decide) rfl (fun ls hl => ?_)
        refine lv_goto (tgt := 38) hx hb dL_law_946 (by decide) ?_
        refine W.cs (cells' := (32 + 3 * (j + 1))) (slots' := (7442 + 516 * (j + 1))) (by omega) (by omega) ?_
        exact ih (j + 1) (by omega) (by omega) d κ ms x H locs ls hM hm hX hR hl
      refine lv_aload_n hx hb dL_law_47 rfl (lv_at hl 3 rfl) ?_
      refine lv_iload_n hx hb dL_law_48 rfl (lv_at hl 0 rfl) ?_
      refine va_sld hx hb hX0 hbl hbA hM.2.2 (vp_in_nI (by omega) (by omega)) dL_law_49 ?_
      refine lv_bipush (v := 31) hx hb dL_law_50 (by decide) ?_
      refine lv_iand hx hb dL_law_52 ?_
      obtain ⟨k, hk, ek⟩ := pk_andE (xs (nI (2 + 6 * j)).toNatClampNeg) (m := 31) 5 (by decide)
      refine k_topi ek ?_
      have hc : (32 + 3 * j) + 3 ≤ 600000 := by omega
      have hs : (7442 + 516 * j) + 516 ≤ 7302250 := by omega
      match k, hk with
      | 0, _ =>
        refine lv_tableIn (tgt := 144) hx hb dL_law_53 (by decide) (by decide) (off := 91) (by decide) (by decide) ?_
        exact lc_currency RR hRB hS.1 hL C0 hK j hj d κ ms x H locs ls _ _ hc hs hM hm hX hR hl next
      | 1, _ =>
        refine lv_tableIn (tgt := 157) hx hb dL_law_53 (by decide) (by decide) (off := 104) (by decide) (by decide) ?_
        exact lc_security RR hRB hS.2.1 hL C0 hK j hj d κ ms x H locs ls _ _ hc hs hM hm hX hR hl next
      | 2, _ =>
        refine lv_tableIn (tgt := 220) hx hb dL_law_53 (by decide) (by decide) (off := 167) (by decide) (by decide) ?_
        exact lc_price RR hRB hS.2.2.1 hL C0 hK j hj d κ ms x H locs ls _ _ hc hs hM hm hX hR hl next
      | 3, _ =>
        refine lv_tableIn (tgt := 293) hx hb dL_law_53 (by decide) (by decide) (off := 240) (by decide) (by decide) ?_
        exact lc_give RR hRB hS.2.2.2.1 hL C0 hK j hj d κ ms x H locs ls _ _ hc hs hM hm hX hR hl next
      | 4, _ =>
        refine lv_tableIn (tgt := 366) hx hb dL_law_53 (by decide) (by decide) (off := 313) (by decide) (by decide) ?_
        exact lc_back RR hRB hS.2.2.2.2.1 hL C0 hK j hj d κ ms x H locs ls _ _ hc hs hM hm hX hR hl next
      | 5, _ =>
        refine lv_tableIn (tgt := 439) hx hb dL_law_53 (by decide) (by decide) (off := 386) (by decide) (by decide) ?_
        exact lc_pledge RR hRB hS.2.2.2.2.2.1 hL C0 hK j hj d κ ms x H locs ls _ _ hc hs hM hm hX hR hl next
      | 6, _ =>
        refine lv_tableIn (tgt := 512) hx hb dL_law_53 (by decide) (by decide) (off := 459) (by decide) (by decide) ?_
        exact lc_free RR hRB hS.2.2.2.2.2.2.1 hL C0 hK j hj d κ ms x H locs ls _ _ hc hs hM hm hX hR hl next
      | 7, _ =>
        refine lv_tableIn (tgt := 585) hx hb dL_law_53 (by decide) (by decide) (off := 532) (by decide) (by decide) ?_
        exact lc_limit RR hRB hS.2.2.2.2.2.2.2.1 hL C0 hK j hj d κ ms x H locs ls _ _ hc hs hM hm hX hR hl next
      | 8, _ =>
        refine lv_tableIn (tgt := 658) hx hb dL_law_53 (by decide) (by decide) (off := 605) (by decide) (by decide) ?_
        exact lc_open RR hRB hS.2.2.2.2.2.2.2.2.1 hL C0 hK j hj d κ ms x H locs ls _ _ hc hs hM hm hX hR hl next
      | 9, _ =>
        refine lv_tableIn (tgt := 691) hx hb dL_law_53 (by decide) (by decide) (off := 638) (by decide) (by decide) ?_
        exact lc_leg RR hRB hS.2.2.2.2.2.2.2.2.2.1 hL C0 hK j hj d κ ms x H locs ls _ _ hc hs hM hm hX hR hl next
      | 10, _ =>
        refine lv_tableIn (tgt := 774) hx hb dL_law_53 (by decide) (by decide) (off := 721) (by decide) (by decide) ?_
        exact lc_holds RR hRB hS.2.2.2.2.2.2.2.2.2.2.1 hL C0 hK j hj d κ ms x H locs ls _ _ hc hs hM hm hX hR hl next
      | 11, _ =>
        refine lv_tableIn (tgt := 787) hx hb dL_law_53 (by decide) (by decide) (off := 734) (by decide) (by decide) ?_
        exact lc_post RR hRB hS.2.2.2.2.2.2.2.2.2.2.2.1 hL C0 hK j hj d κ ms x H locs ls _ _ hc hs hM hm hX hR hl next
      | 12, _ =>
        refine lv_tableIn (tgt := 800) hx hb dL_law_53 (by decide) (by decide) (off := 747) (by decide) (by decide) ?_
        exact lc_drop RR hRB hS.2.2.2.2.2.2.2.2.2.2.2.2.1 hL C0 hK j hj d κ ms x H locs ls _ _ hc hs hM hm hX hR hl next
      | 13, _ =>
        refine lv_tableIn (tgt := 813) hx hb dL_law_53 (by decide) (by decide) (off := 760) (by decide) (by decide) ?_
        exact lc_net RR hRB hS.2.2.2.2.2.2.2.2.2.2.2.2.2.1 hL C0 hK j hj d κ ms x H locs ls _ _ hc hs hM hm hX hR hl next
      | 14, _ =>
        refine lv_tableIn (tgt := 837) hx hb dL_law_53 (by decide) (by decide) (off := 784) (by decide) (by decide) ?_
        exact lc_value RR hRB hS.2.2.2.2.2.2.2.2.2.2.2.2.2.2.1 hL C0 hK j hj d κ ms x H locs ls _ _ hc hs hM hm hX hR hl next
      | 15, _ =>
        refine lv_tableIn (tgt := 861) hx hb dL_law_53 (by decide) (by decide) (off := 808) (by decide) (by decide) ?_
        exact lc_floor RR hRB hS.2.2.2.2.2.2.2.2.2.2.2.2.2.2.2.1 hL C0 hK j hj d κ ms x H locs ls _ _ hc hs hM hm hX hR hl next
      | 16, _ =>
        refine lv_tableIn (tgt := 885) hx hb dL_law_53 (by decide) (by decide) (off := 832) (by decide) (by decide) ?_
        exact lc_isThere RR hRB hS.2.2.2.2.2.2.2.2.2.2.2.2.2.2.2.2.1 hL C0 hK j hj d κ ms x H locs ls _ _ hc hs hM hm hX hR hl next
      | 17, _ =>
        refine lv_tableIn (tgt := 908) hx hb dL_law_53 (by decide) (by decide) (off := 855) (by decide) (by decide) ?_
        exact lc_credit RR hRB hS.2.2.2.2.2.2.2.2.2.2.2.2.2.2.2.2.2.1 hL C0 hK j hj d κ ms x H locs ls _ _ hc hs hM hm hX hR hl next
      | 18, _ =>
        refine lv_tableIn (tgt := 932) hx hb dL_law_53 (by decide) (by decide) (off := 879) (by decide) (by decide) ?_
        exact lc_day RR hRB hS.2.2.2.2.2.2.2.2.2.2.2.2.2.2.2.2.2.2 hL C0 hK j hj d κ ms x H locs ls _ _ hc hs hM hm hX hR hl next
      | k + 19, hk =>
        refine lv_tableOut (tgt := 943) hx hb dL_law_53 (Or.inr (by rw [nI_toInt (by omega)]; omega)) (by decide) ?_
        refine W.widen (k := (32 + 3 * j) + 3) (n := (7442 + 516 * j) + 516) (by omega) (by omega) ?_
        exact next d κ ms x H locs ls hM hm hX (hw j ms x hR) hl
