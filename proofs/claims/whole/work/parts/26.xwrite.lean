theorem xL_xL (x : XS) (j : Nat) (f g : Nat → Int64) : xL (xL x j f) j g = xL x j g := by
  simp [xL, bx_uu]
theorem indexOf_pos {cnt : Nat} {f : Nat → Int32} {g : Nat → Int64} {pair : Int32} (hcnt : cnt < 2 ^ 31) (h : ¬ f_P_indexOf cnt f g pair = -1) : 1 ≤ cnt := by
  rcases indexOf_spec (f := f) (g := g) (pair := pair) hcnt with ⟨h3, -⟩ | ⟨j, h4, -⟩
  · exact absurd h3 h
  · omega

theorem dP_clear_0 : decode prog_4_method_7_code 0 = .ok (.aload_n 0, 1) := by decide +kernel
theorem dP_clear_1 : decode prog_4_method_7_code 1 = .ok (.iconst 0, 1) := by decide +kernel
theorem dP_clear_2 : decode prog_4_method_7_code 2 = .ok (.putfield 19, 3) := by decide +kernel
theorem dP_clear_5 : decode prog_4_method_7_code 5 = .ok (.return_, 1) := by decide +kernel
def g_P_clear (len cnt : Nat) (f : Nat → Int32) (g : Nat → Int64) : (Nat × (Nat → Int32) × (Nat → Int64)) := (0, f, g)
set_option maxHeartbeats 4000000 in
set_option maxRecDepth 100000 in
theorem c_P_clear (l : Launch) (D : va_G) (cI cL cQ : ClassId) (d : Nat → Nat) (κ0 : Nat → Option va_E) (q len cnt : Nat) (f : Nat → Int32) (g : Nat → Int64) (hp : IsP cI cL d κ0 q len cnt f g) (hc : cnt ≤ len) (hlen : len ≤ 512) (sz : Nat)   : Met l yP_clear wP_clear { frames := 0, cells := 0, slots := 0, locals := 0 } (va_Pc [.ref (d q)] (kC D vCl (kT cI cL cQ) d κ0 sz)) (kNv D vCl d (kA d κ0 sz) (fun κ' => PW cI cL κ0 d κ' q len (g_P_clear len cnt f g).1 (g_P_clear len cnt f g).2.1 (g_P_clear len cnt f g).2.2)) 0 0 (kA d κ0 sz) := by
  refine kMet (by decide) (Nat.le_of_ble_eq_true rfl) ?_
  intro p0 e0 s0 m0 below0 meth0 c0 hx hb hr hml hown hlocks hin hts hsz hP hK ls hl
  subst hsz
  have hl : lv_has ls 1 [(0, .ref (d q))] := hl
  obtain ⟨κ, hM, hW⟩ : ∃ κ', kW D vCl d κ' (kA d κ0 s0.heap.size) s0.heap s0.heap [] ∧ PW cI cL κ0 d κ' q len cnt f g := ⟨κ0, kW.start hP, ⟨hp, fun _ _ _ _ => rfl⟩⟩
  refine lv_aload_n hx hb dP_clear_0 rfl (lv_at hl 0 rfl) ?_
  refine lv_iconst (v := 0) hx hb dP_clear_1 (by decide) ?_
  refine ka_put (D := D) (ci := 2) (v := .int (0)) (ty := .int) (C := RP) (T := TP) (N := 3) hx hb hts inP tP tP_ok nP hown hK hM (q := q) hW.1.1 rfl 2 (by decide) (hts _ tw_62) (fun _ h9 => h9) rfl (by decide +kernel) rfl rfl (Nat.le_of_ble_eq_true rfl) dP_clear_2 (fun H locs hM => ?_)
  obtain ⟨κ, hM, hW⟩ : ∃ κ', kW D vCl d κ' (kA d κ0 s0.heap.size) s0.heap H locs ∧ PW cI cL κ0 d κ' q len 0 f g := ⟨_, hM, pw_count 0 hW⟩
  have hg : g_P_clear len cnt f g = (0, f, g) := by rw [g_P_clear]
  exact W.vret hx hb hr (fun t ht h9 => kNv.of hM ht (by rw [hg]; exact hW)) hM.2.2.2.2 dP_clear_5

theorem dP_put_0 : decode prog_4_method_5_code 0 = .ok (.aload_n 0, 1) := by decide +kernel
theorem dP_put_1 : decode prog_4_method_5_code 1 = .ok (.iload_n 1, 1) := by decide +kernel
theorem dP_put_2 : decode prog_4_method_5_code 2 = .ok (.invokevirtual 23, 3) := by decide +kernel
theorem dP_put_5 : decode prog_4_method_5_code 5 = .ok (.istore 4, 2) := by decide +kernel
theorem dP_put_7 : decode prog_4_method_5_code 7 = .ok (.iload 4, 2) := by decide +kernel
theorem dP_put_9 : decode prog_4_method_5_code 9 = .ok (.iconst (-1), 1) := by decide +kernel
theorem dP_put_10 : decode prog_4_method_5_code 10 = .ok (.if_icmp .ne 33, 3) := by decide +kernel
theorem dP_put_13 : decode prog_4_method_5_code 13 = .ok (.aload_n 0, 1) := by decide +kernel
theorem dP_put_14 : decode prog_4_method_5_code 14 = .ok (.getfield 19, 3) := by decide +kernel
theorem dP_put_17 : decode prog_4_method_5_code 17 = .ok (.aload_n 0, 1) := by decide +kernel
theorem dP_put_18 : decode prog_4_method_5_code 18 = .ok (.getfield 9, 3) := by decide +kernel
theorem dP_put_21 : decode prog_4_method_5_code 21 = .ok (.arraylength, 1) := by decide +kernel
theorem dP_put_22 : decode prog_4_method_5_code 22 = .ok (.if_icmp .lt 5, 3) := by decide +kernel
theorem dP_put_25 : decode prog_4_method_5_code 25 = .ok (.iconst 0, 1) := by decide +kernel
theorem dP_put_26 : decode prog_4_method_5_code 26 = .ok (.ireturn, 1) := by decide +kernel
theorem dP_put_27 : decode prog_4_method_5_code 27 = .ok (.aload_n 0, 1) := by decide +kernel
theorem dP_put_28 : decode prog_4_method_5_code 28 = .ok (.getfield 19, 3) := by decide +kernel
theorem dP_put_31 : decode prog_4_method_5_code 31 = .ok (.istore 4, 2) := by decide +kernel
theorem dP_put_33 : decode prog_4_method_5_code 33 = .ok (.aload_n 0, 1) := by decide +kernel
theorem dP_put_34 : decode prog_4_method_5_code 34 = .ok (.dup, 1) := by decide +kernel
theorem dP_put_35 : decode prog_4_method_5_code 35 = .ok (.getfield 19, 3) := by decide +kernel
theorem dP_put_38 : decode prog_4_method_5_code 38 = .ok (.iconst 1, 1) := by decide +kernel
theorem dP_put_39 : decode prog_4_method_5_code 39 = .ok (.iadd, 1) := by decide +kernel
theorem dP_put_40 : decode prog_4_method_5_code 40 = .ok (.putfield 19, 3) := by decide +kernel
theorem dP_put_43 : decode prog_4_method_5_code 43 = .ok (.aload_n 0, 1) := by decide +kernel
theorem dP_put_44 : decode prog_4_method_5_code 44 = .ok (.getfield 9, 3) := by decide +kernel
theorem dP_put_47 : decode prog_4_method_5_code 47 = .ok (.iload 4, 2) := by decide +kernel
theorem dP_put_49 : decode prog_4_method_5_code 49 = .ok (.iload_n 1, 1) := by decide +kernel
theorem dP_put_50 : decode prog_4_method_5_code 50 = .ok (.iastore, 1) := by decide +kernel
theorem dP_put_51 : decode prog_4_method_5_code 51 = .ok (.aload_n 0, 1) := by decide +kernel
theorem dP_put_52 : decode prog_4_method_5_code 52 = .ok (.getfield 15, 3) := by decide +kernel
theorem dP_put_55 : decode prog_4_method_5_code 55 = .ok (.iload 4, 2) := by decide +kernel
theorem dP_put_57 : decode prog_4_method_5_code 57 = .ok (.lload_n 2, 1) := by decide +kernel
theorem dP_put_58 : decode prog_4_method_5_code 58 = .ok (.lastore, 1) := by decide +kernel
theorem dP_put_59 : decode prog_4_method_5_code 59 = .ok (.iconst 1, 1) := by decide +kernel
theorem dP_put_60 : decode prog_4_method_5_code 60 = .ok (.ireturn, 1) := by decide +kernel
def g_P_put (len cnt : Nat) (f : Nat → Int32) (g : Nat → Int64) (pair : Int32) (amount : Int64) : Int32 × (Nat × (Nat → Int32) × (Nat → Int64)) := if (f_P_indexOf cnt f g pair) = (-1) then (if (nI cnt) < (nI len) then (1, (cnt + 1, va_up f (nI cnt).toNatClampNeg pair, va_up g (nI cnt).toNatClampNeg amount)) else (0, (cnt, f, g))) else (1, (cnt, va_up f (f_P_indexOf cnt f g pair).toNatClampNeg pair, va_up g (f_P_indexOf cnt f g pair).toNatClampNeg amount))
set_option maxHeartbeats 4000000 in
set_option maxRecDepth 100000 in
theorem c_P_put (l : Launch) (D : va_G) (cI cL cQ : ClassId) (d : Nat → Nat) (κ0 : Nat → Option va_E) (q len cnt : Nat) (f : Nat → Int32) (g : Nat → Int64) (hp : IsP cI cL d κ0 q len cnt f g) (hc : cnt ≤ len) (hlen : len ≤ 512) (sz : Nat) (pair : Int32) (amount : Int64)  : Met l yP_put wP_put { frames := 1, cells := 0, slots := 0, locals := 22 } (va_Pc [.ref (d q), .int (pair), .long (amount)] (kC D vCl (kT cI cL cQ) d κ0 sz)) (kNi D vCl d (kA d κ0 sz) (fun r κ' => r = (g_P_put len cnt f g pair amount).1 ∧ PW cI cL κ0 d κ' q len (g_P_put len cnt f g pair amount).2.1 (g_P_put len cnt f g pair amount).2.2.1 (g_P_put len cnt f g pair amount).2.2.2)) 0 0 (kA d κ0 sz) := by
  refine kMet (by decide) (Nat.le_of_ble_eq_true rfl) ?_
  intro p0 e0 s0 m0 below0 meth0 c0 hx hb hr hml hown hlocks hin hts hsz hP hK ls hl
  subst hsz
  have hl : lv_has ls 5 [(0, .ref (d q)), (1, .int (pair)), (2, .long (amount))] := hl
  obtain ⟨κ, hM, hW⟩ : ∃ κ', kW D vCl d κ' (kA d κ0 s0.heap.size) s0.heap s0.heap [] ∧ PW cI cL κ0 d κ' q len cnt f g := ⟨κ0, kW.start hP, ⟨hp, fun _ _ _ _ => rfl⟩⟩
  refine lv_aload_n hx hb dP_put_0 rfl (lv_at hl 0 rfl) ?_
  refine lv_iload_n hx hb dP_put_1 rfl (lv_at hl 1 rfl) ?_
  refine vp_callSi (W.runV (C := RP) (As := [.int (pair)]) (rest := []) ⟨hx, hb, hml, hown, hts⟩ (c_P_indexOf l D cI cL cQ d κ q len cnt f g hW.1 hc hlen _ pair) (cwV 1 hts (k_gV tw_265 tw_267 tw_13 tw_39 tw_268) rfl rfl rfl (by decide +kernel) ⟨Nat.le_of_ble_eq_true rfl, Nat.le_of_ble_eq_true rfl⟩) (kPreV hM.1 hK (q := q) hW.1.1 rfl) rfl rfl hl.1 rfl (lv_room (Nat.le_of_ble_eq_true rfl)) dP_put_2 ⟨Nat.le_of_ble_eq_true rfl, Nat.le_of_ble_eq_true rfl⟩) (fun r_2 e_2 => ?_)
  subst e_2
  refine lv_istore (lv' := [(4, .int (f_P_indexOf cnt f g pair)), (0, .ref (d q)), (1, .int (pair)), (2, .long (amount))]) hx hb dP_put_5 hl (by decide) rfl (fun ls hl => ?_)
  refine lv_iload hx hb dP_put_7 (lv_at hl 0 rfl) ?_
  refine lv_iconst (v := -1) hx hb dP_put_9 (by decide) ?_
  refine lv_icmp_ne (tgt := 43) hx hb dP_put_10 (by decide) (fun c_10 => ?_) (fun c_10 => ?_)
  · refine lv_aload_n hx hb dP_put_43 rfl (lv_at hl 1 rfl) ?_
    refine ka_get (v := .ref (d (q + 1))) (ci := 2) (C := RP) (T := TP) (N := 3) hx hb hts inP hown hK hM.1 (q := q) hW.1.1 rfl 0 (by decide) (hts _ tw_60) (fun _ h9 => h9) rfl dP_put_44 ?_
    refine lv_iload hx hb dP_put_47 (lv_at hl 0 rfl) ?_
    refine lv_iload_n hx hb dP_put_49 rfl (lv_at hl 2 rfl) ?_
    refine ka_iast (f := f) hx hb hK hM 0 (q := (q + 1)) hW.1.2.1 rfl (i := f_P_indexOf cnt f g pair) (x := pair) (indexOf_in hc hlen (by assumption)) dP_put_50 (fun H locs hM => ?_)
    obtain ⟨κ, hM, hW⟩ : ∃ κ', kW D vCl d κ' (kA d κ0 s0.heap.size) s0.heap H locs ∧ PW cI cL κ0 d κ' q len cnt (va_up f (f_P_indexOf cnt f g pair).toNatClampNeg pair) g := ⟨_, hM, pw_pairs _ hW⟩
    refine lv_aload_n hx hb dP_put_51 rfl (lv_at hl 1 rfl) ?_
    refine ka_get (v := .ref (d (q + 2))) (ci := 2) (C := RP) (T := TP) (N := 3) hx hb hts inP hown hK hM.1 (q := q) hW.1.1 rfl 1 (by decide) (hts _ tw_61) (fun _ h9 => h9) rfl dP_put_52 ?_
    refine lv_iload hx hb dP_put_55 (lv_at hl 0 rfl) ?_
    refine lv_lload_n hx hb dP_put_57 rfl (lv_at hl 3 rfl) ?_
    refine ka_last (f := g) hx hb hK hM 1 (q := (q + 2)) hW.1.2.2 rfl (i := f_P_indexOf cnt f g pair) (x := amount) (indexOf_in hc hlen (by assumption)) dP_put_58 (fun H locs hM => ?_)
    obtain ⟨κ, hM, hW⟩ : ∃ κ', kW D vCl d κ' (kA d κ0 s0.heap.size) s0.heap H locs ∧ PW cI cL κ0 d κ' q len cnt (va_up f (f_P_indexOf cnt f g pair).toNatClampNeg pair) (va_up g (f_P_indexOf cnt f g pair).toNatClampNeg amount) := ⟨_, hM, pw_amounts _ hW⟩
    refine lv_iconst (v := 1) hx hb dP_put_59 (by decide) ?_
    have hg : g_P_put len cnt f g pair amount = (1, (cnt, va_up f (f_P_indexOf cnt f g pair).toNatClampNeg pair, va_up g (f_P_indexOf cnt f g pair).toNatClampNeg amount)) := by rw [g_P_put, if_neg c_10]
    exact W.zret (v := 1) hx hb hr k_nar1 (fun t ht h9 => kNi.of hM ht (by rw [hg]; exact ⟨rfl, hW⟩)) hM.2.2.2.2 dP_put_60
  · refine lv_aload_n hx hb dP_put_13 rfl (lv_at hl 1 rfl) ?_
    refine ka_get (v := .int (nI cnt)) (ci := 2) (C := RP) (T := TP) (N := 3) hx hb hts inP hown hK hM.1 (q := q) hW.1.1 rfl 2 (by decide) (hts _ tw_62) (fun _ h9 => h9) rfl dP_put_14 ?_
    refine lv_aload_n hx hb dP_put_17 rfl (lv_at hl 1 rfl) ?_
    refine ka_get (v := .ref (d (q + 1))) (ci := 2) (C := RP) (T := TP) (N := 3) hx hb hts inP hown hK hM.1 (q := q) hW.1.1 rfl 0 (by decide) (hts _ tw_60) (fun _ h9 => h9) rfl dP_put_18 ?_
    refine ka_alen hx hb hK hM.1 0 (q := (q + 1)) hW.1.2.1 rfl (v := nI len) rfl dP_put_21 ?_
    refine lv_icmp_lt (tgt := 27) hx hb dP_put_22 (by decide) (fun c_22 => ?_) (fun c_22 => ?_)
    · have hlt : cnt < len := Nat.lt_of_not_le (fun q => nI_nlt q (by omega) c_22)
      refine lv_aload_n hx hb dP_put_27 rfl (lv_at hl 1 rfl) ?_
      refine ka_get (v := .int (nI cnt)) (ci := 2) (C := RP) (T := TP) (N := 3) hx hb hts inP hown hK hM.1 (q := q) hW.1.1 rfl 2 (by decide) (hts _ tw_62) (fun _ h9 => h9) rfl dP_put_28 ?_
      refine lv_istore (lv' := [(4, .int (nI cnt)), (0, .ref (d q)), (1, .int (pair)), (2, .long (amount))]) hx hb dP_put_31 hl (by decide) rfl (fun ls hl => ?_)
      refine lv_aload_n hx hb dP_put_33 rfl (lv_at hl 1 rfl) ?_
      refine lv_dup hx hb dP_put_34 rfl ?_
      refine ka_get (v := .int (nI cnt)) (ci := 2) (C := RP) (T := TP) (N := 3) hx hb hts inP hown hK hM.1 (q := q) hW.1.1 rfl 2 (by decide) (hts _ tw_62) (fun _ h9 => h9) rfl dP_put_35 ?_
      refine lv_iconst (v := 1) hx hb dP_put_38 (by decide) ?_
      refine lv_iadd hx hb dP_put_39 ?_
      refine k_topi (show nI cnt + 1 = nI (cnt + 1) from nI_add _ _) ?_
      refine ka_put (D := D) (ci := 2) (v := .int (nI (cnt + 1))) (ty := .int) (C := RP) (T := TP) (N := 3) hx hb hts inP tP tP_ok nP hown hK hM (q := q) hW.1.1 rfl 2 (by decide) (hts _ tw_62) (fun _ h9 => h9) rfl (by decide +kernel) rfl rfl (Nat.le_of_ble_eq_true rfl) dP_put_40 (fun H locs hM => ?_)
      obtain ⟨κ, hM, hW⟩ : ∃ κ', kW D vCl d κ' (kA d κ0 s0.heap.size) s0.heap H locs ∧ PW cI cL κ0 d κ' q len (cnt + 1) f g := ⟨_, hM, pw_count (cnt + 1) hW⟩
      refine lv_aload_n hx hb dP_put_43 rfl (lv_at hl 1 rfl) ?_
      refine ka_get (v := .ref (d (q + 1))) (ci := 2) (C := RP) (T := TP) (N := 3) hx hb hts inP hown hK hM.1 (q := q) hW.1.1 rfl 0 (by decide) (hts _ tw_60) (fun _ h9 => h9) rfl dP_put_44 ?_
      refine lv_iload hx hb dP_put_47 (lv_at hl 0 rfl) ?_
      refine lv_iload_n hx hb dP_put_49 rfl (lv_at hl 2 rfl) ?_
      refine ka_iast (f := f) hx hb hK hM 0 (q := (q + 1)) hW.1.2.1 rfl (i := nI cnt) (x := pair) (vp_in_nI (by omega) (by omega)) dP_put_50 (fun H locs hM => ?_)
      obtain ⟨κ, hM, hW⟩ : ∃ κ', kW D vCl d κ' (kA d κ0 s0.heap.size) s0.heap H locs ∧ PW cI cL κ0 d κ' q len (cnt + 1) (va_up f (nI cnt).toNatClampNeg pair) g := ⟨_, hM, pw_pairs _ hW⟩
      refine lv_aload_n hx hb dP_put_51 rfl (lv_at hl 1 rfl) ?_
      refine ka_get (v := .ref (d (q + 2))) (ci := 2) (C := RP) (T := TP) (N := 3) hx hb hts inP hown hK hM.1 (q := q) hW.1.1 rfl 1 (by decide) (hts _ tw_61) (fun _ h9 => h9) rfl dP_put_52 ?_
      refine lv_iload hx hb dP_put_55 (lv_at hl 0 rfl) ?_
      refine lv_lload_n hx hb dP_put_57 rfl (lv_at hl 3 rfl) ?_
      refine ka_last (f := g) hx hb hK hM 1 (q := (q + 2)) hW.1.2.2 rfl (i := nI cnt) (x := amount) (vp_in_nI (by omega) (by omega)) dP_put_58 (fun H locs hM => ?_)
      obtain ⟨κ, hM, hW⟩ : ∃ κ', kW D vCl d κ' (kA d κ0 s0.heap.size) s0.heap H locs ∧ PW cI cL κ0 d κ' q len (cnt + 1) (va_up f (nI cnt).toNatClampNeg pair) (va_up g (nI cnt).toNatClampNeg amount) := ⟨_, hM, pw_amounts _ hW⟩
      refine lv_iconst (v := 1) hx hb dP_put_59 (by decide) ?_
      have hg : g_P_put len cnt f g pair amount = (1, (cnt + 1, va_up f (nI cnt).toNatClampNeg pair, va_up g (nI cnt).toNatClampNeg amount)) := by rw [g_P_put, if_pos c_10, if_pos c_22]
      exact W.zret (v := 1) hx hb hr k_nar1 (fun t ht h9 => kNi.of hM ht (by rw [hg]; exact ⟨rfl, hW⟩)) hM.2.2.2.2 dP_put_60
    · refine lv_iconst (v := 0) hx hb dP_put_25 (by decide) ?_
      have hg : g_P_put len cnt f g pair amount = (0, (cnt, f, g)) := by rw [g_P_put, if_pos c_10, if_neg c_22]
      exact W.zret (v := 0) hx hb hr k_nar0 (fun t ht h9 => kNi.of hM ht (by rw [hg]; exact ⟨rfl, hW⟩)) hM.2.2.2.2 dP_put_26

theorem dP_remove_0 : decode prog_4_method_6_code 0 = .ok (.aload_n 0, 1) := by decide +kernel
theorem dP_remove_1 : decode prog_4_method_6_code 1 = .ok (.iload_n 1, 1) := by decide +kernel
theorem dP_remove_2 : decode prog_4_method_6_code 2 = .ok (.invokevirtual 23, 3) := by decide +kernel
theorem dP_remove_5 : decode prog_4_method_6_code 5 = .ok (.istore_n 2, 1) := by decide +kernel
theorem dP_remove_6 : decode prog_4_method_6_code 6 = .ok (.iload_n 2, 1) := by decide +kernel
theorem dP_remove_7 : decode prog_4_method_6_code 7 = .ok (.iconst (-1), 1) := by decide +kernel
theorem dP_remove_8 : decode prog_4_method_6_code 8 = .ok (.if_icmp .ne 5, 3) := by decide +kernel
theorem dP_remove_11 : decode prog_4_method_6_code 11 = .ok (.iconst 0, 1) := by decide +kernel
theorem dP_remove_12 : decode prog_4_method_6_code 12 = .ok (.ireturn, 1) := by decide +kernel
theorem dP_remove_13 : decode prog_4_method_6_code 13 = .ok (.aload_n 0, 1) := by decide +kernel
theorem dP_remove_14 : decode prog_4_method_6_code 14 = .ok (.dup, 1) := by decide +kernel
theorem dP_remove_15 : decode prog_4_method_6_code 15 = .ok (.getfield 19, 3) := by decide +kernel
theorem dP_remove_18 : decode prog_4_method_6_code 18 = .ok (.iconst 1, 1) := by decide +kernel
theorem dP_remove_19 : decode prog_4_method_6_code 19 = .ok (.isub, 1) := by decide +kernel
theorem dP_remove_20 : decode prog_4_method_6_code 20 = .ok (.putfield 19, 3) := by decide +kernel
theorem dP_remove_23 : decode prog_4_method_6_code 23 = .ok (.aload_n 0, 1) := by decide +kernel
theorem dP_remove_24 : decode prog_4_method_6_code 24 = .ok (.getfield 9, 3) := by decide +kernel
theorem dP_remove_27 : decode prog_4_method_6_code 27 = .ok (.iload_n 2, 1) := by decide +kernel
theorem dP_remove_28 : decode prog_4_method_6_code 28 = .ok (.aload_n 0, 1) := by decide +kernel
theorem dP_remove_29 : decode prog_4_method_6_code 29 = .ok (.getfield 9, 3) := by decide +kernel
theorem dP_remove_32 : decode prog_4_method_6_code 32 = .ok (.aload_n 0, 1) := by decide +kernel
theorem dP_remove_33 : decode prog_4_method_6_code 33 = .ok (.getfield 19, 3) := by decide +kernel
theorem dP_remove_36 : decode prog_4_method_6_code 36 = .ok (.iaload, 1) := by decide +kernel
theorem dP_remove_37 : decode prog_4_method_6_code 37 = .ok (.iastore, 1) := by decide +kernel
theorem dP_remove_38 : decode prog_4_method_6_code 38 = .ok (.aload_n 0, 1) := by decide +kernel
theorem dP_remove_39 : decode prog_4_method_6_code 39 = .ok (.getfield 15, 3) := by decide +kernel
theorem dP_remove_42 : decode prog_4_method_6_code 42 = .ok (.iload_n 2, 1) := by decide +kernel
theorem dP_remove_43 : decode prog_4_method_6_code 43 = .ok (.aload_n 0, 1) := by decide +kernel
theorem dP_remove_44 : decode prog_4_method_6_code 44 = .ok (.getfield 15, 3) := by decide +kernel
theorem dP_remove_47 : decode prog_4_method_6_code 47 = .ok (.aload_n 0, 1) := by decide +kernel
theorem dP_remove_48 : decode prog_4_method_6_code 48 = .ok (.getfield 19, 3) := by decide +kernel
theorem dP_remove_51 : decode prog_4_method_6_code 51 = .ok (.laload, 1) := by decide +kernel
theorem dP_remove_52 : decode prog_4_method_6_code 52 = .ok (.lastore, 1) := by decide +kernel
theorem dP_remove_53 : decode prog_4_method_6_code 53 = .ok (.iconst 1, 1) := by decide +kernel
theorem dP_remove_54 : decode prog_4_method_6_code 54 = .ok (.ireturn, 1) := by decide +kernel
def g_P_remove (len cnt : Nat) (f : Nat → Int32) (g : Nat → Int64) (pair : Int32) : Int32 × (Nat × (Nat → Int32) × (Nat → Int64)) := if (f_P_indexOf cnt f g pair) = (-1) then (0, (cnt, f, g)) else (1, (cnt - 1, va_up f (f_P_indexOf cnt f g pair).toNatClampNeg (f (nI (cnt - 1)).toNatClampNeg), va_up g (f_P_indexOf cnt f g pair).toNatClampNeg (g (nI (cnt - 1)).toNatClampNeg)))
set_option maxHeartbeats 4000000 in
set_option maxRecDepth 100000 in
theorem c_P_remove (l : Launch) (D : va_G) (cI cL cQ : ClassId) (d : Nat → Nat) (κ0 : Nat → Option va_E) (q len cnt : Nat) (f : Nat → Int32) (g : Nat → Int64) (hp : IsP cI cL d κ0 q len cnt f g) (hc : cnt ≤ len) (hlen : len ≤ 512) (sz : Nat) (pair : Int32)  : Met l yP_remove wP_remove { frames := 1, cells := 0, slots := 0, locals := 22 } (va_Pc [.ref (d q), .int (pair)] (kC D vCl (kT cI cL cQ) d κ0 sz)) (kNi D vCl d (kA d κ0 sz) (fun r κ' => r = (g_P_remove len cnt f g pair).1 ∧ PW cI cL κ0 d κ' q len (g_P_remove len cnt f g pair).2.1 (g_P_remove len cnt f g pair).2.2.1 (g_P_remove len cnt f g pair).2.2.2)) 0 0 (kA d κ0 sz) := by
  refine kMet (by decide) (Nat.le_of_ble_eq_true rfl) ?_
  intro p0 e0 s0 m0 below0 meth0 c0 hx hb hr hml hown hlocks hin hts hsz hP hK ls hl
  subst hsz
  have hl : lv_has ls 3 [(0, .ref (d q)), (1, .int (pair))] := hl
  obtain ⟨κ, hM, hW⟩ : ∃ κ', kW D vCl d κ' (kA d κ0 s0.heap.size) s0.heap s0.heap [] ∧ PW cI cL κ0 d κ' q len cnt f g := ⟨κ0, kW.start hP, ⟨hp, fun _ _ _ _ => rfl⟩⟩
  refine lv_aload_n hx hb dP_remove_0 rfl (lv_at hl 0 rfl) ?_
  refine lv_iload_n hx hb dP_remove_1 rfl (lv_at hl 1 rfl) ?_
  refine vp_callSi (W.runV (C := RP) (As := [.int (pair)]) (rest := []) ⟨hx, hb, hml, hown, hts⟩ (c_P_indexOf l D cI cL cQ d κ q len cnt f g hW.1 hc hlen _ pair) (cwV 1 hts (k_gV tw_265 tw_267 tw_13 tw_39 tw_268) rfl rfl rfl (by decide +kernel) ⟨Nat.le_of_ble_eq_true rfl, Nat.le_of_ble_eq_true rfl⟩) (kPreV hM.1 hK (q := q) hW.1.1 rfl) rfl rfl hl.1 rfl (lv_room (Nat.le_of_ble_eq_true rfl)) dP_remove_2 ⟨Nat.le_of_ble_eq_true rfl, Nat.le_of_ble_eq_true rfl⟩) (fun r_2 e_2 => ?_)
  subst e_2
  refine lv_istore_n (lv' := [(2, .int (f_P_indexOf cnt f g pair)), (0, .ref (d q)), (1, .int (pair))]) hx hb dP_remove_5 rfl hl (by decide) rfl (fun ls hl => ?_)
  refine lv_iload_n hx hb dP_remove_6 rfl (lv_at hl 0 rfl) ?_
  refine lv_iconst (v := -1) hx hb dP_remove_7 (by decide) ?_
  refine lv_icmp_ne (tgt := 13) hx hb dP_remove_8 (by decide) (fun c_8 => ?_) (fun c_8 => ?_)
  · have hpos : 1 ≤ cnt := indexOf_pos (by omega) c_8
    refine lv_aload_n hx hb dP_remove_13 rfl (lv_at hl 1 rfl) ?_
    refine lv_dup hx hb dP_remove_14 rfl ?_
    refine ka_get (v := .int (nI cnt)) (ci := 2) (C := RP) (T := TP) (N := 3) hx hb hts inP hown hK hM.1 (q := q) hW.1.1 rfl 2 (by decide) (hts _ tw_62) (fun _ h9 => h9) rfl dP_remove_15 ?_
    refine lv_iconst (v := 1) hx hb dP_remove_18 (by decide) ?_
    refine lv_isub hx hb dP_remove_19 ?_
    refine k_topi (show nI cnt - 1 = nI (cnt - 1) from pk_sub (a := cnt) (b := 1) (by omega)) ?_
    refine ka_put (D := D) (ci := 2) (v := .int (nI (cnt - 1))) (ty := .int) (C := RP) (T := TP) (N := 3) hx hb hts inP tP tP_ok nP hown hK hM (q := q) hW.1.1 rfl 2 (by decide) (hts _ tw_62) (fun _ h9 => h9) rfl (by decide +kernel) rfl rfl (Nat.le_of_ble_eq_true rfl) dP_remove_20 (fun H locs hM => ?_)
    obtain ⟨κ, hM, hW⟩ : ∃ κ', kW D vCl d κ' (kA d κ0 s0.heap.size) s0.heap H locs ∧ PW cI cL κ0 d κ' q len (cnt - 1) f g := ⟨_, hM, pw_count (cnt - 1) hW⟩
    refine lv_aload_n hx hb dP_remove_23 rfl (lv_at hl 1 rfl) ?_
    refine ka_get (v := .ref (d (q + 1))) (ci := 2) (C := RP) (T := TP) (N := 3) hx hb hts inP hown hK hM.1 (q := q) hW.1.1 rfl 0 (by decide) (hts _ tw_60) (fun _ h9 => h9) rfl dP_remove_24 ?_
    refine lv_iload_n hx hb dP_remove_27 rfl (lv_at hl 0 rfl) ?_
    refine lv_aload_n hx hb dP_remove_28 rfl (lv_at hl 1 rfl) ?_
    refine ka_get (v := .ref (d (q + 1))) (ci := 2) (C := RP) (T := TP) (N := 3) hx hb hts inP hown hK hM.1 (q := q) hW.1.1 rfl 0 (by decide) (hts _ tw_60) (fun _ h9 => h9) rfl dP_remove_29 ?_
    refine lv_aload_n hx hb dP_remove_32 rfl (lv_at hl 1 rfl) ?_
    refine ka_get (v := .int (nI (cnt - 1))) (ci := 2) (C := RP) (T := TP) (N := 3) hx hb hts inP hown hK hM.1 (q := q) hW.1.1 rfl 2 (by decide) (hts _ tw_62) (fun _ h9 => h9) rfl dP_remove_33 ?_
    refine ka_iald (f := f) hx hb hK hM.1 0 (q := (q + 1)) hW.1.2.1 rfl (vp_in_nI (by omega) (by omega)) dP_remove_36 ?_
    refine ka_iast (f := f) hx hb hK hM 0 (q := (q + 1)) hW.1.2.1 rfl (i := f_P_indexOf cnt f g pair) (x := f (nI (cnt - 1)).toNatClampNeg) (indexOf_in hc hlen (by assumption)) dP_remove_37 (fun H locs hM => ?_)
    obtain ⟨κ, hM, hW⟩ : ∃ κ', kW D vCl d κ' (kA d κ0 s0.heap.size) s0.heap H locs ∧ PW cI cL κ0 d κ' q len (cnt - 1) (va_up f (f_P_indexOf cnt f g pair).toNatClampNeg (f (nI (cnt - 1)).toNatClampNeg)) g := ⟨_, hM, pw_pairs _ hW⟩
    refine lv_aload_n hx hb dP_remove_38 rfl (lv_at hl 1 rfl) ?_
    refine ka_get (v := .ref (d (q + 2))) (ci := 2) (C := RP) (T := TP) (N := 3) hx hb hts inP hown hK hM.1 (q := q) hW.1.1 rfl 1 (by decide) (hts _ tw_61) (fun _ h9 => h9) rfl dP_remove_39 ?_
    refine lv_iload_n hx hb dP_remove_42 rfl (lv_at hl 0 rfl) ?_
    refine lv_aload_n hx hb dP_remove_43 rfl (lv_at hl 1 rfl) ?_
    refine ka_get (v := .ref (d (q + 2))) (ci := 2) (C := RP) (T := TP) (N := 3) hx hb hts inP hown hK hM.1 (q := q) hW.1.1 rfl 1 (by decide) (hts _ tw_61) (fun _ h9 => h9) rfl dP_remove_44 ?_
    refine lv_aload_n hx hb dP_remove_47 rfl (lv_at hl 1 rfl) ?_
    refine ka_get (v := .int (nI (cnt - 1))) (ci := 2) (C := RP) (T := TP) (N := 3) hx hb hts inP hown hK hM.1 (q := q) hW.1.1 rfl 2 (by decide) (hts _ tw_62) (fun _ h9 => h9) rfl dP_remove_48 ?_
    refine ka_lald (f := g) hx hb hK hM.1 1 (q := (q + 2)) hW.1.2.2 rfl (vp_in_nI (by omega) (by omega)) dP_remove_51 ?_
    refine ka_last (f := g) hx hb hK hM 1 (q := (q + 2)) hW.1.2.2 rfl (i := f_P_indexOf cnt f g pair) (x := g (nI (cnt - 1)).toNatClampNeg) (indexOf_in hc hlen (by assumption)) dP_remove_52 (fun H locs hM => ?_)
    obtain ⟨κ, hM, hW⟩ : ∃ κ', kW D vCl d κ' (kA d κ0 s0.heap.size) s0.heap H locs ∧ PW cI cL κ0 d κ' q len (cnt - 1) (va_up f (f_P_indexOf cnt f g pair).toNatClampNeg (f (nI (cnt - 1)).toNatClampNeg)) (va_up g (f_P_indexOf cnt f g pair).toNatClampNeg (g (nI (cnt - 1)).toNatClampNeg)) := ⟨_, hM, pw_amounts _ hW⟩
    refine lv_iconst (v := 1) hx hb dP_remove_53 (by decide) ?_
    have hg : g_P_remove len cnt f g pair = (1, (cnt - 1, va_up f (f_P_indexOf cnt f g pair).toNatClampNeg (f (nI (cnt - 1)).toNatClampNeg), va_up g (f_P_indexOf cnt f g pair).toNatClampNeg (g (nI (cnt - 1)).toNatClampNeg))) := by rw [g_P_remove, if_neg c_8]
    exact W.zret (v := 1) hx hb hr k_nar1 (fun t ht h9 => kNi.of hM ht (by rw [hg]; exact ⟨rfl, hW⟩)) hM.2.2.2.2 dP_remove_54
  · refine lv_iconst (v := 0) hx hb dP_remove_11 (by decide) ?_
    have hg : g_P_remove len cnt f g pair = (0, (cnt, f, g)) := by rw [g_P_remove, if_pos c_8]
    exact W.zret (v := 0) hx hb hr k_nar0 (fun t ht h9 => kNi.of hM ht (by rw [hg]; exact ⟨rfl, hW⟩)) hM.2.2.2.2 dP_remove_12

/-- the class's state with another list of limits, of payments -/
def xPS21 (x : XS) (s : Nat × (Nat → Int32) × (Nat → Int64)) : XS := xL (xI (xN x 3 s.1) 0 s.2.1) 1 s.2.2
def xPS24 (x : XS) (s : Nat × (Nat → Int32) × (Nat → Int64)) : XS := xL (xI (xN x 4 s.1) 1 s.2.1) 2 s.2.2
section OfP
variable {cI cL cQ : ClassId} {κ0 κ κ' : Nat → Option va_E} {d : Nat → Nat} {x : XS} {s : Nat × (Nat → Int32) × (Nat → Int64)}
theorem XW.ofP21 (h : XW cI cL cQ κ0 d κ x) (h' : PW cI cL κ d κ' 21 40 s.1 s.2.1 s.2.2) : XW cI cL cQ κ0 d κ' (xPS21 x s) := by
  have k : ∀ j : Nat, ¬ j = 21 → ¬ j = 22 → ¬ j = 23 → κ' j = κ j := fun j h1 h2 h3 => h'.2 j h1 h2 h3
  refine ⟨⟨(k 18 (by decide) (by decide) (by decide)).trans h.1.1, (k 19 (by decide) (by decide) (by decide)).trans h.1.2.1, (k 20 (by decide) (by decide) (by decide)).trans h.1.2.2.1, h'.1.1, h'.1.2.1, h'.1.2.2, ?_⟩, fun j hj => (k j (by omega) (by omega) (by omega)).trans (h.2 j hj)⟩
  refine ⟨(k 24 (by decide) (by decide) (by decide)).trans h.1.2.2.2.2.2.2.1, (k 25 (by decide) (by decide) (by decide)).trans h.1.2.2.2.2.2.2.2.1, (k 26 (by decide) (by decide) (by decide)).trans h.1.2.2.2.2.2.2.2.2.1, (k 27 (by decide) (by decide) (by decide)).trans h.1.2.2.2.2.2.2.2.2.2.1, (k 28 (by decide) (by decide) (by decide)).trans h.1.2.2.2.2.2.2.2.2.2.2.1, (k 29 (by decide) (by decide) (by decide)).trans h.1.2.2.2.2.2.2.2.2.2.2.2.1, (k 30 (by decide) (by decide) (by decide)).trans h.1.2.2.2.2.2.2.2.2.2.2.2.2.1, (k 31 (by decide) (by decide) (by decide)).trans h.1.2.2.2.2.2.2.2.2.2.2.2.2.2.1, fun i hi => ?_, fun j hj => (k j (by omega) (by omega) (by omega)).trans (h.1.2.2.2.2.2.2.2.2.2.2.2.2.2.2.2 j hj)⟩
  obtain ⟨a1, a2, a3⟩ := h.1.2.2.2.2.2.2.2.2.2.2.2.2.2.2.1 i hi
  exact ⟨(k _ (by omega) (by omega) (by omega)).trans a1, (k _ (by omega) (by omega) (by omega)).trans a2, (k _ (by omega) (by omega) (by omega)).trans a3⟩
theorem XW.ofP24 (h : XW cI cL cQ κ0 d κ x) (h' : PW cI cL κ d κ' 24 512 s.1 s.2.1 s.2.2) : XW cI cL cQ κ0 d κ' (xPS24 x s) := by
  have k : ∀ j : Nat, ¬ j = 24 → ¬ j = 25 → ¬ j = 26 → κ' j = κ j := fun j h1 h2 h3 => h'.2 j h1 h2 h3
  refine ⟨⟨(k 18 (by decide) (by decide) (by decide)).trans h.1.1, (k 19 (by decide) (by decide) (by decide)).trans h.1.2.1, (k 20 (by decide) (by decide) (by decide)).trans h.1.2.2.1, (k 21 (by decide) (by decide) (by decide)).trans h.1.2.2.2.1, (k 22 (by decide) (by decide) (by decide)).trans h.1.2.2.2.2.1, (k 23 (by decide) (by decide) (by decide)).trans h.1.2.2.2.2.2.1, h'.1.1, h'.1.2.1, h'.1.2.2, ?_⟩, fun j hj => (k j (by omega) (by omega) (by omega)).trans (h.2 j hj)⟩
  refine ⟨(k 27 (by decide) (by decide) (by decide)).trans h.1.2.2.2.2.2.2.2.2.2.1, (k 28 (by decide) (by decide) (by decide)).trans h.1.2.2.2.2.2.2.2.2.2.2.1, (k 29 (by decide) (by decide) (by decide)).trans h.1.2.2.2.2.2.2.2.2.2.2.2.1, (k 30 (by decide) (by decide) (by decide)).trans h.1.2.2.2.2.2.2.2.2.2.2.2.2.1, (k 31 (by decide) (by decide) (by decide)).trans h.1.2.2.2.2.2.2.2.2.2.2.2.2.2.1, fun i hi => ?_, fun j hj => (k j (by omega) (by omega) (by omega)).trans (h.1.2.2.2.2.2.2.2.2.2.2.2.2.2.2.2 j hj)⟩
  obtain ⟨a1, a2, a3⟩ := h.1.2.2.2.2.2.2.2.2.2.2.2.2.2.2.1 i hi
  exact ⟨(k _ (by omega) (by omega) (by omega)).trans a1, (k _ (by omega) (by omega) (by omega)).trans a2, (k _ (by omega) (by omega) (by omega)).trans a3⟩
end OfP

theorem dA_move_0 : decode prog_2_method_2_code 0 = .ok (.aload_n 0, 1) := by decide +kernel
theorem dA_move_1 : decode prog_2_method_2_code 1 = .ok (.getfield 17, 3) := by decide +kernel
theorem dA_move_4 : decode prog_2_method_2_code 4 = .ok (.iload_n 1, 1) := by decide +kernel
theorem dA_move_5 : decode prog_2_method_2_code 5 = .ok (.dup2, 1) := by decide +kernel
theorem dA_move_6 : decode prog_2_method_2_code 6 = .ok (.laload, 1) := by decide +kernel
theorem dA_move_7 : decode prog_2_method_2_code 7 = .ok (.lload_n 3, 1) := by decide +kernel
theorem dA_move_8 : decode prog_2_method_2_code 8 = .ok (.lsub, 1) := by decide +kernel
theorem dA_move_9 : decode prog_2_method_2_code 9 = .ok (.lastore, 1) := by decide +kernel
theorem dA_move_10 : decode prog_2_method_2_code 10 = .ok (.aload_n 0, 1) := by decide +kernel
theorem dA_move_11 : decode prog_2_method_2_code 11 = .ok (.getfield 17, 3) := by decide +kernel
theorem dA_move_14 : decode prog_2_method_2_code 14 = .ok (.iload_n 2, 1) := by decide +kernel
theorem dA_move_15 : decode prog_2_method_2_code 15 = .ok (.dup2, 1) := by decide +kernel
theorem dA_move_16 : decode prog_2_method_2_code 16 = .ok (.laload, 1) := by decide +kernel
theorem dA_move_17 : decode prog_2_method_2_code 17 = .ok (.lload_n 3, 1) := by decide +kernel
theorem dA_move_18 : decode prog_2_method_2_code 18 = .ok (.ladd, 1) := by decide +kernel
theorem dA_move_19 : decode prog_2_method_2_code 19 = .ok (.lastore, 1) := by decide +kernel
theorem dA_move_20 : decode prog_2_method_2_code 20 = .ok (.return_, 1) := by decide +kernel
def g_A_move (x : XS) (i : Nat) (fr : Int32) (to : Int32) (v : Int64) : XS := xH1 (xH1 x i (va_up (xH x i) (fr).toNatClampNeg (((xH x i) (fr).toNatClampNeg) - v))) i (va_up (xH (xH1 x i (va_up (xH x i) (fr).toNatClampNeg (((xH x i) (fr).toNatClampNeg) - v))) i) (to).toNatClampNeg (((xH (xH1 x i (va_up (xH x i) (fr).toNatClampNeg (((xH x i) (fr).toNatClampNeg) - v))) i) (to).toNatClampNeg) + v))
set_option maxHeartbeats 4000000 in
set_option maxRecDepth 100000 in
theorem c_A_move (l : Launch) (D : va_G) (cI cL cQ : ClassId) (d : Nat → Nat) (κ0 : Nat → Option va_E) (x : XS) (hX : IsX cI cL cQ d κ0 x) (hB : XB x) (sz : Nat) (i : Nat) (hi : i < x.1 2) (fr : Int32) (to : Int32) (v : Int64) (hf : vp_in fr (x.1 0)) (ht : vp_in to (x.1 0)) : Met l yA_move wA_move { frames := 0, cells := 0, slots := 0, locals := 0 } (va_Pc [.ref (d (32 + 3 * i)), .int (fr), .int (to), .long (v)] (kC D vCl (kT cI cL cQ) d κ0 sz)) (kNv D vCl d (kA d κ0 sz) (fun κ' => XW cI cL cQ κ0 d κ' (g_A_move x i fr to v))) 0 0 (kA d κ0 sz) := by
  refine kMet (by decide) (Nat.le_of_ble_eq_true rfl) ?_
  intro p0 e0 s0 m0 below0 meth0 c0 hx hb hr hml hown hlocks hin hts hsz hP hK ls hl
  subst hsz
  have hl : lv_has ls 5 [(0, .ref (d (32 + 3 * i))), (1, .int (fr)), (2, .int (to)), (3, .long (v))] := hl
  have hB9 := hB
  obtain ⟨hb0, hb1, hb2, hb3, hb4, hb5, hb6, hb7, hb8⟩ := hB9
  obtain ⟨κ, hM, hW⟩ : ∃ κ', kW D vCl d κ' (kA d κ0 s0.heap.size) s0.heap s0.heap [] ∧ XW cI cL cQ κ0 d κ' x := ⟨κ0, kW.start hP, ⟨hX, fun _ _ => rfl⟩⟩
  refine lv_aload_n hx hb dA_move_0 rfl (lv_at hl 0 rfl) ?_
  refine ka_get (v := .ref (d (33 + 3 * i))) (ci := 0) (C := RA) (T := TA) (N := 4) hx hb hts inA hown hK hM.1 (q := (32 + 3 * i)) (hW.1.2.2.2.2.2.2.2.2.2.2.2.2.2.2.1 i hi).1 rfl 1 (by decide) (hts _ tw_145) (fun _ h9 => h9) rfl dA_move_1 ?_
  refine lv_iload_n hx hb dA_move_4 rfl (lv_at hl 1 rfl) ?_
  refine lv_dup2_11 hx hb dA_move_5 rfl rfl ?_
  refine ka_lald (f := xH x i) hx hb hK hM.1 1 (q := (33 + 3 * i)) (hW.1.2.2.2.2.2.2.2.2.2.2.2.2.2.2.1 i hi).2.1 rfl (by first | assumption | exact vp_in_nI (by omega) (by omega)) dA_move_6 ?_
  refine lv_lload_n hx hb dA_move_7 rfl (lv_at hl 3 rfl) ?_
  refine lv_lsub hx hb dA_move_8 ?_
  refine ka_last (f := xH x i) hx hb hK hM 1 (q := (33 + 3 * i)) (hW.1.2.2.2.2.2.2.2.2.2.2.2.2.2.2.1 i hi).2.1 rfl (i := fr) (x := ((xH x i) (fr).toNatClampNeg) - v) (by first | assumption | exact vp_in_nI (by omega) (by omega)) dA_move_9 (fun H locs hM => ?_)
  obtain ⟨κ, hM, hW⟩ : ∃ κ', kW D vCl d κ' (kA d κ0 s0.heap.size) s0.heap H locs ∧ XW cI cL cQ κ0 d κ' (xH1 x i (va_up (xH x i) (fr).toNatClampNeg (((xH x i) (fr).toNatClampNeg) - v))) := ⟨_, hM, xw_held (x := x) hi _ hW⟩
  refine lv_aload_n hx hb dA_move_10 rfl (lv_at hl 0 rfl) ?_
  refine ka_get (v := .ref (d (33 + 3 * i))) (ci := 0) (C := RA) (T := TA) (N := 4) hx hb hts inA hown hK hM.1 (q := (32 + 3 * i)) (hW.1.2.2.2.2.2.2.2.2.2.2.2.2.2.2.1 i hi).1 rfl 1 (by decide) (hts _ tw_145) (fun _ h9 => h9) rfl dA_move_11 ?_
  refine lv_iload_n hx hb dA_move_14 rfl (lv_at hl 2 rfl) ?_
  refine lv_dup2_11 hx hb dA_move_15 rfl rfl ?_
  refine ka_lald (f := xH (xH1 x i (va_up (xH x i) (fr).toNatClampNeg (((xH x i) (fr).toNatClampNeg) - v))) i) hx hb hK hM.1 1 (q := (33 + 3 * i)) (hW.1.2.2.2.2.2.2.2.2.2.2.2.2.2.2.1 i hi).2.1 rfl (by first | assumption | exact vp_in_nI (by omega) (by omega)) dA_move_16 ?_
  refine lv_lload_n hx hb dA_move_17 rfl (lv_at hl 3 rfl) ?_
  refine lv_ladd hx hb dA_move_18 ?_
  refine ka_last (f := xH (xH1 x i (va_up (xH x i) (fr).toNatClampNeg (((xH x i) (fr).toNatClampNeg) - v))) i) hx hb hK hM 1 (q := (33 + 3 * i)) (hW.1.2.2.2.2.2.2.2.2.2.2.2.2.2.2.1 i hi).2.1 rfl (i := to) (x := ((xH (xH1 x i (va_up (xH x i) (fr).toNatClampNeg (((xH x i) (fr).toNatClampNeg) - v))) i) (to).toNatClampNeg) + v) (by first | assumption | exact vp_in_nI (by omega) (by omega)) dA_move_19 (fun H locs hM => ?_)
  obtain ⟨κ, hM, hW⟩ : ∃ κ', kW D vCl d κ' (kA d κ0 s0.heap.size) s0.heap H locs ∧ XW cI cL cQ κ0 d κ' (xH1 (xH1 x i (va_up (xH x i) (fr).toNatClampNeg (((xH x i) (fr).toNatClampNeg) - v))) i (va_up (xH (xH1 x i (va_up (xH x i) (fr).toNatClampNeg (((xH x i) (fr).toNatClampNeg) - v))) i) (to).toNatClampNeg (((xH (xH1 x i (va_up (xH x i) (fr).toNatClampNeg (((xH x i) (fr).toNatClampNeg) - v))) i) (to).toNatClampNeg) + v))) := ⟨_, hM, xw_held (x := xH1 x i (va_up (xH x i) (fr).toNatClampNeg (((xH x i) (fr).toNatClampNeg) - v))) hi _ hW⟩
  have hg : g_A_move x i fr to v = xH1 (xH1 x i (va_up (xH x i) (fr).toNatClampNeg (((xH x i) (fr).toNatClampNeg) - v))) i (va_up (xH (xH1 x i (va_up (xH x i) (fr).toNatClampNeg (((xH x i) (fr).toNatClampNeg) - v))) i) (to).toNatClampNeg (((xH (xH1 x i (va_up (xH x i) (fr).toNatClampNeg (((xH x i) (fr).toNatClampNeg) - v))) i) (to).toNatClampNeg) + v)) := by rw [g_A_move]
  exact W.vret hx hb hr (fun t ht h9 => kNv.of hM ht (by rw [hg]; exact hW)) hM.2.2.2.2 dA_move_20

theorem dG_add_0 : decode prog_3_method_2_code 0 = .ok (.aload_n 0, 1) := by decide +kernel
theorem dG_add_1 : decode prog_3_method_2_code 1 = .ok (.getfield 25, 3) := by decide +kernel
theorem dG_add_4 : decode prog_3_method_2_code 4 = .ok (.iconst 4, 1) := by decide +kernel
theorem dG_add_5 : decode prog_3_method_2_code 5 = .ok (.if_icmp .lt 5, 3) := by decide +kernel
theorem dG_add_8 : decode prog_3_method_2_code 8 = .ok (.iconst 0, 1) := by decide +kernel
theorem dG_add_9 : decode prog_3_method_2_code 9 = .ok (.ireturn, 1) := by decide +kernel
theorem dG_add_10 : decode prog_3_method_2_code 10 = .ok (.aload_n 0, 1) := by decide +kernel
theorem dG_add_11 : decode prog_3_method_2_code 11 = .ok (.getfield 9, 3) := by decide +kernel
theorem dG_add_14 : decode prog_3_method_2_code 14 = .ok (.aload_n 0, 1) := by decide +kernel
theorem dG_add_15 : decode prog_3_method_2_code 15 = .ok (.getfield 25, 3) := by decide +kernel
theorem dG_add_18 : decode prog_3_method_2_code 18 = .ok (.iload_n 1, 1) := by decide +kernel
theorem dG_add_19 : decode prog_3_method_2_code 19 = .ok (.iastore, 1) := by decide +kernel
theorem dG_add_20 : decode prog_3_method_2_code 20 = .ok (.aload_n 0, 1) := by decide +kernel
theorem dG_add_21 : decode prog_3_method_2_code 21 = .ok (.getfield 15, 3) := by decide +kernel
theorem dG_add_24 : decode prog_3_method_2_code 24 = .ok (.aload_n 0, 1) := by decide +kernel
theorem dG_add_25 : decode prog_3_method_2_code 25 = .ok (.getfield 25, 3) := by decide +kernel
theorem dG_add_28 : decode prog_3_method_2_code 28 = .ok (.iload_n 2, 1) := by decide +kernel
theorem dG_add_29 : decode prog_3_method_2_code 29 = .ok (.iastore, 1) := by decide +kernel
theorem dG_add_30 : decode prog_3_method_2_code 30 = .ok (.aload_n 0, 1) := by decide +kernel
theorem dG_add_31 : decode prog_3_method_2_code 31 = .ok (.getfield 18, 3) := by decide +kernel
theorem dG_add_34 : decode prog_3_method_2_code 34 = .ok (.aload_n 0, 1) := by decide +kernel
theorem dG_add_35 : decode prog_3_method_2_code 35 = .ok (.getfield 25, 3) := by decide +kernel
theorem dG_add_38 : decode prog_3_method_2_code 38 = .ok (.iload_n 3, 1) := by decide +kernel
theorem dG_add_39 : decode prog_3_method_2_code 39 = .ok (.iastore, 1) := by decide +kernel
theorem dG_add_40 : decode prog_3_method_2_code 40 = .ok (.aload_n 0, 1) := by decide +kernel
theorem dG_add_41 : decode prog_3_method_2_code 41 = .ok (.getfield 21, 3) := by decide +kernel
theorem dG_add_44 : decode prog_3_method_2_code 44 = .ok (.aload_n 0, 1) := by decide +kernel
theorem dG_add_45 : decode prog_3_method_2_code 45 = .ok (.getfield 25, 3) := by decide +kernel
theorem dG_add_48 : decode prog_3_method_2_code 48 = .ok (.lload 4, 2) := by decide +kernel
theorem dG_add_50 : decode prog_3_method_2_code 50 = .ok (.lastore, 1) := by decide +kernel
theorem dG_add_51 : decode prog_3_method_2_code 51 = .ok (.aload_n 0, 1) := by decide +kernel
theorem dG_add_52 : decode prog_3_method_2_code 52 = .ok (.dup, 1) := by decide +kernel
theorem dG_add_53 : decode prog_3_method_2_code 53 = .ok (.getfield 25, 3) := by decide +kernel
theorem dG_add_56 : decode prog_3_method_2_code 56 = .ok (.iconst 1, 1) := by decide +kernel
theorem dG_add_57 : decode prog_3_method_2_code 57 = .ok (.iadd, 1) := by decide +kernel
theorem dG_add_58 : decode prog_3_method_2_code 58 = .ok (.putfield 25, 3) := by decide +kernel
theorem dG_add_61 : decode prog_3_method_2_code 61 = .ok (.iconst 1, 1) := by decide +kernel
theorem dG_add_62 : decode prog_3_method_2_code 62 = .ok (.ireturn, 1) := by decide +kernel
def g_G_add (x : XS) (fr : Int32) (to : Int32) (a : Int32) (v : Int64) : Int32 × XS := if (nI (x.1 5)) < 4 then (1, xN (xL (xI (xI (xI x 2 (va_up (x.2.2.2.1 2) (nI (x.1 5)).toNatClampNeg fr)) 3 (va_up (x.2.2.2.1 3) (nI (x.1 5)).toNatClampNeg to)) 4 (va_up (x.2.2.2.1 4) (nI (x.1 5)).toNatClampNeg a)) 3 (va_up (x.2.2.2.2.1 3) (nI (x.1 5)).toNatClampNeg v)) 5 ((x.1 5) + 1)) else (0, x)
set_option maxHeartbeats 4000000 in
set_option maxRecDepth 100000 in
theorem c_G_add (l : Launch) (D : va_G) (cI cL cQ : ClassId) (d : Nat → Nat) (κ0 : Nat → Option va_E) (x : XS) (hX : IsX cI cL cQ d κ0 x) (hB : XB x) (sz : Nat) (fr : Int32) (to : Int32) (a : Int32) (v : Int64)  : Met l yG_add wG_add { frames := 0, cells := 0, slots := 0, locals := 0 } (va_Pc [.ref (d 27), .int (fr), .int (to), .int (a), .long (v)] (kC D vCl (kT cI cL cQ) d κ0 sz)) (kNi D vCl d (kA d κ0 sz) (fun r κ' => r = (g_G_add x fr to a v).1 ∧ XW cI cL cQ κ0 d κ' (g_G_add x fr to a v).2)) 0 0 (kA d κ0 sz) := by
  refine kMet (by decide) (Nat.le_of_ble_eq_true rfl) ?_
  intro p0 e0 s0 m0 below0 meth0 c0 hx hb hr hml hown hlocks hin hts hsz hP hK ls hl
  subst hsz
  have hl : lv_has ls 6 [(0, .ref (d 27)), (1, .int (fr)), (2, .int (to)), (3, .int (a)), (4, .long (v))] := hl
  have hB9 := hB
  obtain ⟨hb0, hb1, hb2, hb3, hb4, hb5, hb6, hb7, hb8⟩ := hB9
  obtain ⟨κ, hM, hW⟩ : ∃ κ', kW D vCl d κ' (kA d κ0 s0.heap.size) s0.heap s0.heap [] ∧ XW cI cL cQ κ0 d κ' x := ⟨κ0, kW.start hP, ⟨hX, fun _ _ => rfl⟩⟩
  refine lv_aload_n hx hb dG_add_0 rfl (lv_at hl 0 rfl) ?_
  refine ka_get (v := .int (nI (x.1 5))) (ci := 1) (C := RG) (T := TG) (N := 5) hx hb hts inG hown hK hM.1 (q := 27) hW.1.2.2.2.2.2.2.2.2.2.1 rfl 4 (by decide) (hts _ tw_86) (fun _ h9 => h9) rfl dG_add_1 ?_
  refine lv_iconst (v := 4) hx hb dG_add_4 (by decide) ?_
  refine lv_icmp_lt (tgt := 10) hx hb dG_add_5 (by decide) (fun c_5 => ?_) (fun c_5 => ?_)
  · have hlt : x.1 5 < 4 := Nat.lt_of_not_le (fun q => nI_nlt (b := 4) q (by omega) c_5)
    refine lv_aload_n hx hb dG_add_10 rfl (lv_at hl 0 rfl) ?_
    refine ka_get (v := .ref (d 28)) (ci := 1) (C := RG) (T := TG) (N := 5) hx hb hts inG hown hK hM.1 (q := 27) hW.1.2.2.2.2.2.2.2.2.2.1 rfl 0 (by decide) (hts _ tw_78) (fun _ h9 => h9) rfl dG_add_11 ?_
    refine lv_aload_n hx hb dG_add_14 rfl (lv_at hl 0 rfl) ?_
    refine ka_get (v := .int (nI (x.1 5))) (ci := 1) (C := RG) (T := TG) (N := 5) hx hb hts inG hown hK hM.1 (q := 27) hW.1.2.2.2.2.2.2.2.2.2.1 rfl 4 (by decide) (hts _ tw_86) (fun _ h9 => h9) rfl dG_add_15 ?_
    refine lv_iload_n hx hb dG_add_18 rfl (lv_at hl 1 rfl) ?_
    refine ka_iast (f := x.2.2.2.1 2) hx hb hK hM 0 (q := 28) hW.1.2.2.2.2.2.2.2.2.2.2.1 rfl (i := nI (x.1 5)) (x := fr) (by first | assumption | exact vp_in_nI (by omega) (by omega)) dG_add_19 (fun H locs hM => ?_)
    obtain ⟨κ, hM, hW⟩ : ∃ κ', kW D vCl d κ' (kA d κ0 s0.heap.size) s0.heap H locs ∧ XW cI cL cQ κ0 d κ' (xI x 2 (va_up (x.2.2.2.1 2) (nI (x.1 5)).toNatClampNeg fr)) := ⟨_, hM, xw_i2 _ hW⟩
    refine lv_aload_n hx hb dG_add_20 rfl (lv_at hl 0 rfl) ?_
    refine ka_get (v := .ref (d 29)) (ci := 1) (C := RG) (T := TG) (N := 5) hx hb hts inG hown hK hM.1 (q := 27) hW.1.2.2.2.2.2.2.2.2.2.1 rfl 1 (by decide) (hts _ tw_80) (fun _ h9 => h9) rfl dG_add_21 ?_
    refine lv_aload_n hx hb dG_add_24 rfl (lv_at hl 0 rfl) ?_
    refine ka_get (v := .int (nI (x.1 5))) (ci := 1) (C := RG) (T := TG) (N := 5) hx hb hts inG hown hK hM.1 (q := 27) hW.1.2.2.2.2.2.2.2.2.2.1 rfl 4 (by decide) (hts _ tw_86) (fun _ h9 => h9) rfl dG_add_25 ?_
    refine lv_iload_n hx hb dG_add_28 rfl (lv_at hl 2 rfl) ?_
    refine ka_iast (f := x.2.2.2.1 3) hx hb hK hM 0 (q := 29) hW.1.2.2.2.2.2.2.2.2.2.2.2.1 rfl (i := nI (x.1 5)) (x := to) (by first | assumption | exact vp_in_nI (by omega) (by omega)) dG_add_29 (fun H locs hM => ?_)
    obtain ⟨κ, hM, hW⟩ : ∃ κ', kW D vCl d κ' (kA d κ0 s0.heap.size) s0.heap H locs ∧ XW cI cL cQ κ0 d κ' (xI (xI x 2 (va_up (x.2.2.2.1 2) (nI (x.1 5)).toNatClampNeg fr)) 3 (va_up (x.2.2.2.1 3) (nI (x.1 5)).toNatClampNeg to)) := ⟨_, hM, xw_i3 _ hW⟩
    refine lv_aload_n hx hb dG_add_30 rfl (lv_at hl 0 rfl) ?_
    refine ka_get (v := .ref (d 30)) (ci := 1) (C := RG) (T := TG) (N := 5) hx hb hts inG hown hK hM.1 (q := 27) hW.1.2.2.2.2.2.2.2.2.2.1 rfl 2 (by decide) (hts _ tw_82) (fun _ h9 => h9) rfl dG_add_31 ?_
    refine lv_aload_n hx hb dG_add_34 rfl (lv_at hl 0 rfl) ?_
    refine ka_get (v := .int (nI (x.1 5))) (ci := 1) (C := RG) (T := TG) (N := 5) hx hb hts inG hown hK hM.1 (q := 27) hW.1.2.2.2.2.2.2.2.2.2.1 rfl 4 (by decide) (hts _ tw_86) (fun _ h9 => h9) rfl dG_add_35 ?_
    refine lv_iload_n hx hb dG_add_38 rfl (lv_at hl 3 rfl) ?_
    refine ka_iast (f := x.2.2.2.1 4) hx hb hK hM 0 (q := 30) hW.1.2.2.2.2.2.2.2.2.2.2.2.2.1 rfl (i := nI (x.1 5)) (x := a) (by first | assumption | exact vp_in_nI (by omega) (by omega)) dG_add_39 (fun H locs hM => ?_)
    obtain ⟨κ, hM, hW⟩ : ∃ κ', kW D vCl d κ' (kA d κ0 s0.heap.size) s0.heap H locs ∧ XW cI cL cQ κ0 d κ' (xI (xI (xI x 2 (va_up (x.2.2.2.1 2) (nI (x.1 5)).toNatClampNeg fr)) 3 (va_up (x.2.2.2.1 3) (nI (x.1 5)).toNatClampNeg to)) 4 (va_up (x.2.2.2.1 4) (nI (x.1 5)).toNatClampNeg a)) := ⟨_, hM, xw_i4 _ hW⟩
    refine lv_aload_n hx hb dG_add_40 rfl (lv_at hl 0 rfl) ?_
    refine ka_get (v := .ref (d 31)) (ci := 1) (C := RG) (T := TG) (N := 5) hx hb hts inG hown hK hM.1 (q := 27) hW.1.2.2.2.2.2.2.2.2.2.1 rfl 3 (by decide) (hts _ tw_84) (fun _ h9 => h9) rfl dG_add_41 ?_
    refine lv_aload_n hx hb dG_add_44 rfl (lv_at hl 0 rfl) ?_
    refine ka_get (v := .int (nI (x.1 5))) (ci := 1) (C := RG) (T := TG) (N := 5) hx hb hts inG hown hK hM.1 (q := 27) hW.1.2.2.2.2.2.2.2.2.2.1 rfl 4 (by decide) (hts _ tw_86) (fun _ h9 => h9) rfl dG_add_45 ?_
    refine lv_lload hx hb dG_add_48 (lv_at hl 4 rfl) ?_
    refine ka_last (f := x.2.2.2.2.1 3) hx hb hK hM 1 (q := 31) hW.1.2.2.2.2.2.2.2.2.2.2.2.2.2.1 rfl (i := nI (x.1 5)) (x := v) (by first | assumption | exact vp_in_nI (by omega) (by omega)) dG_add_50 (fun H locs hM => ?_)
    obtain ⟨κ, hM, hW⟩ : ∃ κ', kW D vCl d κ' (kA d κ0 s0.heap.size) s0.heap H locs ∧ XW cI cL cQ κ0 d κ' (xL (xI (xI (xI x 2 (va_up (x.2.2.2.1 2) (nI (x.1 5)).toNatClampNeg fr)) 3 (va_up (x.2.2.2.1 3) (nI (x.1 5)).toNatClampNeg to)) 4 (va_up (x.2.2.2.1 4) (nI (x.1 5)).toNatClampNeg a)) 3 (va_up (x.2.2.2.2.1 3) (nI (x.1 5)).toNatClampNeg v)) := ⟨_, hM, xw_l3 _ hW⟩
    refine lv_aload_n hx hb dG_add_51 rfl (lv_at hl 0 rfl) ?_
    refine lv_dup hx hb dG_add_52 rfl ?_
    refine ka_get (v := .int (nI (x.1 5))) (ci := 1) (C := RG) (T := TG) (N := 5) hx hb hts inG hown hK hM.1 (q := 27) hW.1.2.2.2.2.2.2.2.2.2.1 rfl 4 (by decide) (hts _ tw_86) (fun _ h9 => h9) rfl dG_add_53 ?_
    refine lv_iconst (v := 1) hx hb dG_add_56 (by decide) ?_
    refine lv_iadd hx hb dG_add_57 ?_
    refine k_topi (show nI (x.1 5) + 1 = nI ((x.1 5) + 1) from nI_add _ _) ?_
    refine ka_put (D := D) (ci := 1) (v := .int (nI ((x.1 5) + 1))) (ty := .int) (C := RG) (T := TG) (N := 5) hx hb hts inG tG tG_ok nG hown hK hM (q := 27) hW.1.2.2.2.2.2.2.2.2.2.1 rfl 4 (by decide) (hts _ tw_86) (fun _ h9 => h9) rfl (by decide +kernel) rfl rfl (Nat.le_of_ble_eq_true rfl) dG_add_58 (fun H locs hM => ?_)
    obtain ⟨κ, hM, hW⟩ : ∃ κ', kW D vCl d κ' (kA d κ0 s0.heap.size) s0.heap H locs ∧ XW cI cL cQ κ0 d κ' (xN (xL (xI (xI (xI x 2 (va_up (x.2.2.2.1 2) (nI (x.1 5)).toNatClampNeg fr)) 3 (va_up (x.2.2.2.1 3) (nI (x.1 5)).toNatClampNeg to)) 4 (va_up (x.2.2.2.1 4) (nI (x.1 5)).toNatClampNeg a)) 3 (va_up (x.2.2.2.2.1 3) (nI (x.1 5)).toNatClampNeg v)) 5 ((x.1 5) + 1)) := ⟨_, hM, xw_n5 ((x.1 5) + 1) hW⟩
    refine lv_iconst (v := 1) hx hb dG_add_61 (by decide) ?_
    have hg : g_G_add x fr to a v = (1, xN (xL (xI (xI (xI x 2 (va_up (x.2.2.2.1 2) (nI (x.1 5)).toNatClampNeg fr)) 3 (va_up (x.2.2.2.1 3) (nI (x.1 5)).toNatClampNeg to)) 4 (va_up (x.2.2.2.1 4) (nI (x.1 5)).toNatClampNeg a)) 3 (va_up (x.2.2.2.2.1 3) (nI (x.1 5)).toNatClampNeg v)) 5 ((x.1 5) + 1)) := by rw [g_G_add, if_pos c_5]
    exact W.zret (v := 1) hx hb hr k_nar1 (fun t ht h9 => kNi.of hM ht (by rw [hg]; exact ⟨rfl, hW⟩)) hM.2.2.2.2 dG_add_62
  · refine lv_iconst (v := 0) hx hb dG_add_8 (by decide) ?_
    have hg : g_G_add x fr to a v = (0, x) := by rw [g_G_add, if_neg c_5]
    exact W.zret (v := 0) hx hb hr k_nar0 (fun t ht h9 => kNi.of hM ht (by rw [hg]; exact ⟨rfl, hW⟩)) hM.2.2.2.2 dG_add_9

theorem dX_drop_0 : decode prog_1_method_15_code 0 = .ok (.aload_n 0, 1) := by decide +kernel
theorem dX_drop_1 : decode prog_1_method_15_code 1 = .ok (.getfield 51, 3) := by decide +kernel
theorem dX_drop_4 : decode prog_1_method_15_code 4 = .ok (.getfield 138, 3) := by decide +kernel
theorem dX_drop_7 : decode prog_1_method_15_code 7 = .ok (.istore_n 1, 1) := by decide +kernel
theorem dX_drop_8 : decode prog_1_method_15_code 8 = .ok (.aload_n 0, 1) := by decide +kernel
theorem dX_drop_9 : decode prog_1_method_15_code 9 = .ok (.getfield 51, 3) := by decide +kernel
theorem dX_drop_12 : decode prog_1_method_15_code 12 = .ok (.iconst 0, 1) := by decide +kernel
theorem dX_drop_13 : decode prog_1_method_15_code 13 = .ok (.putfield 138, 3) := by decide +kernel
theorem dX_drop_16 : decode prog_1_method_15_code 16 = .ok (.iload_n 1, 1) := by decide +kernel
theorem dX_drop_17 : decode prog_1_method_15_code 17 = .ok (.ireturn, 1) := by decide +kernel
def g_X_drop (x : XS) : Int32 × XS := (nI (x.1 5), xN x 5 0)
set_option maxHeartbeats 4000000 in
set_option maxRecDepth 100000 in
theorem c_X_drop (l : Launch) (D : va_G) (cI cL cQ : ClassId) (d : Nat → Nat) (κ0 : Nat → Option va_E) (x : XS) (hX : IsX cI cL cQ d κ0 x) (hB : XB x) (sz : Nat)   : Met l yX_drop wX_drop { frames := 0, cells := 0, slots := 0, locals := 0 } (va_Pc [.ref (d 18)] (kC D vCl (kT cI cL cQ) d κ0 sz)) (kNi D vCl d (kA d κ0 sz) (fun r κ' => r = (g_X_drop x).1 ∧ XW cI cL cQ κ0 d κ' (g_X_drop x).2)) 0 0 (kA d κ0 sz) := by
  refine kMet (by decide) (Nat.le_of_ble_eq_true rfl) ?_
  intro p0 e0 s0 m0 below0 meth0 c0 hx hb hr hml hown hlocks hin hts hsz hP hK ls hl
  subst hsz
  have hl : lv_has ls 2 [(0, .ref (d 18))] := hl
  have hB9 := hB
  obtain ⟨hb0, hb1, hb2, hb3, hb4, hb5, hb6, hb7, hb8⟩ := hB9
  obtain ⟨κ, hM, hW⟩ : ∃ κ', kW D vCl d κ' (kA d κ0 s0.heap.size) s0.heap s0.heap [] ∧ XW cI cL cQ κ0 d κ' x := ⟨κ0, kW.start hP, ⟨hX, fun _ _ => rfl⟩⟩
  refine lv_aload_n hx hb dX_drop_0 rfl (lv_at hl 0 rfl) ?_
  refine ka_get (v := .ref (d 27)) (ci := 3) (C := RX) (T := TX) (N := 10) hx hb hts inX hown hK hM.1 (q := 18) hW.1.1 rfl 9 (by decide) (hts _ tw_108) (fun _ h9 => h9) rfl dX_drop_1 ?_
  refine ka_get (v := .int (nI (x.1 5))) (ci := 1) (C := RG) (T := TG) (N := 5) hx hb hts inG hown hK hM.1 (q := 27) hW.1.2.2.2.2.2.2.2.2.2.1 rfl 4 (by decide) (hts _ tw_87) (fun _ h9 => h9) rfl dX_drop_4 ?_
  refine lv_istore_n (lv' := [(1, .int (nI (x.1 5))), (0, .ref (d 18))]) hx hb dX_drop_7 rfl hl (by decide) rfl (fun ls hl => ?_)
  refine lv_aload_n hx hb dX_drop_8 rfl (lv_at hl 1 rfl) ?_
  refine ka_get (v := .ref (d 27)) (ci := 3) (C := RX) (T := TX) (N := 10) hx hb hts inX hown hK hM.1 (q := 18) hW.1.1 rfl 9 (by decide) (hts _ tw_108) (fun _ h9 => h9) rfl dX_drop_9 ?_
  refine lv_iconst (v := 0) hx hb dX_drop_12 (by decide) ?_
  refine ka_put (D := D) (ci := 1) (v := .int (0)) (ty := .int) (C := RG) (T := TG) (N := 5) hx hb hts inG tG tG_ok nG hown hK hM (q := 27) hW.1.2.2.2.2.2.2.2.2.2.1 rfl 4 (by decide) (hts _ tw_87) (fun _ h9 => h9) rfl (by decide +kernel) rfl rfl (Nat.le_of_ble_eq_true rfl) dX_drop_13 (fun H locs hM => ?_)
  obtain ⟨κ, hM, hW⟩ : ∃ κ', kW D vCl d κ' (kA d κ0 s0.heap.size) s0.heap H locs ∧ XW cI cL cQ κ0 d κ' (xN x 5 0) := ⟨_, hM, xw_n5 0 hW⟩
  refine lv_iload_n hx hb dX_drop_16 rfl (lv_at hl 0 rfl) ?_
  have hg : g_X_drop x = (nI (x.1 5), xN x 5 0) := by rw [g_X_drop]
  exact W.iret (v := nI (x.1 5)) hx hb hr (fun t ht h9 => kNi.of hM ht (by rw [hg]; exact ⟨rfl, hW⟩)) hM.2.2.2.2 dX_drop_17

theorem dX_day_0 : decode prog_1_method_11_code 0 = .ok (.aload_n 0, 1) := by decide +kernel
theorem dX_day_1 : decode prog_1_method_11_code 1 = .ok (.getfield 45, 3) := by decide +kernel
theorem dX_day_4 : decode prog_1_method_11_code 4 = .ok (.invokevirtual 131, 3) := by decide +kernel
theorem dX_day_7 : decode prog_1_method_11_code 7 = .ok (.return_, 1) := by decide +kernel
def g_X_day (x : XS) : XS := xPS24 x (g_P_clear 512 (x.1 4) (x.2.2.2.1 1) (x.2.2.2.2.1 2) )
set_option maxHeartbeats 4000000 in
set_option maxRecDepth 100000 in
theorem c_X_day (l : Launch) (D : va_G) (cI cL cQ : ClassId) (d : Nat → Nat) (κ0 : Nat → Option va_E) (x : XS) (hX : IsX cI cL cQ d κ0 x) (hB : XB x) (sz : Nat)   : Met l yX_day wX_day { frames := 1, cells := 0, slots := 0, locals := 20 } (va_Pc [.ref (d 18)] (kC D vCl (kT cI cL cQ) d κ0 sz)) (kNv D vCl d (kA d κ0 sz) (fun κ' => XW cI cL cQ κ0 d κ' (g_X_day x))) 0 0 (kA d κ0 sz) := by
  refine kMet (by decide) (Nat.le_of_ble_eq_true rfl) ?_
  intro p0 e0 s0 m0 below0 meth0 c0 hx hb hr hml hown hlocks hin hts hsz hP hK ls hl
  subst hsz
  have hl : lv_has ls 1 [(0, .ref (d 18))] := hl
  have hB9 := hB
  obtain ⟨hb0, hb1, hb2, hb3, hb4, hb5, hb6, hb7, hb8⟩ := hB9
  obtain ⟨κ, hM, hW⟩ : ∃ κ', kW D vCl d κ' (kA d κ0 s0.heap.size) s0.heap s0.heap [] ∧ XW cI cL cQ κ0 d κ' x := ⟨κ0, kW.start hP, ⟨hX, fun _ _ => rfl⟩⟩
  refine lv_aload_n hx hb dX_day_0 rfl (lv_at hl 0 rfl) ?_
  refine ka_get (v := .ref (d 24)) (ci := 3) (C := RX) (T := TX) (N := 10) hx hb hts inX hown hK hM.1 (q := 18) hW.1.1 rfl 8 (by decide) (hts _ tw_107) (fun _ h9 => h9) rfl dX_day_1 ?_
  refine ka_ncallv (W.runV (C := RP) (As := []) (rest := []) ⟨hx, hb, hml, hown, hts⟩ (c_P_clear l D cI cL cQ d κ 24 512 (x.1 4) (x.2.2.2.1 1) (x.2.2.2.2.1 2) ⟨hW.1.2.2.2.2.2.2.1, hW.1.2.2.2.2.2.2.2.1, hW.1.2.2.2.2.2.2.2.2.1⟩ (by omega) (by decide) _ ) (cwV 0 hts (k_gV tw_285 tw_286 tw_287 tw_39 tw_288) rfl rfl rfl (by decide +kernel) ⟨Nat.le_of_ble_eq_true rfl, Nat.le_of_ble_eq_true rfl⟩) (kPreV hM.1 hK (q := 24) hW.1.2.2.2.2.2.2.1 rfl) rfl rfl hl.1 rfl (lv_room (Nat.le_of_ble_eq_true rfl)) dX_day_4 ⟨Nat.le_of_ble_eq_true rfl, Nat.le_of_ble_eq_true rfl⟩) hM (fun _ h9 => Or.inr h9) (fun κ1 H locs hW1 hM => ?_)
  obtain ⟨κ, hM, hW⟩ : ∃ κ', kW D vCl d κ' (kA d κ0 s0.heap.size) s0.heap H locs ∧ XW cI cL cQ κ0 d κ' (xPS24 x (g_P_clear 512 (x.1 4) (x.2.2.2.1 1) (x.2.2.2.2.1 2) )) := ⟨κ1, hM, hW.ofP24 hW1⟩
  have hg : g_X_day x = xPS24 x (g_P_clear 512 (x.1 4) (x.2.2.2.1 1) (x.2.2.2.2.1 2) ) := by rw [g_X_day]
  exact W.vret hx hb hr (fun t ht h9 => kNv.of hM ht (by rw [hg]; exact hW)) hM.2.2.2.2 dX_day_7

theorem dX_give_0 : decode prog_1_method_5_code 0 = .ok (.aload_n 0, 1) := by decide +kernel
theorem dX_give_1 : decode prog_1_method_5_code 1 = .ok (.iload_n 2, 1) := by decide +kernel
theorem dX_give_2 : decode prog_1_method_5_code 2 = .ok (.invokevirtual 79, 3) := by decide +kernel
theorem dX_give_5 : decode prog_1_method_5_code 5 = .ok (.astore 5, 2) := by decide +kernel
theorem dX_give_7 : decode prog_1_method_5_code 7 = .ok (.aload_n 0, 1) := by decide +kernel
theorem dX_give_8 : decode prog_1_method_5_code 8 = .ok (.iload_n 1, 1) := by decide +kernel
theorem dX_give_9 : decode prog_1_method_5_code 9 = .ok (.invokevirtual 82, 3) := by decide +kernel
theorem dX_give_12 : decode prog_1_method_5_code 12 = .ok (.ifCond .eq 15, 3) := by decide +kernel
theorem dX_give_15 : decode prog_1_method_5_code 15 = .ok (.aload 5, 2) := by decide +kernel
theorem dX_give_17 : decode prog_1_method_5_code 17 = .ok (.ifnull 10, 3) := by decide +kernel
theorem dX_give_20 : decode prog_1_method_5_code 20 = .ok (.lload_n 3, 1) := by decide +kernel
theorem dX_give_21 : decode prog_1_method_5_code 21 = .ok (.invokestatic 86, 3) := by decide +kernel
theorem dX_give_24 : decode prog_1_method_5_code 24 = .ok (.ifCond .ne 6, 3) := by decide +kernel
theorem dX_give_27 : decode prog_1_method_5_code 27 = .ok (.bipush 8, 2) := by decide +kernel
theorem dX_give_29 : decode prog_1_method_5_code 29 = .ok (.ireturn, 1) := by decide +kernel
theorem dX_give_30 : decode prog_1_method_5_code 30 = .ok (.aload 5, 2) := by decide +kernel
theorem dX_give_32 : decode prog_1_method_5_code 32 = .ok (.getfield 90, 3) := by decide +kernel
theorem dX_give_35 : decode prog_1_method_5_code 35 = .ok (.iconst 0, 1) := by decide +kernel
theorem dX_give_36 : decode prog_1_method_5_code 36 = .ok (.laload, 1) := by decide +kernel
theorem dX_give_37 : decode prog_1_method_5_code 37 = .ok (.lload_n 3, 1) := by decide +kernel
theorem dX_give_38 : decode prog_1_method_5_code 38 = .ok (.lsub, 1) := by decide +kernel
theorem dX_give_39 : decode prog_1_method_5_code 39 = .ok (.ldc2_w 93, 3) := by decide +kernel
theorem dX_give_42 : decode prog_1_method_5_code 42 = .ok (.lcmp, 1) := by decide +kernel
theorem dX_give_43 : decode prog_1_method_5_code 43 = .ok (.ifCond .ge 6, 3) := by decide +kernel
theorem dX_give_46 : decode prog_1_method_5_code 46 = .ok (.bipush 10, 2) := by decide +kernel
theorem dX_give_48 : decode prog_1_method_5_code 48 = .ok (.ireturn, 1) := by decide +kernel
theorem dX_give_49 : decode prog_1_method_5_code 49 = .ok (.aload 5, 2) := by decide +kernel
theorem dX_give_51 : decode prog_1_method_5_code 51 = .ok (.iconst 0, 1) := by decide +kernel
theorem dX_give_52 : decode prog_1_method_5_code 52 = .ok (.iload_n 1, 1) := by decide +kernel
theorem dX_give_53 : decode prog_1_method_5_code 53 = .ok (.lload_n 3, 1) := by decide +kernel
theorem dX_give_54 : decode prog_1_method_5_code 54 = .ok (.invokevirtual 95, 3) := by decide +kernel
theorem dX_give_57 : decode prog_1_method_5_code 57 = .ok (.iconst 0, 1) := by decide +kernel
theorem dX_give_58 : decode prog_1_method_5_code 58 = .ok (.ireturn, 1) := by decide +kernel
def g_X_give (x : XS) (p : Int32) (a : Int32) (v : Int64) : Int32 × XS := if xIs x a then (if (f_X_isClient x p) = 0 then (8, x) else (if (f_X_isAmount v) = 0 then (8, x) else (if (((xH x ((a).toNatClampNeg)) (0 : Int32).toNatClampNeg) - v) < (-4000000000000000000) then (10, x) else (0, g_A_move x ((a).toNatClampNeg) 0 p v)))) else (if (f_X_isClient x p) = 0 then (8, x) else (8, x))
set_option maxHeartbeats 4000000 in
set_option maxRecDepth 100000 in
theorem c_X_give (l : Launch) (D : va_G) (cI cL cQ : ClassId) (d : Nat → Nat) (κ0 : Nat → Option va_E) (x : XS) (hX : IsX cI cL cQ d κ0 x) (hB : XB x) (sz : Nat) (p : Int32) (a : Int32) (v : Int64)  : Met l yX_give wX_give { frames := 1, cells := 0, slots := 0, locals := 24 } (va_Pc [.ref (d 18), .int (p), .int (a), .long (v)] (kC D vCl (kT cI cL cQ) d κ0 sz)) (kNi D vCl d (kA d κ0 sz) (fun r κ' => r = (g_X_give x p a v).1 ∧ XW cI cL cQ κ0 d κ' (g_X_give x p a v).2)) 0 0 (kA d κ0 sz) := by
  refine kMet (by decide) (Nat.le_of_ble_eq_true rfl) ?_
  intro p0 e0 s0 m0 below0 meth0 c0 hx hb hr hml hown hlocks hin hts hsz hP hK ls hl
  subst hsz
  have hl : lv_has ls 6 [(0, .ref (d 18)), (1, .int (p)), (2, .int (a)), (3, .long (v))] := hl
  have hB9 := hB
  obtain ⟨hb0, hb1, hb2, hb3, hb4, hb5, hb6, hb7, hb8⟩ := hB9
  obtain ⟨κ, hM, hW⟩ : ∃ κ', kW D vCl d κ' (kA d κ0 s0.heap.size) s0.heap s0.heap [] ∧ XW cI cL cQ κ0 d κ' x := ⟨κ0, kW.start hP, ⟨hX, fun _ _ => rfl⟩⟩
  refine lv_aload_n hx hb dX_give_0 rfl (lv_at hl 0 rfl) ?_
  refine lv_iload_n hx hb dX_give_1 rfl (lv_at hl 2 rfl) ?_
  refine va_csq (W.runV (C := RX) (As := [.int (a)]) (rest := []) ⟨hx, hb, hml, hown, hts⟩ (c_X_assetAt l D cI cL cQ d κ x hW.1 hB _ a) (cwV 1 hts (k_gV tw_179 tw_181 tw_2 tw_38 tw_182) rfl rfl rfl (by decide +kernel) ⟨Nat.le_of_ble_eq_true rfl, Nat.le_of_ble_eq_true rfl⟩) (kPreV hM.1 hK (q := 18) hW.1.1 rfl) rfl rfl hl.1 rfl (lv_room (Nat.le_of_ble_eq_true rfl)) dX_give_2 ⟨Nat.le_of_ble_eq_true rfl, Nat.le_of_ble_eq_true rfl⟩) (fun r_2 e_2 => ?_)
  subst e_2
  by_cases hA_2 : xIs x a
  · rw [if_pos hA_2]
    have hi_2 : (a).toNatClampNeg < x.1 2 := (xIs_in hB hA_2).2
    refine lv_astore (lv' := [(5, .ref (d (32 + 3 * (a).toNatClampNeg))), (0, .ref (d 18)), (1, .int (p)), (2, .int (a)), (3, .long (v))]) hx hb dX_give_5 hl (by decide) rfl (fun ls hl => ?_)
    refine lv_aload_n hx hb dX_give_7 rfl (lv_at hl 1 rfl) ?_
    refine lv_iload_n hx hb dX_give_8 rfl (lv_at hl 2 rfl) ?_
    refine vp_callSi (W.runV (C := RX) (As := [.int (p)]) (rest := []) ⟨hx, hb, hml, hown, hts⟩ (c_X_isClient l D cI cL cQ d κ x hW.1 hB _ p) (cwV 1 hts (k_gV tw_212 tw_214 tw_7 tw_38 tw_215) rfl rfl rfl (by decide +kernel) ⟨Nat.le_of_ble_eq_true rfl, Nat.le_of_ble_eq_true rfl⟩) (kPreV hM.1 hK (q := 18) hW.1.1 rfl) rfl rfl hl.1 rfl (lv_room (Nat.le_of_ble_eq_true rfl)) dX_give_9 ⟨Nat.le_of_ble_eq_true rfl, Nat.le_of_ble_eq_true rfl⟩) (fun r_9 e_9 => ?_)
    subst e_9
    refine lv_if_eq (tgt := 27) hx hb dX_give_12 (by decide) (fun c_12 => ?_) (fun c_12 => ?_)
    · refine lv_bipush (v := 8) hx hb dX_give_27 (by decide) ?_
      have hg : g_X_give x p a v = (8, x) := by rw [g_X_give, if_pos hA_2, if_pos c_12]
      exact W.iret (v := 8) hx hb hr (fun t ht h9 => kNi.of hM ht (by rw [hg]; exact ⟨rfl, hW⟩)) hM.2.2.2.2 dX_give_29
    · refine lv_aload hx hb dX_give_15 (lv_at hl 0 rfl) ?_
      refine lv_ifnull hx hb dX_give_17 ?_
      refine lv_lload_n hx hb dX_give_20 rfl (lv_at hl 4 rfl) ?_
      refine vp_callSi (W.runS (As := [.long (v)]) (rest := []) ⟨hx, hb, hml, hown, hts⟩ (c_X_isAmount l D cI cL cQ d κ _ v) (cwS 1 hts (k_gS tw_216 tw_217 tw_38 tw_218) rfl rfl rfl (by decide +kernel) ⟨Nat.le_of_ble_eq_true rfl, Nat.le_of_ble_eq_true rfl⟩) (kPreS hM.1 hK) rfl rfl hl.1 rfl (lv_room (Nat.le_of_ble_eq_true rfl)) dX_give_21 ⟨Nat.le_of_ble_eq_true rfl, Nat.le_of_ble_eq_true rfl⟩) (fun r_21 e_21 => ?_)
      subst e_21
      refine lv_if_ne (tgt := 30) hx hb dX_give_24 (by decide) (fun c_24 => ?_) (fun c_24 => ?_)
      · refine lv_aload hx hb dX_give_30 (lv_at hl 0 rfl) ?_
        refine ka_get (v := .ref (d (33 + 3 * (a).toNatClampNeg))) (ci := 0) (C := RA) (T := TA) (N := 4) hx hb hts inA hown hK hM.1 (q := (32 + 3 * (a).toNatClampNeg)) (hW.1.2.2.2.2.2.2.2.2.2.2.2.2.2.2.1 ((a).toNatClampNeg) hi_2).1 rfl 1 (by decide) (hts _ tw_146) (fun _ h9 => h9) rfl dX_give_32 ?_
        refine lv_iconst (v := 0) hx hb dX_give_35 (by decide) ?_
        refine ka_lald (f := xH x ((a).toNatClampNeg)) hx hb hK hM.1 1 (q := (33 + 3 * (a).toNatClampNeg)) (hW.1.2.2.2.2.2.2.2.2.2.2.2.2.2.2.1 ((a).toNatClampNeg) hi_2).2.1 rfl (show vp_in (nI 0) (x.1 0) from vp_in_nI (by omega) (by omega)) dX_give_36 ?_
        refine lv_lload_n hx hb dX_give_37 rfl (lv_at hl 4 rfl) ?_
        refine lv_lsub hx hb dX_give_38 ?_
        refine lv_ldc2 (v := -4000000000000000000) hx hb hown (hts _ tw_219) dX_give_39 ?_
        refine kl_ge (tgt := 49) hx hb dX_give_42 dX_give_43 (by decide) (fun c_42 => ?_) (fun c_42 => ?_)
        · refine lv_aload hx hb dX_give_49 (lv_at hl 0 rfl) ?_
          refine lv_iconst (v := 0) hx hb dX_give_51 (by decide) ?_
          refine lv_iload_n hx hb dX_give_52 rfl (lv_at hl 2 rfl) ?_
          refine lv_lload_n hx hb dX_give_53 rfl (lv_at hl 4 rfl) ?_
          refine ka_ncallv (W.runV (C := RA) (As := [.int (0), .int (p), .long (v)]) (rest := []) ⟨hx, hb, hml, hown, hts⟩ (c_A_move l D cI cL cQ d κ x hW.1 hB _ ((a).toNatClampNeg) hi_2 0 p v (show vp_in (nI 0) (x.1 0) from vp_in_nI (by omega) (by omega)) (client_in hB (by assumption))) (cwV 3 hts (k_gV tw_220 tw_221 tw_222 tw_42 tw_223) rfl rfl rfl (by decide +kernel) ⟨Nat.le_of_ble_eq_true rfl, Nat.le_of_ble_eq_true rfl⟩) (kPreV hM.1 hK (q := (32 + 3 * (a).toNatClampNeg)) (hW.1.2.2.2.2.2.2.2.2.2.2.2.2.2.2.1 ((a).toNatClampNeg) hi_2).1 rfl) rfl rfl hl.1 rfl (lv_room (Nat.le_of_ble_eq_true rfl)) dX_give_54 ⟨Nat.le_of_ble_eq_true rfl, Nat.le_of_ble_eq_true rfl⟩) hM (fun _ h9 => Or.inr h9) (fun κ1 H locs hW1 hM => ?_)
          obtain ⟨κ, hM, hW⟩ : ∃ κ', kW D vCl d κ' (kA d κ0 s0.heap.size) s0.heap H locs ∧ XW cI cL cQ κ0 d κ' (g_A_move x ((a).toNatClampNeg) 0 p v) := ⟨κ1, hM, hW.trans hW1⟩
          refine lv_iconst (v := 0) hx hb dX_give_57 (by decide) ?_
          have hg : g_X_give x p a v = (0, g_A_move x ((a).toNatClampNeg) 0 p v) := by rw [g_X_give, if_pos hA_2, if_neg c_12, if_neg c_24, if_neg c_42]
          exact W.iret (v := 0) hx hb hr (fun t ht h9 => kNi.of hM ht (by rw [hg]; exact ⟨rfl, hW⟩)) hM.2.2.2.2 dX_give_58
        · refine lv_bipush (v := 10) hx hb dX_give_46 (by decide) ?_
          have hg : g_X_give x p a v = (10, x) := by rw [g_X_give, if_pos hA_2, if_neg c_12, if_neg c_24, if_pos c_42]
          exact W.iret (v := 10) hx hb hr (fun t ht h9 => kNi.of hM ht (by rw [hg]; exact ⟨rfl, hW⟩)) hM.2.2.2.2 dX_give_48
      · refine lv_bipush (v := 8) hx hb dX_give_27 (by decide) ?_
        have hg : g_X_give x p a v = (8, x) := by rw [g_X_give, if_pos hA_2, if_neg c_12, if_pos c_24]
        exact W.iret (v := 8) hx hb hr (fun t ht h9 => kNi.of hM ht (by rw [hg]; exact ⟨rfl, hW⟩)) hM.2.2.2.2 dX_give_29
  · rw [if_neg hA_2]
    refine lv_astoreN (lv' := [(5, .null), (0, .ref (d 18)), (1, .int (p)), (2, .int (a)), (3, .long (v))]) hx hb dX_give_5 hl (by decide) rfl (fun ls hl => ?_)
    refine lv_aload_n hx hb dX_give_7 rfl (lv_at hl 1 rfl) ?_
    refine lv_iload_n hx hb dX_give_8 rfl (lv_at hl 2 rfl) ?_
    refine vp_callSi (W.runV (C := RX) (As := [.int (p)]) (rest := []) ⟨hx, hb, hml, hown, hts⟩ (c_X_isClient l D cI cL cQ d κ x hW.1 hB _ p) (cwV 1 hts (k_gV tw_212 tw_214 tw_7 tw_38 tw_215) rfl rfl rfl (by decide +kernel) ⟨Nat.le_of_ble_eq_true rfl, Nat.le_of_ble_eq_true rfl⟩) (kPreV hM.1 hK (q := 18) hW.1.1 rfl) rfl rfl hl.1 rfl (lv_room (Nat.le_of_ble_eq_true rfl)) dX_give_9 ⟨Nat.le_of_ble_eq_true rfl, Nat.le_of_ble_eq_true rfl⟩) (fun r_9 e_9 => ?_)
    subst e_9
    refine lv_if_eq (tgt := 27) hx hb dX_give_12 (by decide) (fun c_12 => ?_) (fun c_12 => ?_)
    · refine lv_bipush (v := 8) hx hb dX_give_27 (by decide) ?_
      have hg : g_X_give x p a v = (8, x) := by rw [g_X_give, if_neg hA_2, if_pos c_12]
      exact W.iret (v := 8) hx hb hr (fun t ht h9 => kNi.of hM ht (by rw [hg]; exact ⟨rfl, hW⟩)) hM.2.2.2.2 dX_give_29
    · refine lv_aloadN hx hb dX_give_15 (lv_at hl 0 rfl) ?_
      refine lv_ifnullN (tgt := 27) hx hb dX_give_17 (by decide) ?_
      refine lv_bipush (v := 8) hx hb dX_give_27 (by decide) ?_
      have hg : g_X_give x p a v = (8, x) := by rw [g_X_give, if_neg hA_2, if_neg c_12]
      exact W.iret (v := 8) hx hb hr (fun t ht h9 => kNi.of hM ht (by rw [hg]; exact ⟨rfl, hW⟩)) hM.2.2.2.2 dX_give_29

theorem dX_back_0 : decode prog_1_method_6_code 0 = .ok (.aload_n 0, 1) := by decide +kernel
theorem dX_back_1 : decode prog_1_method_6_code 1 = .ok (.iload_n 2, 1) := by decide +kernel
theorem dX_back_2 : decode prog_1_method_6_code 2 = .ok (.invokevirtual 79, 3) := by decide +kernel
theorem dX_back_5 : decode prog_1_method_6_code 5 = .ok (.astore 5, 2) := by decide +kernel
theorem dX_back_7 : decode prog_1_method_6_code 7 = .ok (.aload_n 0, 1) := by decide +kernel
theorem dX_back_8 : decode prog_1_method_6_code 8 = .ok (.iload_n 1, 1) := by decide +kernel
theorem dX_back_9 : decode prog_1_method_6_code 9 = .ok (.invokevirtual 82, 3) := by decide +kernel
theorem dX_back_12 : decode prog_1_method_6_code 12 = .ok (.ifCond .eq 15, 3) := by decide +kernel
theorem dX_back_15 : decode prog_1_method_6_code 15 = .ok (.aload 5, 2) := by decide +kernel
theorem dX_back_17 : decode prog_1_method_6_code 17 = .ok (.ifnull 10, 3) := by decide +kernel
theorem dX_back_20 : decode prog_1_method_6_code 20 = .ok (.lload_n 3, 1) := by decide +kernel
theorem dX_back_21 : decode prog_1_method_6_code 21 = .ok (.invokestatic 86, 3) := by decide +kernel
theorem dX_back_24 : decode prog_1_method_6_code 24 = .ok (.ifCond .ne 6, 3) := by decide +kernel
theorem dX_back_27 : decode prog_1_method_6_code 27 = .ok (.bipush 8, 2) := by decide +kernel
theorem dX_back_29 : decode prog_1_method_6_code 29 = .ok (.ireturn, 1) := by decide +kernel
theorem dX_back_30 : decode prog_1_method_6_code 30 = .ok (.aload 5, 2) := by decide +kernel
theorem dX_back_32 : decode prog_1_method_6_code 32 = .ok (.getfield 90, 3) := by decide +kernel
theorem dX_back_35 : decode prog_1_method_6_code 35 = .ok (.iload_n 1, 1) := by decide +kernel
theorem dX_back_36 : decode prog_1_method_6_code 36 = .ok (.laload, 1) := by decide +kernel
theorem dX_back_37 : decode prog_1_method_6_code 37 = .ok (.lload_n 3, 1) := by decide +kernel
theorem dX_back_38 : decode prog_1_method_6_code 38 = .ok (.lsub, 1) := by decide +kernel
theorem dX_back_39 : decode prog_1_method_6_code 39 = .ok (.aload_n 0, 1) := by decide +kernel
theorem dX_back_40 : decode prog_1_method_6_code 40 = .ok (.aload 5, 2) := by decide +kernel
theorem dX_back_42 : decode prog_1_method_6_code 42 = .ok (.iload_n 1, 1) := by decide +kernel
theorem dX_back_43 : decode prog_1_method_6_code 43 = .ok (.invokevirtual 99, 3) := by decide +kernel
theorem dX_back_46 : decode prog_1_method_6_code 46 = .ok (.lcmp, 1) := by decide +kernel
theorem dX_back_47 : decode prog_1_method_6_code 47 = .ok (.ifCond .ge 6, 3) := by decide +kernel
theorem dX_back_50 : decode prog_1_method_6_code 50 = .ok (.bipush 9, 2) := by decide +kernel
theorem dX_back_52 : decode prog_1_method_6_code 52 = .ok (.ireturn, 1) := by decide +kernel
theorem dX_back_53 : decode prog_1_method_6_code 53 = .ok (.aload 5, 2) := by decide +kernel
theorem dX_back_55 : decode prog_1_method_6_code 55 = .ok (.iload_n 1, 1) := by decide +kernel
theorem dX_back_56 : decode prog_1_method_6_code 56 = .ok (.iconst 0, 1) := by decide +kernel
theorem dX_back_57 : decode prog_1_method_6_code 57 = .ok (.lload_n 3, 1) := by decide +kernel
theorem dX_back_58 : decode prog_1_method_6_code 58 = .ok (.invokevirtual 95, 3) := by decide +kernel
theorem dX_back_61 : decode prog_1_method_6_code 61 = .ok (.iconst 0, 1) := by decide +kernel
theorem dX_back_62 : decode prog_1_method_6_code 62 = .ok (.ireturn, 1) := by decide +kernel
def g_X_back (x : XS) (p : Int32) (a : Int32) (v : Int64) : Int32 × XS := if xIs x a then (if (f_X_isClient x p) = 0 then (8, x) else (if (f_X_isAmount v) = 0 then (8, x) else (if (((xH x ((a).toNatClampNeg)) (p).toNatClampNeg) - v) < (f_X_lowest x ((a).toNatClampNeg) p) then (9, x) else (0, g_A_move x ((a).toNatClampNeg) p 0 v)))) else (if (f_X_isClient x p) = 0 then (8, x) else (8, x))
set_option maxHeartbeats 4000000 in
set_option maxRecDepth 100000 in
theorem c_X_back (l : Launch) (D : va_G) (cI cL cQ : ClassId) (d : Nat → Nat) (κ0 : Nat → Option va_E) (x : XS) (hX : IsX cI cL cQ d κ0 x) (hB : XB x) (sz : Nat) (p : Int32) (a : Int32) (v : Int64)  : Met l yX_back wX_back { frames := 2, cells := 0, slots := 0, locals := 43 } (va_Pc [.ref (d 18), .int (p), .int (a), .long (v)] (kC D vCl (kT cI cL cQ) d κ0 sz)) (kNi D vCl d (kA d κ0 sz) (fun r κ' => r = (g_X_back x p a v).1 ∧ XW cI cL cQ κ0 d κ' (g_X_back x p a v).2)) 0 0 (kA d κ0 sz) := by
  refine kMet (by decide) (Nat.le_of_ble_eq_true rfl) ?_
  intro p0 e0 s0 m0 below0 meth0 c0 hx hb hr hml hown hlocks hin hts hsz hP hK ls hl
  subst hsz
  have hl : lv_has ls 6 [(0, .ref (d 18)), (1, .int (p)), (2, .int (a)), (3, .long (v))] := hl
  have hB9 := hB
  obtain ⟨hb0, hb1, hb2, hb3, hb4, hb5, hb6, hb7, hb8⟩ := hB9
  obtain ⟨κ, hM, hW⟩ : ∃ κ', kW D vCl d κ' (kA d κ0 s0.heap.size) s0.heap s0.heap [] ∧ XW cI cL cQ κ0 d κ' x := ⟨κ0, kW.start hP, ⟨hX, fun _ _ => rfl⟩⟩
  refine lv_aload_n hx hb dX_back_0 rfl (lv_at hl 0 rfl) ?_
  refine lv_iload_n hx hb dX_back_1 rfl (lv_at hl 2 rfl) ?_
  refine va_csq (W.runV (C := RX) (As := [.int (a)]) (rest := []) ⟨hx, hb, hml, hown, hts⟩ (c_X_assetAt l D cI cL cQ d κ x hW.1 hB _ a) (cwV 1 hts (k_gV tw_179 tw_181 tw_2 tw_38 tw_182) rfl rfl rfl (by decide +kernel) ⟨Nat.le_of_ble_eq_true rfl, Nat.le_of_ble_eq_true rfl⟩) (kPreV hM.1 hK (q := 18) hW.1.1 rfl) rfl rfl hl.1 rfl (lv_room (Nat.le_of_ble_eq_true rfl)) dX_back_2 ⟨Nat.le_of_ble_eq_true rfl, Nat.le_of_ble_eq_true rfl⟩) (fun r_2 e_2 => ?_)
  subst e_2
  by_cases hA_2 : xIs x a
  · rw [if_pos hA_2]
    have hi_2 : (a).toNatClampNeg < x.1 2 := (xIs_in hB hA_2).2
    refine lv_astore (lv' := [(5, .ref (d (32 + 3 * (a).toNatClampNeg))), (0, .ref (d 18)), (1, .int (p)), (2, .int (a)), (3, .long (v))]) hx hb dX_back_5 hl (by decide) rfl (fun ls hl => ?_)
    refine lv_aload_n hx hb dX_back_7 rfl (lv_at hl 1 rfl) ?_
    refine lv_iload_n hx hb dX_back_8 rfl (lv_at hl 2 rfl) ?_
    refine vp_callSi (W.runV (C := RX) (As := [.int (p)]) (rest := []) ⟨hx, hb, hml, hown, hts⟩ (c_X_isClient l D cI cL cQ d κ x hW.1 hB _ p) (cwV 1 hts (k_gV tw_212 tw_214 tw_7 tw_38 tw_215) rfl rfl rfl (by decide +kernel) ⟨Nat.le_of_ble_eq_true rfl, Nat.le_of_ble_eq_true rfl⟩) (kPreV hM.1 hK (q := 18) hW.1.1 rfl) rfl rfl hl.1 rfl (lv_room (Nat.le_of_ble_eq_true rfl)) dX_back_9 ⟨Nat.le_of_ble_eq_true rfl, Nat.le_of_ble_eq_true rfl⟩) (fun r_9 e_9 => ?_)
    subst e_9
    refine lv_if_eq (tgt := 27) hx hb dX_back_12 (by decide) (fun c_12 => ?_) (fun c_12 => ?_)
    · refine lv_bipush (v := 8) hx hb dX_back_27 (by decide) ?_
      have hg : g_X_back x p a v = (8, x) := by rw [g_X_back, if_pos hA_2, if_pos c_12]
      exact W.iret (v := 8) hx hb hr (fun t ht h9 => kNi.of hM ht (by rw [hg]; exact ⟨rfl, hW⟩)) hM.2.2.2.2 dX_back_29
    · refine lv_aload hx hb dX_back_15 (lv_at hl 0 rfl) ?_
      refine lv_ifnull hx hb dX_back_17 ?_
      refine lv_lload_n hx hb dX_back_20 rfl (lv_at hl 4 rfl) ?_
      refine vp_callSi (W.runS (As := [.long (v)]) (rest := []) ⟨hx, hb, hml, hown, hts⟩ (c_X_isAmount l D cI cL cQ d κ _ v) (cwS 1 hts (k_gS tw_216 tw_217 tw_38 tw_218) rfl rfl rfl (by decide +kernel) ⟨Nat.le_of_ble_eq_true rfl, Nat.le_of_ble_eq_true rfl⟩) (kPreS hM.1 hK) rfl rfl hl.1 rfl (lv_room (Nat.le_of_ble_eq_true rfl)) dX_back_21 ⟨Nat.le_of_ble_eq_true rfl, Nat.le_of_ble_eq_true rfl⟩) (fun r_21 e_21 => ?_)
      subst e_21
      refine lv_if_ne (tgt := 30) hx hb dX_back_24 (by decide) (fun c_24 => ?_) (fun c_24 => ?_)
      · refine lv_aload hx hb dX_back_30 (lv_at hl 0 rfl) ?_
        refine ka_get (v := .ref (d (33 + 3 * (a).toNatClampNeg))) (ci := 0) (C := RA) (T := TA) (N := 4) hx hb hts inA hown hK hM.1 (q := (32 + 3 * (a).toNatClampNeg)) (hW.1.2.2.2.2.2.2.2.2.2.2.2.2.2.2.1 ((a).toNatClampNeg) hi_2).1 rfl 1 (by decide) (hts _ tw_146) (fun _ h9 => h9) rfl dX_back_32 ?_
        refine lv_iload_n hx hb dX_back_35 rfl (lv_at hl 2 rfl) ?_
        refine ka_lald (f := xH x ((a).toNatClampNeg)) hx hb hK hM.1 1 (q := (33 + 3 * (a).toNatClampNeg)) (hW.1.2.2.2.2.2.2.2.2.2.2.2.2.2.2.1 ((a).toNatClampNeg) hi_2).2.1 rfl (client_in hB (by assumption)) dX_back_36 ?_
        refine lv_lload_n hx hb dX_back_37 rfl (lv_at hl 4 rfl) ?_
        refine lv_lsub hx hb dX_back_38 ?_
        refine lv_aload_n hx hb dX_back_39 rfl (lv_at hl 1 rfl) ?_
        refine lv_aload hx hb dX_back_40 (lv_at hl 0 rfl) ?_
        refine lv_iload_n hx hb dX_back_42 rfl (lv_at hl 2 rfl) ?_
        refine vp_callSl (W.runV (C := RX) (As := [.ref (d (32 + 3 * (a).toNatClampNeg)), .int (p)]) (rest := [.long (((xH x ((a).toNatClampNeg)) (p).toNatClampNeg) - v)]) ⟨hx, hb, hml, hown, hts⟩ (c_X_lowest l D cI cL cQ d κ x hW.1 hB _ ((a).toNatClampNeg) hi_2 p (client_in hB (by assumption))) (cwV 2 hts (k_gV tw_228 tw_230 tw_8 tw_38 tw_231) rfl rfl rfl (by decide +kernel) ⟨Nat.le_of_ble_eq_true rfl, Nat.le_of_ble_eq_true rfl⟩) (kPreV hM.1 hK (q := 18) hW.1.1 rfl) rfl rfl hl.1 rfl (lv_room (Nat.le_of_ble_eq_true rfl)) dX_back_43 ⟨Nat.le_of_ble_eq_true rfl, Nat.le_of_ble_eq_true rfl⟩) (fun r_43 e_43 => ?_)
        subst e_43
        refine kl_ge (tgt := 53) hx hb dX_back_46 dX_back_47 (by decide) (fun c_46 => ?_) (fun c_46 => ?_)
        · refine lv_aload hx hb dX_back_53 (lv_at hl 0 rfl) ?_
          refine lv_iload_n hx hb dX_back_55 rfl (lv_at hl 2 rfl) ?_
          refine lv_iconst (v := 0) hx hb dX_back_56 (by decide) ?_
          refine lv_lload_n hx hb dX_back_57 rfl (lv_at hl 4 rfl) ?_
          refine ka_ncallv (W.runV (C := RA) (As := [.int (p), .int (0), .long (v)]) (rest := []) ⟨hx, hb, hml, hown, hts⟩ (c_A_move l D cI cL cQ d κ x hW.1 hB _ ((a).toNatClampNeg) hi_2 p 0 v (client_in hB (by assumption)) (show vp_in (nI 0) (x.1 0) from vp_in_nI (by omega) (by omega))) (cwV 3 hts (k_gV tw_220 tw_221 tw_222 tw_42 tw_223) rfl rfl rfl (by decide +kernel) ⟨Nat.le_of_ble_eq_true rfl, Nat.le_of_ble_eq_true rfl⟩) (kPreV hM.1 hK (q := (32 + 3 * (a).toNatClampNeg)) (hW.1.2.2.2.2.2.2.2.2.2.2.2.2.2.2.1 ((a).toNatClampNeg) hi_2).1 rfl) rfl rfl hl.1 rfl (lv_room (Nat.le_of_ble_eq_true rfl)) dX_back_58 ⟨Nat.le_of_ble_eq_true rfl, Nat.le_of_ble_eq_true rfl⟩) hM (fun _ h9 => Or.inr h9) (fun κ1 H locs hW1 hM => ?_)
          obtain ⟨κ, hM, hW⟩ : ∃ κ', kW D vCl d κ' (kA d κ0 s0.heap.size) s0.heap H locs ∧ XW cI cL cQ κ0 d κ' (g_A_move x ((a).toNatClampNeg) p 0 v) := ⟨κ1, hM, hW.trans hW1⟩
          refine lv_iconst (v := 0) hx hb dX_back_61 (by decide) ?_
          have hg : g_X_back x p a v = (0, g_A_move x ((a).toNatClampNeg) p 0 v) := by rw [g_X_back, if_pos hA_2, if_neg c_12, if_neg c_24, if_neg c_46]
          exact W.iret (v := 0) hx hb hr (fun t ht h9 => kNi.of hM ht (by rw [hg]; exact ⟨rfl, hW⟩)) hM.2.2.2.2 dX_back_62
        · refine lv_bipush (v := 9) hx hb dX_back_50 (by decide) ?_
          have hg : g_X_back x p a v = (9, x) := by rw [g_X_back, if_pos hA_2, if_neg c_12, if_neg c_24, if_pos c_46]
          exact W.iret (v := 9) hx hb hr (fun t ht h9 => kNi.of hM ht (by rw [hg]; exact ⟨rfl, hW⟩)) hM.2.2.2.2 dX_back_52
      · refine lv_bipush (v := 8) hx hb dX_back_27 (by decide) ?_
        have hg : g_X_back x p a v = (8, x) := by rw [g_X_back, if_pos hA_2, if_neg c_12, if_pos c_24]
        exact W.iret (v := 8) hx hb hr (fun t ht h9 => kNi.of hM ht (by rw [hg]; exact ⟨rfl, hW⟩)) hM.2.2.2.2 dX_back_29
  · rw [if_neg hA_2]
    refine lv_astoreN (lv' := [(5, .null), (0, .ref (d 18)), (1, .int (p)), (2, .int (a)), (3, .long (v))]) hx hb dX_back_5 hl (by decide) rfl (fun ls hl => ?_)
    refine lv_aload_n hx hb dX_back_7 rfl (lv_at hl 1 rfl) ?_
    refine lv_iload_n hx hb dX_back_8 rfl (lv_at hl 2 rfl) ?_
    refine vp_callSi (W.runV (C := RX) (As := [.int (p)]) (rest := []) ⟨hx, hb, hml, hown, hts⟩ (c_X_isClient l D cI cL cQ d κ x hW.1 hB _ p) (cwV 1 hts (k_gV tw_212 tw_214 tw_7 tw_38 tw_215) rfl rfl rfl (by decide +kernel) ⟨Nat.le_of_ble_eq_true rfl, Nat.le_of_ble_eq_true rfl⟩) (kPreV hM.1 hK (q := 18) hW.1.1 rfl) rfl rfl hl.1 rfl (lv_room (Nat.le_of_ble_eq_true rfl)) dX_back_9 ⟨Nat.le_of_ble_eq_true rfl, Nat.le_of_ble_eq_true rfl⟩) (fun r_9 e_9 => ?_)
    subst e_9
    refine lv_if_eq (tgt := 27) hx hb dX_back_12 (by decide) (fun c_12 => ?_) (fun c_12 => ?_)
    · refine lv_bipush (v := 8) hx hb dX_back_27 (by decide) ?_
      have hg : g_X_back x p a v = (8, x) := by rw [g_X_back, if_neg hA_2, if_pos c_12]
      exact W.iret (v := 8) hx hb hr (fun t ht h9 => kNi.of hM ht (by rw [hg]; exact ⟨rfl, hW⟩)) hM.2.2.2.2 dX_back_29
    · refine lv_aloadN hx hb dX_back_15 (lv_at hl 0 rfl) ?_
      refine lv_ifnullN (tgt := 27) hx hb dX_back_17 (by decide) ?_
      refine lv_bipush (v := 8) hx hb dX_back_27 (by decide) ?_
      have hg : g_X_back x p a v = (8, x) := by rw [g_X_back, if_neg hA_2, if_neg c_12]
      exact W.iret (v := 8) hx hb hr (fun t ht h9 => kNi.of hM ht (by rw [hg]; exact ⟨rfl, hW⟩)) hM.2.2.2.2 dX_back_29

theorem dX_setPledged_0 : decode prog_1_method_37_code 0 = .ok (.aload_n 0, 1) := by decide +kernel
theorem dX_setPledged_1 : decode prog_1_method_37_code 1 = .ok (.aload_n 1, 1) := by decide +kernel
theorem dX_setPledged_2 : decode prog_1_method_37_code 2 = .ok (.iload_n 2, 1) := by decide +kernel
theorem dX_setPledged_3 : decode prog_1_method_37_code 3 = .ok (.lload_n 3, 1) := by decide +kernel
theorem dX_setPledged_4 : decode prog_1_method_37_code 4 = .ok (.aload_n 1, 1) := by decide +kernel
theorem dX_setPledged_5 : decode prog_1_method_37_code 5 = .ok (.getfield 196, 3) := by decide +kernel
theorem dX_setPledged_8 : decode prog_1_method_37_code 8 = .ok (.invokevirtual 214, 3) := by decide +kernel
theorem dX_setPledged_11 : decode prog_1_method_37_code 11 = .ok (.lstore 5, 2) := by decide +kernel
theorem dX_setPledged_13 : decode prog_1_method_37_code 13 = .ok (.aload_n 1, 1) := by decide +kernel
theorem dX_setPledged_14 : decode prog_1_method_37_code 14 = .ok (.getfield 90, 3) := by decide +kernel
theorem dX_setPledged_17 : decode prog_1_method_37_code 17 = .ok (.iload_n 2, 1) := by decide +kernel
theorem dX_setPledged_18 : decode prog_1_method_37_code 18 = .ok (.laload, 1) := by decide +kernel
theorem dX_setPledged_19 : decode prog_1_method_37_code 19 = .ok (.lload_n 3, 1) := by decide +kernel
theorem dX_setPledged_20 : decode prog_1_method_37_code 20 = .ok (.lcmp, 1) := by decide +kernel
theorem dX_setPledged_21 : decode prog_1_method_37_code 21 = .ok (.ifCond .lt 13, 3) := by decide +kernel
theorem dX_setPledged_24 : decode prog_1_method_37_code 24 = .ok (.aload_n 0, 1) := by decide +kernel
theorem dX_setPledged_25 : decode prog_1_method_37_code 25 = .ok (.iload_n 2, 1) := by decide +kernel
theorem dX_setPledged_26 : decode prog_1_method_37_code 26 = .ok (.lload 5, 2) := by decide +kernel
theorem dX_setPledged_28 : decode prog_1_method_37_code 28 = .ok (.invokevirtual 218, 3) := by decide +kernel
theorem dX_setPledged_31 : decode prog_1_method_37_code 31 = .ok (.ifCond .eq 6, 3) := by decide +kernel
theorem dX_setPledged_34 : decode prog_1_method_37_code 34 = .ok (.bipush 9, 2) := by decide +kernel
theorem dX_setPledged_36 : decode prog_1_method_37_code 36 = .ok (.ireturn, 1) := by decide +kernel
theorem dX_setPledged_37 : decode prog_1_method_37_code 37 = .ok (.aload_n 0, 1) := by decide +kernel
theorem dX_setPledged_38 : decode prog_1_method_37_code 38 = .ok (.getfield 32, 3) := by decide +kernel
theorem dX_setPledged_41 : decode prog_1_method_37_code 41 = .ok (.aload_n 0, 1) := by decide +kernel
theorem dX_setPledged_42 : decode prog_1_method_37_code 42 = .ok (.getfield 28, 3) := by decide +kernel
theorem dX_setPledged_45 : decode prog_1_method_37_code 45 = .ok (.iload_n 2, 1) := by decide +kernel
theorem dX_setPledged_46 : decode prog_1_method_37_code 46 = .ok (.laload, 1) := by decide +kernel
theorem dX_setPledged_47 : decode prog_1_method_37_code 47 = .ok (.lsub, 1) := by decide +kernel
theorem dX_setPledged_48 : decode prog_1_method_37_code 48 = .ok (.lload 5, 2) := by decide +kernel
theorem dX_setPledged_50 : decode prog_1_method_37_code 50 = .ok (.ladd, 1) := by decide +kernel
theorem dX_setPledged_51 : decode prog_1_method_37_code 51 = .ok (.lstore 7, 2) := by decide +kernel
theorem dX_setPledged_53 : decode prog_1_method_37_code 53 = .ok (.lload 7, 2) := by decide +kernel
theorem dX_setPledged_55 : decode prog_1_method_37_code 55 = .ok (.ldc2_w 212, 3) := by decide +kernel
theorem dX_setPledged_58 : decode prog_1_method_37_code 58 = .ok (.lcmp, 1) := by decide +kernel
theorem dX_setPledged_59 : decode prog_1_method_37_code 59 = .ok (.ifCond .le 6, 3) := by decide +kernel
theorem dX_setPledged_62 : decode prog_1_method_37_code 62 = .ok (.bipush 10, 2) := by decide +kernel
theorem dX_setPledged_64 : decode prog_1_method_37_code 64 = .ok (.ireturn, 1) := by decide +kernel
theorem dX_setPledged_65 : decode prog_1_method_37_code 65 = .ok (.aload_n 1, 1) := by decide +kernel
theorem dX_setPledged_66 : decode prog_1_method_37_code 66 = .ok (.getfield 103, 3) := by decide +kernel
theorem dX_setPledged_69 : decode prog_1_method_37_code 69 = .ok (.iload_n 2, 1) := by decide +kernel
theorem dX_setPledged_70 : decode prog_1_method_37_code 70 = .ok (.lload_n 3, 1) := by decide +kernel
theorem dX_setPledged_71 : decode prog_1_method_37_code 71 = .ok (.lastore, 1) := by decide +kernel
theorem dX_setPledged_72 : decode prog_1_method_37_code 72 = .ok (.aload_n 0, 1) := by decide +kernel
theorem dX_setPledged_73 : decode prog_1_method_37_code 73 = .ok (.getfield 28, 3) := by decide +kernel
theorem dX_setPledged_76 : decode prog_1_method_37_code 76 = .ok (.iload_n 2, 1) := by decide +kernel
theorem dX_setPledged_77 : decode prog_1_method_37_code 77 = .ok (.lload 5, 2) := by decide +kernel
theorem dX_setPledged_79 : decode prog_1_method_37_code 79 = .ok (.lastore, 1) := by decide +kernel
theorem dX_setPledged_80 : decode prog_1_method_37_code 80 = .ok (.aload_n 0, 1) := by decide +kernel
theorem dX_setPledged_81 : decode prog_1_method_37_code 81 = .ok (.lload 7, 2) := by decide +kernel
theorem dX_setPledged_83 : decode prog_1_method_37_code 83 = .ok (.putfield 32, 3) := by decide +kernel
theorem dX_setPledged_86 : decode prog_1_method_37_code 86 = .ok (.iconst 0, 1) := by decide +kernel
theorem dX_setPledged_87 : decode prog_1_method_37_code 87 = .ok (.ireturn, 1) := by decide +kernel
def g_X_setPledged (x : XS) (i : Nat) (p : Int32) (pledged : Int64) : Int32 × XS := if ((xH x i) (p).toNatClampNeg) < pledged then (9, x) else (if (f_X_isOverdrawn x p (f_X_creditWith x i p pledged (xR x i))) = 0 then (if 4000000000000000000 < ((x.2.2.1 - ((x.2.2.2.2.1 0) (p).toNatClampNeg)) + (f_X_creditWith x i p pledged (xR x i))) then (10, x) else (0, xA (xL (xP1 x i (va_up (xP x i) (p).toNatClampNeg pledged)) 0 (va_up (x.2.2.2.2.1 0) (p).toNatClampNeg (f_X_creditWith x i p pledged (xR x i)))) ((x.2.2.1 - ((x.2.2.2.2.1 0) (p).toNatClampNeg)) + (f_X_creditWith x i p pledged (xR x i))))) else (9, x))
set_option maxHeartbeats 4000000 in
set_option maxRecDepth 100000 in
theorem c_X_setPledged (l : Launch) (D : va_G) (cI cL cQ : ClassId) (d : Nat → Nat) (κ0 : Nat → Option va_E) (x : XS) (hX : IsX cI cL cQ d κ0 x) (hB : XB x) (sz : Nat) (i : Nat) (hi : i < x.1 2) (p : Int32) (pledged : Int64) (hpP : vp_in p (x.1 0)) (hsec : ¬ xS x i = 0) : Met l yX_setPledged wX_setPledged { frames := 3, cells := 0, slots := 0, locals := 80 } (va_Pc [.ref (d 18), .ref (d (32 + 3 * i)), .int (p), .long (pledged)] (kC D vCl (kT cI cL cQ) d κ0 sz)) (kNi D vCl d (kA d κ0 sz) (fun r κ' => r = (g_X_setPledged x i p pledged).1 ∧ XW cI cL cQ κ0 d κ' (g_X_setPledged x i p pledged).2)) 0 0 (kA d κ0 sz) := by
  refine kMet (by decide) (Nat.le_of_ble_eq_true rfl) ?_
  intro p0 e0 s0 m0 below0 meth0 c0 hx hb hr hml hown hlocks hin hts hsz hP hK ls hl
  subst hsz
  have hl : lv_has ls 9 [(0, .ref (d 18)), (1, .ref (d (32 + 3 * i))), (2, .int (p)), (3, .long (pledged))] := hl
  have hB9 := hB
  obtain ⟨hb0, hb1, hb2, hb3, hb4, hb5, hb6, hb7, hb8⟩ := hB9
  obtain ⟨κ, hM, hW⟩ : ∃ κ', kW D vCl d κ' (kA d κ0 s0.heap.size) s0.heap s0.heap [] ∧ XW cI cL cQ κ0 d κ' x := ⟨κ0, kW.start hP, ⟨hX, fun _ _ => rfl⟩⟩
  refine lv_aload_n hx hb dX_setPledged_0 rfl (lv_at hl 0 rfl) ?_
  refine lv_aload_n hx hb dX_setPledged_1 rfl (lv_at hl 1 rfl) ?_
  refine lv_iload_n hx hb dX_setPledged_2 rfl (lv_at hl 2 rfl) ?_
  refine lv_lload_n hx hb dX_setPledged_3 rfl (lv_at hl 3 rfl) ?_
  refine lv_aload_n hx hb dX_setPledged_4 rfl (lv_at hl 1 rfl) ?_
  refine ka_get (v := .long (xR x i)) (ci := 0) (C := RA) (T := TA) (N := 4) hx hb hts inA hown hK hM.1 (q := (32 + 3 * i)) (hW.1.2.2.2.2.2.2.2.2.2.2.2.2.2.2.1 i hi).1 rfl 3 (by decide) (hts _ tw_150) (fun _ h9 => h9) rfl dX_setPledged_5 ?_
  refine vp_callSl (W.runV (C := RX) (As := [.ref (d (32 + 3 * i)), .int (p), .long (pledged), .long (xR x i)]) (rest := []) ⟨hx, hb, hml, hown, hts⟩ (c_X_creditWith l D cI cL cQ d κ x hW.1 hB _ i hi p pledged (xR x i) hpP hsec) (cwV 4 hts (k_gV tw_187 tw_189 tw_4 tw_38 tw_190) rfl rfl rfl (by decide +kernel) ⟨Nat.le_of_ble_eq_true rfl, Nat.le_of_ble_eq_true rfl⟩) (kPreV hM.1 hK (q := 18) hW.1.1 rfl) rfl rfl hl.1 rfl (lv_room (Nat.le_of_ble_eq_true rfl)) dX_setPledged_8 ⟨Nat.le_of_ble_eq_true rfl, Nat.le_of_ble_eq_true rfl⟩) (fun r_8 e_8 => ?_)
  subst e_8
  refine lv_lstore (lv' := [(5, .long (f_X_creditWith x i p pledged (xR x i))), (0, .ref (d 18)), (1, .ref (d (32 + 3 * i))), (2, .int (p)), (3, .long (pledged))]) hx hb dX_setPledged_11 hl (by decide) rfl (fun ls hl => ?_)
  refine lv_aload_n hx hb dX_setPledged_13 rfl (lv_at hl 2 rfl) ?_
  refine ka_get (v := .ref (d (33 + 3 * i))) (ci := 0) (C := RA) (T := TA) (N := 4) hx hb hts inA hown hK hM.1 (q := (32 + 3 * i)) (hW.1.2.2.2.2.2.2.2.2.2.2.2.2.2.2.1 i hi).1 rfl 1 (by decide) (hts _ tw_146) (fun _ h9 => h9) rfl dX_setPledged_14 ?_
  refine lv_iload_n hx hb dX_setPledged_17 rfl (lv_at hl 3 rfl) ?_
  refine ka_lald (f := xH x i) hx hb hK hM.1 1 (q := (33 + 3 * i)) (hW.1.2.2.2.2.2.2.2.2.2.2.2.2.2.2.1 i hi).2.1 rfl (by first | assumption | exact vp_in_nI (by omega) (by omega)) dX_setPledged_18 ?_
  refine lv_lload_n hx hb dX_setPledged_19 rfl (lv_at hl 4 rfl) ?_
  refine kl_lt (tgt := 34) hx hb dX_setPledged_20 dX_setPledged_21 (by decide) (fun c_20 => ?_) (fun c_20 => ?_)
  · refine lv_bipush (v := 9) hx hb dX_setPledged_34 (by decide) ?_
    have hg : g_X_setPledged x i p pledged = (9, x) := by rw [g_X_setPledged, if_pos c_20]
    exact W.iret (v := 9) hx hb hr (fun t ht h9 => kNi.of hM ht (by rw [hg]; exact ⟨rfl, hW⟩)) hM.2.2.2.2 dX_setPledged_36
  · refine lv_aload_n hx hb dX_setPledged_24 rfl (lv_at hl 1 rfl) ?_
    refine lv_iload_n hx hb dX_setPledged_25 rfl (lv_at hl 3 rfl) ?_
    refine lv_lload hx hb dX_setPledged_26 (lv_at hl 0 rfl) ?_
    refine vp_callSi (W.runV (C := RX) (As := [.int (p), .long (f_X_creditWith x i p pledged (xR x i))]) (rest := []) ⟨hx, hb, hml, hown, hts⟩ (c_X_isOverdrawn l D cI cL cQ d κ x hW.1 hB _ p (f_X_creditWith x i p pledged (xR x i)) hpP) (cwV 2 hts (k_gV tw_200 tw_202 tw_5 tw_38 tw_203) rfl rfl rfl (by decide +kernel) ⟨Nat.le_of_ble_eq_true rfl, Nat.le_of_ble_eq_true rfl⟩) (kPreV hM.1 hK (q := 18) hW.1.1 rfl) rfl rfl hl.1 rfl (lv_room (Nat.le_of_ble_eq_true rfl)) dX_setPledged_28 ⟨Nat.le_of_ble_eq_true rfl, Nat.le_of_ble_eq_true rfl⟩) (fun r_28 e_28 => ?_)
    subst e_28
    refine lv_if_eq (tgt := 37) hx hb dX_setPledged_31 (by decide) (fun c_31 => ?_) (fun c_31 => ?_)
    · refine lv_aload_n hx hb dX_setPledged_37 rfl (lv_at hl 1 rfl) ?_
      refine ka_get (v := .long (x.2.2.1)) (ci := 3) (C := RX) (T := TX) (N := 10) hx hb hts inX hown hK hM.1 (q := 18) hW.1.1 rfl 6 (by decide) (hts _ tw_105) (fun _ h9 => h9) rfl dX_setPledged_38 ?_
      refine lv_aload_n hx hb dX_setPledged_41 rfl (lv_at hl 1 rfl) ?_
      refine ka_get (v := .ref (d 20)) (ci := 3) (C := RX) (T := TX) (N := 10) hx hb hts inX hown hK hM.1 (q := 18) hW.1.1 rfl 5 (by decide) (hts _ tw_104) (fun _ h9 => h9) rfl dX_setPledged_42 ?_
      refine lv_iload_n hx hb dX_setPledged_45 rfl (lv_at hl 3 rfl) ?_
      refine ka_lald (f := x.2.2.2.2.1 0) hx hb hK hM.1 1 (q := 20) hW.1.2.2.1 rfl (by first | assumption | exact vp_in_nI (by omega) (by omega)) dX_setPledged_46 ?_
      refine lv_lsub hx hb dX_setPledged_47 ?_
      refine lv_lload hx hb dX_setPledged_48 (lv_at hl 0 rfl) ?_
      refine lv_ladd hx hb dX_setPledged_50 ?_
      refine lv_lstore (lv' := [(7, .long ((x.2.2.1 - ((x.2.2.2.2.1 0) (p).toNatClampNeg)) + (f_X_creditWith x i p pledged (xR x i)))), (5, .long (f_X_creditWith x i p pledged (xR x i))), (0, .ref (d 18)), (1, .ref (d (32 + 3 * i))), (2, .int (p)), (3, .long (pledged))]) hx hb dX_setPledged_51 hl (by decide) rfl (fun ls hl => ?_)
      refine lv_lload hx hb dX_setPledged_53 (lv_at hl 0 rfl) ?_
      refine lv_ldc2 (v := 4000000000000000000) hx hb hown (hts _ tw_195) dX_setPledged_55 ?_
      refine kl_le (tgt := 65) hx hb dX_setPledged_58 dX_setPledged_59 (by decide) (fun c_58 => ?_) (fun c_58 => ?_)
      · refine lv_aload_n hx hb dX_setPledged_65 rfl (lv_at hl 3 rfl) ?_
        refine ka_get (v := .ref (d (34 + 3 * i))) (ci := 0) (C := RA) (T := TA) (N := 4) hx hb hts inA hown hK hM.1 (q := (32 + 3 * i)) (hW.1.2.2.2.2.2.2.2.2.2.2.2.2.2.2.1 i hi).1 rfl 2 (by decide) (hts _ tw_148) (fun _ h9 => h9) rfl dX_setPledged_66 ?_
        refine lv_iload_n hx hb dX_setPledged_69 rfl (lv_at hl 4 rfl) ?_
        refine lv_lload_n hx hb dX_setPledged_70 rfl (lv_at hl 5 rfl) ?_
        refine ka_last (f := xP x i) hx hb hK hM 1 (q := (34 + 3 * i)) (hW.1.2.2.2.2.2.2.2.2.2.2.2.2.2.2.1 i hi).2.2 rfl (i := p) (x := pledged) (by unfold xPl; rw [if_neg hsec]; exact hpP) dX_setPledged_71 (fun H locs hM => ?_)
        obtain ⟨κ, hM, hW⟩ : ∃ κ', kW D vCl d κ' (kA d κ0 s0.heap.size) s0.heap H locs ∧ XW cI cL cQ κ0 d κ' (xP1 x i (va_up (xP x i) (p).toNatClampNeg pledged)) := ⟨_, hM, xw_pled (x := x) hi _ hW⟩
        refine lv_aload_n hx hb dX_setPledged_72 rfl (lv_at hl 2 rfl) ?_
        refine ka_get (v := .ref (d 20)) (ci := 3) (C := RX) (T := TX) (N := 10) hx hb hts inX hown hK hM.1 (q := 18) hW.1.1 rfl 5 (by decide) (hts _ tw_104) (fun _ h9 => h9) rfl dX_setPledged_73 ?_
        refine lv_iload_n hx hb dX_setPledged_76 rfl (lv_at hl 4 rfl) ?_
        refine lv_lload hx hb dX_setPledged_77 (lv_at hl 1 rfl) ?_
        refine ka_last (f := x.2.2.2.2.1 0) hx hb hK hM 1 (q := 20) hW.1.2.2.1 rfl (i := p) (x := f_X_creditWith x i p pledged (xR x i)) (by first | assumption | exact vp_in_nI (by omega) (by omega)) dX_setPledged_79 (fun H locs hM => ?_)
        obtain ⟨κ, hM, hW⟩ : ∃ κ', kW D vCl d κ' (kA d κ0 s0.heap.size) s0.heap H locs ∧ XW cI cL cQ κ0 d κ' (xL (xP1 x i (va_up (xP x i) (p).toNatClampNeg pledged)) 0 (va_up (x.2.2.2.2.1 0) (p).toNatClampNeg (f_X_creditWith x i p pledged (xR x i)))) := ⟨_, hM, xw_l0 _ hW⟩
        refine lv_aload_n hx hb dX_setPledged_80 rfl (lv_at hl 2 rfl) ?_
        refine lv_lload hx hb dX_setPledged_81 (lv_at hl 0 rfl) ?_
        refine ka_put (D := D) (ci := 3) (v := .long ((x.2.2.1 - ((x.2.2.2.2.1 0) (p).toNatClampNeg)) + (f_X_creditWith x i p pledged (xR x i)))) (ty := .long) (C := RX) (T := TX) (N := 10) hx hb hts inX tX tX_ok nX hown hK hM (q := 18) hW.1.1 rfl 6 (by decide) (hts _ tw_105) (fun _ h9 => h9) rfl (by decide +kernel) rfl rfl (Nat.le_of_ble_eq_true rfl) dX_setPledged_83 (fun H locs hM => ?_)
        obtain ⟨κ, hM, hW⟩ : ∃ κ', kW D vCl d κ' (kA d κ0 s0.heap.size) s0.heap H locs ∧ XW cI cL cQ κ0 d κ' (xA (xL (xP1 x i (va_up (xP x i) (p).toNatClampNeg pledged)) 0 (va_up (x.2.2.2.2.1 0) (p).toNatClampNeg (f_X_creditWith x i p pledged (xR x i)))) ((x.2.2.1 - ((x.2.2.2.2.1 0) (p).toNatClampNeg)) + (f_X_creditWith x i p pledged (xR x i)))) := ⟨_, hM, xw_allCredits ((x.2.2.1 - ((x.2.2.2.2.1 0) (p).toNatClampNeg)) + (f_X_creditWith x i p pledged (xR x i))) hW⟩
        refine lv_iconst (v := 0) hx hb dX_setPledged_86 (by decide) ?_
        have hg : g_X_setPledged x i p pledged = (0, xA (xL (xP1 x i (va_up (xP x i) (p).toNatClampNeg pledged)) 0 (va_up (x.2.2.2.2.1 0) (p).toNatClampNeg (f_X_creditWith x i p pledged (xR x i)))) ((x.2.2.1 - ((x.2.2.2.2.1 0) (p).toNatClampNeg)) + (f_X_creditWith x i p pledged (xR x i)))) := by rw [g_X_setPledged, if_neg c_20, if_pos c_31, if_neg c_58]
        exact W.iret (v := 0) hx hb hr (fun t ht h9 => kNi.of hM ht (by rw [hg]; exact ⟨rfl, hW⟩)) hM.2.2.2.2 dX_setPledged_87
      · refine lv_bipush (v := 10) hx hb dX_setPledged_62 (by decide) ?_
        have hg : g_X_setPledged x i p pledged = (10, x) := by rw [g_X_setPledged, if_neg c_20, if_pos c_31, if_pos c_58]
        exact W.iret (v := 10) hx hb hr (fun t ht h9 => kNi.of hM ht (by rw [hg]; exact ⟨rfl, hW⟩)) hM.2.2.2.2 dX_setPledged_64
    · refine lv_bipush (v := 9) hx hb dX_setPledged_34 (by decide) ?_
      have hg : g_X_setPledged x i p pledged = (9, x) := by rw [g_X_setPledged, if_neg c_20, if_neg c_31]
      exact W.iret (v := 9) hx hb hr (fun t ht h9 => kNi.of hM ht (by rw [hg]; exact ⟨rfl, hW⟩)) hM.2.2.2.2 dX_setPledged_36

theorem dX_pledge_0 : decode prog_1_method_7_code 0 = .ok (.aload_n 0, 1) := by decide +kernel
theorem dX_pledge_1 : decode prog_1_method_7_code 1 = .ok (.iload_n 2, 1) := by decide +kernel
theorem dX_pledge_2 : decode prog_1_method_7_code 2 = .ok (.invokevirtual 67, 3) := by decide +kernel
theorem dX_pledge_5 : decode prog_1_method_7_code 5 = .ok (.astore 5, 2) := by decide +kernel
theorem dX_pledge_7 : decode prog_1_method_7_code 7 = .ok (.aload_n 0, 1) := by decide +kernel
theorem dX_pledge_8 : decode prog_1_method_7_code 8 = .ok (.iload_n 1, 1) := by decide +kernel
theorem dX_pledge_9 : decode prog_1_method_7_code 9 = .ok (.invokevirtual 82, 3) := by decide +kernel
theorem dX_pledge_12 : decode prog_1_method_7_code 12 = .ok (.ifCond .eq 15, 3) := by decide +kernel
theorem dX_pledge_15 : decode prog_1_method_7_code 15 = .ok (.aload 5, 2) := by decide +kernel
theorem dX_pledge_17 : decode prog_1_method_7_code 17 = .ok (.ifnull 10, 3) := by decide +kernel
theorem dX_pledge_20 : decode prog_1_method_7_code 20 = .ok (.lload_n 3, 1) := by decide +kernel
theorem dX_pledge_21 : decode prog_1_method_7_code 21 = .ok (.invokestatic 86, 3) := by decide +kernel
theorem dX_pledge_24 : decode prog_1_method_7_code 24 = .ok (.ifCond .ne 6, 3) := by decide +kernel
theorem dX_pledge_27 : decode prog_1_method_7_code 27 = .ok (.bipush 8, 2) := by decide +kernel
theorem dX_pledge_29 : decode prog_1_method_7_code 29 = .ok (.ireturn, 1) := by decide +kernel
theorem dX_pledge_30 : decode prog_1_method_7_code 30 = .ok (.aload_n 0, 1) := by decide +kernel
theorem dX_pledge_31 : decode prog_1_method_7_code 31 = .ok (.aload 5, 2) := by decide +kernel
theorem dX_pledge_33 : decode prog_1_method_7_code 33 = .ok (.iload_n 1, 1) := by decide +kernel
theorem dX_pledge_34 : decode prog_1_method_7_code 34 = .ok (.aload 5, 2) := by decide +kernel
theorem dX_pledge_36 : decode prog_1_method_7_code 36 = .ok (.getfield 103, 3) := by decide +kernel
theorem dX_pledge_39 : decode prog_1_method_7_code 39 = .ok (.iload_n 1, 1) := by decide +kernel
theorem dX_pledge_40 : decode prog_1_method_7_code 40 = .ok (.laload, 1) := by decide +kernel
theorem dX_pledge_41 : decode prog_1_method_7_code 41 = .ok (.lload_n 3, 1) := by decide +kernel
theorem dX_pledge_42 : decode prog_1_method_7_code 42 = .ok (.ladd, 1) := by decide +kernel
theorem dX_pledge_43 : decode prog_1_method_7_code 43 = .ok (.invokevirtual 106, 3) := by decide +kernel
theorem dX_pledge_46 : decode prog_1_method_7_code 46 = .ok (.ireturn, 1) := by decide +kernel
def g_X_pledge (x : XS) (p : Int32) (a : Int32) (v : Int64) : Int32 × XS := if xSec x a then (if (f_X_isClient x p) = 0 then (8, x) else (if (f_X_isAmount v) = 0 then (8, x) else ((g_X_setPledged x ((a).toNatClampNeg) p (((xP x ((a).toNatClampNeg)) (p).toNatClampNeg) + v)).1, (g_X_setPledged x ((a).toNatClampNeg) p (((xP x ((a).toNatClampNeg)) (p).toNatClampNeg) + v)).2))) else (if (f_X_isClient x p) = 0 then (8, x) else (8, x))
set_option maxHeartbeats 4000000 in
set_option maxRecDepth 100000 in
theorem c_X_pledge (l : Launch) (D : va_G) (cI cL cQ : ClassId) (d : Nat → Nat) (κ0 : Nat → Option va_E) (x : XS) (hX : IsX cI cL cQ d κ0 x) (hB : XB x) (sz : Nat) (p : Int32) (a : Int32) (v : Int64)  : Met l yX_pledge wX_pledge { frames := 4, cells := 0, slots := 0, locals := 108 } (va_Pc [.ref (d 18), .int (p), .int (a), .long (v)] (kC D vCl (kT cI cL cQ) d κ0 sz)) (kNi D vCl d (kA d κ0 sz) (fun r κ' => r = (g_X_pledge x p a v).1 ∧ XW cI cL cQ κ0 d κ' (g_X_pledge x p a v).2)) 0 0 (kA d κ0 sz) := by
  refine kMet (by decide) (Nat.le_of_ble_eq_true rfl) ?_
  intro p0 e0 s0 m0 below0 meth0 c0 hx hb hr hml hown hlocks hin hts hsz hP hK ls hl
  subst hsz
  have hl : lv_has ls 6 [(0, .ref (d 18)), (1, .int (p)), (2, .int (a)), (3, .long (v))] := hl
  have hB9 := hB
  obtain ⟨hb0, hb1, hb2, hb3, hb4, hb5, hb6, hb7, hb8⟩ := hB9
  obtain ⟨κ, hM, hW⟩ : ∃ κ', kW D vCl d κ' (kA d κ0 s0.heap.size) s0.heap s0.heap [] ∧ XW cI cL cQ κ0 d κ' x := ⟨κ0, kW.start hP, ⟨hX, fun _ _ => rfl⟩⟩
  refine lv_aload_n hx hb dX_pledge_0 rfl (lv_at hl 0 rfl) ?_
  refine lv_iload_n hx hb dX_pledge_1 rfl (lv_at hl 2 rfl) ?_
  refine va_csq (W.runV (C := RX) (As := [.int (a)]) (rest := []) ⟨hx, hb, hml, hown, hts⟩ (c_X_securityAt l D cI cL cQ d κ x hW.1 hB _ a) (cwV 1 hts (k_gV tw_175 tw_177 tw_1 tw_38 tw_178) rfl rfl rfl (by decide +kernel) ⟨Nat.le_of_ble_eq_true rfl, Nat.le_of_ble_eq_true rfl⟩) (kPreV hM.1 hK (q := 18) hW.1.1 rfl) rfl rfl hl.1 rfl (lv_room (Nat.le_of_ble_eq_true rfl)) dX_pledge_2 ⟨Nat.le_of_ble_eq_true rfl, Nat.le_of_ble_eq_true rfl⟩) (fun r_2 e_2 => ?_)
  subst e_2
  by_cases hA_2 : xSec x a
  · rw [if_pos hA_2]
    have hi_2 : (a).toNatClampNeg < x.1 2 := (xIs_in hB hA_2.1).2
    refine lv_astore (lv' := [(5, .ref (d (32 + 3 * (a).toNatClampNeg))), (0, .ref (d 18)), (1, .int (p)), (2, .int (a)), (3, .long (v))]) hx hb dX_pledge_5 hl (by decide) rfl (fun ls hl => ?_)
    refine lv_aload_n hx hb dX_pledge_7 rfl (lv_at hl 1 rfl) ?_
    refine lv_iload_n hx hb dX_pledge_8 rfl (lv_at hl 2 rfl) ?_
    refine vp_callSi (W.runV (C := RX) (As := [.int (p)]) (rest := []) ⟨hx, hb, hml, hown, hts⟩ (c_X_isClient l D cI cL cQ d κ x hW.1 hB _ p) (cwV 1 hts (k_gV tw_212 tw_214 tw_7 tw_38 tw_215) rfl rfl rfl (by decide +kernel) ⟨Nat.le_of_ble_eq_true rfl, Nat.le_of_ble_eq_true rfl⟩) (kPreV hM.1 hK (q := 18) hW.1.1 rfl) rfl rfl hl.1 rfl (lv_room (Nat.le_of_ble_eq_true rfl)) dX_pledge_9 ⟨Nat.le_of_ble_eq_true rfl, Nat.le_of_ble_eq_true rfl⟩) (fun r_9 e_9 => ?_)
    subst e_9
    refine lv_if_eq (tgt := 27) hx hb dX_pledge_12 (by decide) (fun c_12 => ?_) (fun c_12 => ?_)
    · refine lv_bipush (v := 8) hx hb dX_pledge_27 (by decide) ?_
      have hg : g_X_pledge x p a v = (8, x) := by rw [g_X_pledge, if_pos hA_2, if_pos c_12]
      exact W.iret (v := 8) hx hb hr (fun t ht h9 => kNi.of hM ht (by rw [hg]; exact ⟨rfl, hW⟩)) hM.2.2.2.2 dX_pledge_29
    · refine lv_aload hx hb dX_pledge_15 (lv_at hl 0 rfl) ?_
      refine lv_ifnull hx hb dX_pledge_17 ?_
      refine lv_lload_n hx hb dX_pledge_20 rfl (lv_at hl 4 rfl) ?_
      refine vp_callSi (W.runS (As := [.long (v)]) (rest := []) ⟨hx, hb, hml, hown, hts⟩ (c_X_isAmount l D cI cL cQ d κ _ v) (cwS 1 hts (k_gS tw_216 tw_217 tw_38 tw_218) rfl rfl rfl (by decide +kernel) ⟨Nat.le_of_ble_eq_true rfl, Nat.le_of_ble_eq_true rfl⟩) (kPreS hM.1 hK) rfl rfl hl.1 rfl (lv_room (Nat.le_of_ble_eq_true rfl)) dX_pledge_21 ⟨Nat.le_of_ble_eq_true rfl, Nat.le_of_ble_eq_true rfl⟩) (fun r_21 e_21 => ?_)
      subst e_21
      refine lv_if_ne (tgt := 30) hx hb dX_pledge_24 (by decide) (fun c_24 => ?_) (fun c_24 => ?_)
      · refine lv_aload_n hx hb dX_pledge_30 rfl (lv_at hl 1 rfl) ?_
        refine lv_aload hx hb dX_pledge_31 (lv_at hl 0 rfl) ?_
        refine lv_iload_n hx hb dX_pledge_33 rfl (lv_at hl 2 rfl) ?_
        refine lv_aload hx hb dX_pledge_34 (lv_at hl 0 rfl) ?_
        refine ka_get (v := .ref (d (34 + 3 * (a).toNatClampNeg))) (ci := 0) (C := RA) (T := TA) (N := 4) hx hb hts inA hown hK hM.1 (q := (32 + 3 * (a).toNatClampNeg)) (hW.1.2.2.2.2.2.2.2.2.2.2.2.2.2.2.1 ((a).toNatClampNeg) hi_2).1 rfl 2 (by decide) (hts _ tw_148) (fun _ h9 => h9) rfl dX_pledge_36 ?_
        refine lv_iload_n hx hb dX_pledge_39 rfl (lv_at hl 2 rfl) ?_
        refine ka_lald (f := xP x ((a).toNatClampNeg)) hx hb hK hM.1 1 (q := (34 + 3 * (a).toNatClampNeg)) (hW.1.2.2.2.2.2.2.2.2.2.2.2.2.2.2.1 ((a).toNatClampNeg) hi_2).2.2 rfl (by unfold xPl; rw [if_neg hA_2.2]; exact (client_in hB (by assumption))) dX_pledge_40 ?_
        refine lv_lload_n hx hb dX_pledge_41 rfl (lv_at hl 4 rfl) ?_
        refine lv_ladd hx hb dX_pledge_42 ?_
        refine ka_ncalli (W.runV (C := RX) (As := [.ref (d (32 + 3 * (a).toNatClampNeg)), .int (p), .long (((xP x ((a).toNatClampNeg)) (p).toNatClampNeg) + v)]) (rest := []) ⟨hx, hb, hml, hown, hts⟩ (c_X_setPledged l D cI cL cQ d κ x hW.1 hB _ ((a).toNatClampNeg) hi_2 p (((xP x ((a).toNatClampNeg)) (p).toNatClampNeg) + v) (client_in hB (by assumption)) hA_2.2) (cwV 3 hts (k_gV tw_237 tw_239 tw_9 tw_38 tw_240) rfl rfl rfl (by decide +kernel) ⟨Nat.le_of_ble_eq_true rfl, Nat.le_of_ble_eq_true rfl⟩) (kPreV hM.1 hK (q := 18) hW.1.1 rfl) rfl rfl hl.1 rfl (lv_room (Nat.le_of_ble_eq_true rfl)) dX_pledge_43 ⟨Nat.le_of_ble_eq_true rfl, Nat.le_of_ble_eq_true rfl⟩) hM (fun _ h9 => Or.inr h9) (fun r_43 κ1 H locs h1_43 hM => ?_)
        obtain ⟨er_43, hW1⟩ := h1_43
        subst er_43
        obtain ⟨κ, hM, hW⟩ : ∃ κ', kW D vCl d κ' (kA d κ0 s0.heap.size) s0.heap H locs ∧ XW cI cL cQ κ0 d κ' ((g_X_setPledged x ((a).toNatClampNeg) p (((xP x ((a).toNatClampNeg)) (p).toNatClampNeg) + v)).2) := ⟨κ1, hM, hW.trans hW1⟩
        have hg : g_X_pledge x p a v = ((g_X_setPledged x ((a).toNatClampNeg) p (((xP x ((a).toNatClampNeg)) (p).toNatClampNeg) + v)).1, (g_X_setPledged x ((a).toNatClampNeg) p (((xP x ((a).toNatClampNeg)) (p).toNatClampNeg) + v)).2) := by rw [g_X_pledge, if_pos hA_2, if_neg c_12, if_neg c_24]
        exact W.iret (v := (g_X_setPledged x ((a).toNatClampNeg) p (((xP x ((a).toNatClampNeg)) (p).toNatClampNeg) + v)).1) hx hb hr (fun t ht h9 => kNi.of hM ht (by rw [hg]; exact ⟨rfl, hW⟩)) hM.2.2.2.2 dX_pledge_46
      · refine lv_bipush (v := 8) hx hb dX_pledge_27 (by decide) ?_
        have hg : g_X_pledge x p a v = (8, x) := by rw [g_X_pledge, if_pos hA_2, if_neg c_12, if_pos c_24]
        exact W.iret (v := 8) hx hb hr (fun t ht h9 => kNi.of hM ht (by rw [hg]; exact ⟨rfl, hW⟩)) hM.2.2.2.2 dX_pledge_29
  · rw [if_neg hA_2]
    refine lv_astoreN (lv' := [(5, .null), (0, .ref (d 18)), (1, .int (p)), (2, .int (a)), (3, .long (v))]) hx hb dX_pledge_5 hl (by decide) rfl (fun ls hl => ?_)
    refine lv_aload_n hx hb dX_pledge_7 rfl (lv_at hl 1 rfl) ?_
    refine lv_iload_n hx hb dX_pledge_8 rfl (lv_at hl 2 rfl) ?_
    refine vp_callSi (W.runV (C := RX) (As := [.int (p)]) (rest := []) ⟨hx, hb, hml, hown, hts⟩ (c_X_isClient l D cI cL cQ d κ x hW.1 hB _ p) (cwV 1 hts (k_gV tw_212 tw_214 tw_7 tw_38 tw_215) rfl rfl rfl (by decide +kernel) ⟨Nat.le_of_ble_eq_true rfl, Nat.le_of_ble_eq_true rfl⟩) (kPreV hM.1 hK (q := 18) hW.1.1 rfl) rfl rfl hl.1 rfl (lv_room (Nat.le_of_ble_eq_true rfl)) dX_pledge_9 ⟨Nat.le_of_ble_eq_true rfl, Nat.le_of_ble_eq_true rfl⟩) (fun r_9 e_9 => ?_)
    subst e_9
    refine lv_if_eq (tgt := 27) hx hb dX_pledge_12 (by decide) (fun c_12 => ?_) (fun c_12 => ?_)
    · refine lv_bipush (v := 8) hx hb dX_pledge_27 (by decide) ?_
      have hg : g_X_pledge x p a v = (8, x) := by rw [g_X_pledge, if_neg hA_2, if_pos c_12]
      exact W.iret (v := 8) hx hb hr (fun t ht h9 => kNi.of hM ht (by rw [hg]; exact ⟨rfl, hW⟩)) hM.2.2.2.2 dX_pledge_29
    · refine lv_aloadN hx hb dX_pledge_15 (lv_at hl 0 rfl) ?_
      refine lv_ifnullN (tgt := 27) hx hb dX_pledge_17 (by decide) ?_
      refine lv_bipush (v := 8) hx hb dX_pledge_27 (by decide) ?_
      have hg : g_X_pledge x p a v = (8, x) := by rw [g_X_pledge, if_neg hA_2, if_neg c_12]
      exact W.iret (v := 8) hx hb hr (fun t ht h9 => kNi.of hM ht (by rw [hg]; exact ⟨rfl, hW⟩)) hM.2.2.2.2 dX_pledge_29

theorem dX_free_0 : decode prog_1_method_8_code 0 = .ok (.aload_n 0, 1) := by decide +kernel
theorem dX_free_1 : decode prog_1_method_8_code 1 = .ok (.iload_n 2, 1) := by decide +kernel
theorem dX_free_2 : decode prog_1_method_8_code 2 = .ok (.invokevirtual 67, 3) := by decide +kernel
theorem dX_free_5 : decode prog_1_method_8_code 5 = .ok (.astore 5, 2) := by decide +kernel
theorem dX_free_7 : decode prog_1_method_8_code 7 = .ok (.aload_n 0, 1) := by decide +kernel
theorem dX_free_8 : decode prog_1_method_8_code 8 = .ok (.iload_n 1, 1) := by decide +kernel
theorem dX_free_9 : decode prog_1_method_8_code 9 = .ok (.invokevirtual 82, 3) := by decide +kernel
theorem dX_free_12 : decode prog_1_method_8_code 12 = .ok (.ifCond .eq 27, 3) := by decide +kernel
theorem dX_free_15 : decode prog_1_method_8_code 15 = .ok (.aload 5, 2) := by decide +kernel
theorem dX_free_17 : decode prog_1_method_8_code 17 = .ok (.ifnull 22, 3) := by decide +kernel
theorem dX_free_20 : decode prog_1_method_8_code 20 = .ok (.lload_n 3, 1) := by decide +kernel
theorem dX_free_21 : decode prog_1_method_8_code 21 = .ok (.invokestatic 86, 3) := by decide +kernel
theorem dX_free_24 : decode prog_1_method_8_code 24 = .ok (.ifCond .eq 15, 3) := by decide +kernel
theorem dX_free_27 : decode prog_1_method_8_code 27 = .ok (.lload_n 3, 1) := by decide +kernel
theorem dX_free_28 : decode prog_1_method_8_code 28 = .ok (.aload 5, 2) := by decide +kernel
theorem dX_free_30 : decode prog_1_method_8_code 30 = .ok (.getfield 103, 3) := by decide +kernel
theorem dX_free_33 : decode prog_1_method_8_code 33 = .ok (.iload_n 1, 1) := by decide +kernel
theorem dX_free_34 : decode prog_1_method_8_code 34 = .ok (.laload, 1) := by decide +kernel
theorem dX_free_35 : decode prog_1_method_8_code 35 = .ok (.lcmp, 1) := by decide +kernel
theorem dX_free_36 : decode prog_1_method_8_code 36 = .ok (.ifCond .le 6, 3) := by decide +kernel
theorem dX_free_39 : decode prog_1_method_8_code 39 = .ok (.bipush 8, 2) := by decide +kernel
theorem dX_free_41 : decode prog_1_method_8_code 41 = .ok (.ireturn, 1) := by decide +kernel
theorem dX_free_42 : decode prog_1_method_8_code 42 = .ok (.aload_n 0, 1) := by decide +kernel
theorem dX_free_43 : decode prog_1_method_8_code 43 = .ok (.aload 5, 2) := by decide +kernel
theorem dX_free_45 : decode prog_1_method_8_code 45 = .ok (.iload_n 1, 1) := by decide +kernel
theorem dX_free_46 : decode prog_1_method_8_code 46 = .ok (.aload 5, 2) := by decide +kernel
theorem dX_free_48 : decode prog_1_method_8_code 48 = .ok (.getfield 103, 3) := by decide +kernel
theorem dX_free_51 : decode prog_1_method_8_code 51 = .ok (.iload_n 1, 1) := by decide +kernel
theorem dX_free_52 : decode prog_1_method_8_code 52 = .ok (.laload, 1) := by decide +kernel
theorem dX_free_53 : decode prog_1_method_8_code 53 = .ok (.lload_n 3, 1) := by decide +kernel
theorem dX_free_54 : decode prog_1_method_8_code 54 = .ok (.lsub, 1) := by decide +kernel
theorem dX_free_55 : decode prog_1_method_8_code 55 = .ok (.invokevirtual 106, 3) := by decide +kernel
theorem dX_free_58 : decode prog_1_method_8_code 58 = .ok (.ireturn, 1) := by decide +kernel
def g_X_free (x : XS) (p : Int32) (a : Int32) (v : Int64) : Int32 × XS := if xSec x a then (if (f_X_isClient x p) = 0 then (8, x) else (if (f_X_isAmount v) = 0 then (8, x) else (if ((xP x ((a).toNatClampNeg)) (p).toNatClampNeg) < v then (8, x) else ((g_X_setPledged x ((a).toNatClampNeg) p (((xP x ((a).toNatClampNeg)) (p).toNatClampNeg) - v)).1, (g_X_setPledged x ((a).toNatClampNeg) p (((xP x ((a).toNatClampNeg)) (p).toNatClampNeg) - v)).2)))) else (if (f_X_isClient x p) = 0 then (8, x) else (8, x))
set_option maxHeartbeats 4000000 in
set_option maxRecDepth 100000 in
theorem c_X_free (l : Launch) (D : va_G) (cI cL cQ : ClassId) (d : Nat → Nat) (κ0 : Nat → Option va_E) (x : XS) (hX : IsX cI cL cQ d κ0 x) (hB : XB x) (sz : Nat) (p : Int32) (a : Int32) (v : Int64)  : Met l yX_free wX_free { frames := 4, cells := 0, slots := 0, locals := 108 } (va_Pc [.ref (d 18), .int (p), .int (a), .long (v)] (kC D vCl (kT cI cL cQ) d κ0 sz)) (kNi D vCl d (kA d κ0 sz) (fun r κ' => r = (g_X_free x p a v).1 ∧ XW cI cL cQ κ0 d κ' (g_X_free x p a v).2)) 0 0 (kA d κ0 sz) := by
  refine kMet (by decide) (Nat.le_of_ble_eq_true rfl) ?_
  intro p0 e0 s0 m0 below0 meth0 c0 hx hb hr hml hown hlocks hin hts hsz hP hK ls hl
  subst hsz
  have hl : lv_has ls 6 [(0, .ref (d 18)), (1, .int (p)), (2, .int (a)), (3, .long (v))] := hl
  have hB9 := hB
  obtain ⟨hb0, hb1, hb2, hb3, hb4, hb5, hb6, hb7, hb8⟩ := hB9
  obtain ⟨κ, hM, hW⟩ : ∃ κ', kW D vCl d κ' (kA d κ0 s0.heap.size) s0.heap s0.heap [] ∧ XW cI cL cQ κ0 d κ' x := ⟨κ0, kW.start hP, ⟨hX, fun _ _ => rfl⟩⟩
  refine lv_aload_n hx hb dX_free_0 rfl (lv_at hl 0 rfl) ?_
  refine lv_iload_n hx hb dX_free_1 rfl (lv_at hl 2 rfl) ?_
  refine va_csq (W.runV (C := RX) (As := [.int (a)]) (rest := []) ⟨hx, hb, hml, hown, hts⟩ (c_X_securityAt l D cI cL cQ d κ x hW.1 hB _ a) (cwV 1 hts (k_gV tw_175 tw_177 tw_1 tw_38 tw_178) rfl rfl rfl (by decide +kernel) ⟨Nat.le_of_ble_eq_true rfl, Nat.le_of_ble_eq_true rfl⟩) (kPreV hM.1 hK (q := 18) hW.1.1 rfl) rfl rfl hl.1 rfl (lv_room (Nat.le_of_ble_eq_true rfl)) dX_free_2 ⟨Nat.le_of_ble_eq_true rfl, Nat.le_of_ble_eq_true rfl⟩) (fun r_2 e_2 => ?_)
  subst e_2
  by_cases hA_2 : xSec x a
  · rw [if_pos hA_2]
    have hi_2 : (a).toNatClampNeg < x.1 2 := (xIs_in hB hA_2.1).2
    refine lv_astore (lv' := [(5, .ref (d (32 + 3 * (a).toNatClampNeg))), (0, .ref (d 18)), (1, .int (p)), (2, .int (a)), (3, .long (v))]) hx hb dX_free_5 hl (by decide) rfl (fun ls hl => ?_)
    refine lv_aload_n hx hb dX_free_7 rfl (lv_at hl 1 rfl) ?_
    refine lv_iload_n hx hb dX_free_8 rfl (lv_at hl 2 rfl) ?_
    refine vp_callSi (W.runV (C := RX) (As := [.int (p)]) (rest := []) ⟨hx, hb, hml, hown, hts⟩ (c_X_isClient l D cI cL cQ d κ x hW.1 hB _ p) (cwV 1 hts (k_gV tw_212 tw_214 tw_7 tw_38 tw_215) rfl rfl rfl (by decide +kernel) ⟨Nat.le_of_ble_eq_true rfl, Nat.le_of_ble_eq_true rfl⟩) (kPreV hM.1 hK (q := 18) hW.1.1 rfl) rfl rfl hl.1 rfl (lv_room (Nat.le_of_ble_eq_true rfl)) dX_free_9 ⟨Nat.le_of_ble_eq_true rfl, Nat.le_of_ble_eq_true rfl⟩) (fun r_9 e_9 => ?_)
    subst e_9
    refine lv_if_eq (tgt := 39) hx hb dX_free_12 (by decide) (fun c_12 => ?_) (fun c_12 => ?_)
    · refine lv_bipush (v := 8) hx hb dX_free_39 (by decide) ?_
      have hg : g_X_free x p a v = (8, x) := by rw [g_X_free, if_pos hA_2, if_pos c_12]
      exact W.iret (v := 8) hx hb hr (fun t ht h9 => kNi.of hM ht (by rw [hg]; exact ⟨rfl, hW⟩)) hM.2.2.2.2 dX_free_41
    · refine lv_aload hx hb dX_free_15 (lv_at hl 0 rfl) ?_
      refine lv_ifnull hx hb dX_free_17 ?_
      refine lv_lload_n hx hb dX_free_20 rfl (lv_at hl 4 rfl) ?_
      refine vp_callSi (W.runS (As := [.long (v)]) (rest := []) ⟨hx, hb, hml, hown, hts⟩ (c_X_isAmount l D cI cL cQ d κ _ v) (cwS 1 hts (k_gS tw_216 tw_217 tw_38 tw_218) rfl rfl rfl (by decide +kernel) ⟨Nat.le_of_ble_eq_true rfl, Nat.le_of_ble_eq_true rfl⟩) (kPreS hM.1 hK) rfl rfl hl.1 rfl (lv_room (Nat.le_of_ble_eq_true rfl)) dX_free_21 ⟨Nat.le_of_ble_eq_true rfl, Nat.le_of_ble_eq_true rfl⟩) (fun r_21 e_21 => ?_)
      subst e_21
      refine lv_if_eq (tgt := 39) hx hb dX_free_24 (by decide) (fun c_24 => ?_) (fun c_24 => ?_)
      · refine lv_bipush (v := 8) hx hb dX_free_39 (by decide) ?_
        have hg : g_X_free x p a v = (8, x) := by rw [g_X_free, if_pos hA_2, if_neg c_12, if_pos c_24]
        exact W.iret (v := 8) hx hb hr (fun t ht h9 => kNi.of hM ht (by rw [hg]; exact ⟨rfl, hW⟩)) hM.2.2.2.2 dX_free_41
      · refine lv_lload_n hx hb dX_free_27 rfl (lv_at hl 4 rfl) ?_
        refine lv_aload hx hb dX_free_28 (lv_at hl 0 rfl) ?_
        refine ka_get (v := .ref (d (34 + 3 * (a).toNatClampNeg))) (ci := 0) (C := RA) (T := TA) (N := 4) hx hb hts inA hown hK hM.1 (q := (32 + 3 * (a).toNatClampNeg)) (hW.1.2.2.2.2.2.2.2.2.2.2.2.2.2.2.1 ((a).toNatClampNeg) hi_2).1 rfl 2 (by decide) (hts _ tw_148) (fun _ h9 => h9) rfl dX_free_30 ?_
        refine lv_iload_n hx hb dX_free_33 rfl (lv_at hl 2 rfl) ?_
        refine ka_lald (f := xP x ((a).toNatClampNeg)) hx hb hK hM.1 1 (q := (34 + 3 * (a).toNatClampNeg)) (hW.1.2.2.2.2.2.2.2.2.2.2.2.2.2.2.1 ((a).toNatClampNeg) hi_2).2.2 rfl (by unfold xPl; rw [if_neg hA_2.2]; exact (client_in hB (by assumption))) dX_free_34 ?_
        refine kl_le (tgt := 42) hx hb dX_free_35 dX_free_36 (by decide) (fun c_35 => ?_) (fun c_35 => ?_)
        · refine lv_aload_n hx hb dX_free_42 rfl (lv_at hl 1 rfl) ?_
          refine lv_aload hx hb dX_free_43 (lv_at hl 0 rfl) ?_
          refine lv_iload_n hx hb dX_free_45 rfl (lv_at hl 2 rfl) ?_
          refine lv_aload hx hb dX_free_46 (lv_at hl 0 rfl) ?_
          refine ka_get (v := .ref (d (34 + 3 * (a).toNatClampNeg))) (ci := 0) (C := RA) (T := TA) (N := 4) hx hb hts inA hown hK hM.1 (q := (32 + 3 * (a).toNatClampNeg)) (hW.1.2.2.2.2.2.2.2.2.2.2.2.2.2.2.1 ((a).toNatClampNeg) hi_2).1 rfl 2 (by decide) (hts _ tw_148) (fun _ h9 => h9) rfl dX_free_48 ?_
          refine lv_iload_n hx hb dX_free_51 rfl (lv_at hl 2 rfl) ?_
          refine ka_lald (f := xP x ((a).toNatClampNeg)) hx hb hK hM.1 1 (q := (34 + 3 * (a).toNatClampNeg)) (hW.1.2.2.2.2.2.2.2.2.2.2.2.2.2.2.1 ((a).toNatClampNeg) hi_2).2.2 rfl (by unfold xPl; rw [if_neg hA_2.2]; exact (client_in hB (by assumption))) dX_free_52 ?_
          refine lv_lload_n hx hb dX_free_53 rfl (lv_at hl 4 rfl) ?_
          refine lv_lsub hx hb dX_free_54 ?_
          refine ka_ncalli (W.runV (C := RX) (As := [.ref (d (32 + 3 * (a).toNatClampNeg)), .int (p), .long (((xP x ((a).toNatClampNeg)) (p).toNatClampNeg) - v)]) (rest := []) ⟨hx, hb, hml, hown, hts⟩ (c_X_setPledged l D cI cL cQ d κ x hW.1 hB _ ((a).toNatClampNeg) hi_2 p (((xP x ((a).toNatClampNeg)) (p).toNatClampNeg) - v) (client_in hB (by assumption)) hA_2.2) (cwV 3 hts (k_gV tw_237 tw_239 tw_9 tw_38 tw_240) rfl rfl rfl (by decide +kernel) ⟨Nat.le_of_ble_eq_true rfl, Nat.le_of_ble_eq_true rfl⟩) (kPreV hM.1 hK (q := 18) hW.1.1 rfl) rfl rfl hl.1 rfl (lv_room (Nat.le_of_ble_eq_true rfl)) dX_free_55 ⟨Nat.le_of_ble_eq_true rfl, Nat.le_of_ble_eq_true rfl⟩) hM (fun _ h9 => Or.inr h9) (fun r_55 κ1 H locs h1_55 hM => ?_)
          obtain ⟨er_55, hW1⟩ := h1_55
          subst er_55
          obtain ⟨κ, hM, hW⟩ : ∃ κ', kW D vCl d κ' (kA d κ0 s0.heap.size) s0.heap H locs ∧ XW cI cL cQ κ0 d κ' ((g_X_setPledged x ((a).toNatClampNeg) p (((xP x ((a).toNatClampNeg)) (p).toNatClampNeg) - v)).2) := ⟨κ1, hM, hW.trans hW1⟩
          have hg : g_X_free x p a v = ((g_X_setPledged x ((a).toNatClampNeg) p (((xP x ((a).toNatClampNeg)) (p).toNatClampNeg) - v)).1, (g_X_setPledged x ((a).toNatClampNeg) p (((xP x ((a).toNatClampNeg)) (p).toNatClampNeg) - v)).2) := by rw [g_X_free, if_pos hA_2, if_neg c_12, if_neg c_24, if_neg c_35]
          exact W.iret (v := (g_X_setPledged x ((a).toNatClampNeg) p (((xP x ((a).toNatClampNeg)) (p).toNatClampNeg) - v)).1) hx hb hr (fun t ht h9 => kNi.of hM ht (by rw [hg]; exact ⟨rfl, hW⟩)) hM.2.2.2.2 dX_free_58
        · refine lv_bipush (v := 8) hx hb dX_free_39 (by decide) ?_
          have hg : g_X_free x p a v = (8, x) := by rw [g_X_free, if_pos hA_2, if_neg c_12, if_neg c_24, if_pos c_35]
          exact W.iret (v := 8) hx hb hr (fun t ht h9 => kNi.of hM ht (by rw [hg]; exact ⟨rfl, hW⟩)) hM.2.2.2.2 dX_free_41
  · rw [if_neg hA_2]
    refine lv_astoreN (lv' := [(5, .null), (0, .ref (d 18)), (1, .int (p)), (2, .int (a)), (3, .long (v))]) hx hb dX_free_5 hl (by decide) rfl (fun ls hl => ?_)
    refine lv_aload_n hx hb dX_free_7 rfl (lv_at hl 1 rfl) ?_
    refine lv_iload_n hx hb dX_free_8 rfl (lv_at hl 2 rfl) ?_
    refine vp_callSi (W.runV (C := RX) (As := [.int (p)]) (rest := []) ⟨hx, hb, hml, hown, hts⟩ (c_X_isClient l D cI cL cQ d κ x hW.1 hB _ p) (cwV 1 hts (k_gV tw_212 tw_214 tw_7 tw_38 tw_215) rfl rfl rfl (by decide +kernel) ⟨Nat.le_of_ble_eq_true rfl, Nat.le_of_ble_eq_true rfl⟩) (kPreV hM.1 hK (q := 18) hW.1.1 rfl) rfl rfl hl.1 rfl (lv_room (Nat.le_of_ble_eq_true rfl)) dX_free_9 ⟨Nat.le_of_ble_eq_true rfl, Nat.le_of_ble_eq_true rfl⟩) (fun r_9 e_9 => ?_)
    subst e_9
    refine lv_if_eq (tgt := 39) hx hb dX_free_12 (by decide) (fun c_12 => ?_) (fun c_12 => ?_)
    · refine lv_bipush (v := 8) hx hb dX_free_39 (by decide) ?_
      have hg : g_X_free x p a v = (8, x) := by rw [g_X_free, if_neg hA_2, if_pos c_12]
      exact W.iret (v := 8) hx hb hr (fun t ht h9 => kNi.of hM ht (by rw [hg]; exact ⟨rfl, hW⟩)) hM.2.2.2.2 dX_free_41
    · refine lv_aloadN hx hb dX_free_15 (lv_at hl 0 rfl) ?_
      refine lv_ifnullN (tgt := 39) hx hb dX_free_17 (by decide) ?_
      refine lv_bipush (v := 8) hx hb dX_free_39 (by decide) ?_
      have hg : g_X_free x p a v = (8, x) := by rw [g_X_free, if_neg hA_2, if_neg c_12]
      exact W.iret (v := 8) hx hb hr (fun t ht h9 => kNi.of hM ht (by rw [hg]; exact ⟨rfl, hW⟩)) hM.2.2.2.2 dX_free_41

theorem dX_limit_0 : decode prog_1_method_9_code 0 = .ok (.aload_n 0, 1) := by decide +kernel
theorem dX_limit_1 : decode prog_1_method_9_code 1 = .ok (.iload_n 1, 1) := by decide +kernel
theorem dX_limit_2 : decode prog_1_method_9_code 2 = .ok (.iload_n 2, 1) := by decide +kernel
theorem dX_limit_3 : decode prog_1_method_9_code 3 = .ok (.invokevirtual 110, 3) := by decide +kernel
theorem dX_limit_6 : decode prog_1_method_9_code 6 = .ok (.ifCond .eq 17, 3) := by decide +kernel
theorem dX_limit_9 : decode prog_1_method_9_code 9 = .ok (.lload_n 3, 1) := by decide +kernel
theorem dX_limit_10 : decode prog_1_method_9_code 10 = .ok (.lconst 0, 1) := by decide +kernel
theorem dX_limit_11 : decode prog_1_method_9_code 11 = .ok (.lcmp, 1) := by decide +kernel
theorem dX_limit_12 : decode prog_1_method_9_code 12 = .ok (.ifCond .lt 11, 3) := by decide +kernel
theorem dX_limit_15 : decode prog_1_method_9_code 15 = .ok (.lload_n 3, 1) := by decide +kernel
theorem dX_limit_16 : decode prog_1_method_9_code 16 = .ok (.ldc2_w 114, 3) := by decide +kernel
theorem dX_limit_19 : decode prog_1_method_9_code 19 = .ok (.lcmp, 1) := by decide +kernel
theorem dX_limit_20 : decode prog_1_method_9_code 20 = .ok (.ifCond .le 6, 3) := by decide +kernel
theorem dX_limit_23 : decode prog_1_method_9_code 23 = .ok (.bipush 8, 2) := by decide +kernel
theorem dX_limit_25 : decode prog_1_method_9_code 25 = .ok (.ireturn, 1) := by decide +kernel
theorem dX_limit_26 : decode prog_1_method_9_code 26 = .ok (.lload_n 3, 1) := by decide +kernel
theorem dX_limit_27 : decode prog_1_method_9_code 27 = .ok (.aload_n 0, 1) := by decide +kernel
theorem dX_limit_28 : decode prog_1_method_9_code 28 = .ok (.iload_n 1, 1) := by decide +kernel
theorem dX_limit_29 : decode prog_1_method_9_code 29 = .ok (.iload_n 2, 1) := by decide +kernel
theorem dX_limit_30 : decode prog_1_method_9_code 30 = .ok (.invokevirtual 116, 3) := by decide +kernel
theorem dX_limit_33 : decode prog_1_method_9_code 33 = .ok (.lsub, 1) := by decide +kernel
theorem dX_limit_34 : decode prog_1_method_9_code 34 = .ok (.lconst 0, 1) := by decide +kernel
theorem dX_limit_35 : decode prog_1_method_9_code 35 = .ok (.lcmp, 1) := by decide +kernel
theorem dX_limit_36 : decode prog_1_method_9_code 36 = .ok (.ifCond .ge 6, 3) := by decide +kernel
theorem dX_limit_39 : decode prog_1_method_9_code 39 = .ok (.bipush 9, 2) := by decide +kernel
theorem dX_limit_41 : decode prog_1_method_9_code 41 = .ok (.ireturn, 1) := by decide +kernel
theorem dX_limit_42 : decode prog_1_method_9_code 42 = .ok (.aload_n 0, 1) := by decide +kernel
theorem dX_limit_43 : decode prog_1_method_9_code 43 = .ok (.getfield 41, 3) := by decide +kernel
theorem dX_limit_46 : decode prog_1_method_9_code 46 = .ok (.aload_n 0, 1) := by decide +kernel
theorem dX_limit_47 : decode prog_1_method_9_code 47 = .ok (.iload_n 1, 1) := by decide +kernel
theorem dX_limit_48 : decode prog_1_method_9_code 48 = .ok (.iload_n 2, 1) := by decide +kernel
theorem dX_limit_49 : decode prog_1_method_9_code 49 = .ok (.invokevirtual 120, 3) := by decide +kernel
theorem dX_limit_52 : decode prog_1_method_9_code 52 = .ok (.lload_n 3, 1) := by decide +kernel
theorem dX_limit_53 : decode prog_1_method_9_code 53 = .ok (.invokevirtual 124, 3) := by decide +kernel
theorem dX_limit_56 : decode prog_1_method_9_code 56 = .ok (.ifCond .eq 7, 3) := by decide +kernel
theorem dX_limit_59 : decode prog_1_method_9_code 59 = .ok (.iconst 0, 1) := by decide +kernel
theorem dX_limit_60 : decode prog_1_method_9_code 60 = .ok (.goto 5, 3) := by decide +kernel
theorem dX_limit_63 : decode prog_1_method_9_code 63 = .ok (.bipush 12, 2) := by decide +kernel
theorem dX_limit_65 : decode prog_1_method_9_code 65 = .ok (.ireturn, 1) := by decide +kernel
def g_X_limit (x : XS) (p : Int32) (q : Int32) (v : Int64) : Int32 × XS := if (f_X_areTwoClients x p q) = 0 then (8, x) else (if v < 0 then (8, x) else (if 999999999999999 < v then (8, x) else (if (v - (f_X_paidFrom x p q)) < 0 then (9, x) else (if ((g_P_put 40 (x.1 3) (x.2.2.2.1 0) (x.2.2.2.2.1 1) (f_X_pairOf x p q) v).1) = 0 then (12, xPS21 x (g_P_put 40 (x.1 3) (x.2.2.2.1 0) (x.2.2.2.2.1 1) (f_X_pairOf x p q) v).2) else (0, xPS21 x (g_P_put 40 (x.1 3) (x.2.2.2.1 0) (x.2.2.2.2.1 1) (f_X_pairOf x p q) v).2)))))
set_option maxHeartbeats 4000000 in
set_option maxRecDepth 100000 in
theorem c_X_limit (l : Launch) (D : va_G) (cI cL cQ : ClassId) (d : Nat → Nat) (κ0 : Nat → Option va_E) (x : XS) (hX : IsX cI cL cQ d κ0 x) (hB : XB x) (sz : Nat) (p : Int32) (q : Int32) (v : Int64)  : Met l yX_limit wX_limit { frames := 3, cells := 0, slots := 0, locals := 66 } (va_Pc [.ref (d 18), .int (p), .int (q), .long (v)] (kC D vCl (kT cI cL cQ) d κ0 sz)) (kNi D vCl d (kA d κ0 sz) (fun r κ' => r = (g_X_limit x p q v).1 ∧ XW cI cL cQ κ0 d κ' (g_X_limit x p q v).2)) 0 0 (kA d κ0 sz) := by
  refine kMet (by decide) (Nat.le_of_ble_eq_true rfl) ?_
  intro p0 e0 s0 m0 below0 meth0 c0 hx hb hr hml hown hlocks hin hts hsz hP hK ls hl
  subst hsz
  have hl : lv_has ls 5 [(0, .ref (d 18)), (1, .int (p)), (2, .int (q)), (3, .long (v))] := hl
  have hB9 := hB
  obtain ⟨hb0, hb1, hb2, hb3, hb4, hb5, hb6, hb7, hb8⟩ := hB9
  obtain ⟨κ, hM, hW⟩ : ∃ κ', kW D vCl d κ' (kA d κ0 s0.heap.size) s0.heap s0.heap [] ∧ XW cI cL cQ κ0 d κ' x := ⟨κ0, kW.start hP, ⟨hX, fun _ _ => rfl⟩⟩
  refine lv_aload_n hx hb dX_limit_0 rfl (lv_at hl 0 rfl) ?_
  refine lv_iload_n hx hb dX_limit_1 rfl (lv_at hl 1 rfl) ?_
  refine lv_iload_n hx hb dX_limit_2 rfl (lv_at hl 2 rfl) ?_
  refine vp_callSi (W.runV (C := RX) (As := [.int (p), .int (q)]) (rest := []) ⟨hx, hb, hml, hown, hts⟩ (c_X_areTwoClients l D cI cL cQ d κ x hW.1 hB _ p q) (cwV 2 hts (k_gV tw_249 tw_251 tw_10 tw_38 tw_252) rfl rfl rfl (by decide +kernel) ⟨Nat.le_of_ble_eq_true rfl, Nat.le_of_ble_eq_true rfl⟩) (kPreV hM.1 hK (q := 18) hW.1.1 rfl) rfl rfl hl.1 rfl (lv_room (Nat.le_of_ble_eq_true rfl)) dX_limit_3 ⟨Nat.le_of_ble_eq_true rfl, Nat.le_of_ble_eq_true rfl⟩) (fun r_3 e_3 => ?_)
  subst e_3
  refine lv_if_eq (tgt := 23) hx hb dX_limit_6 (by decide) (fun c_6 => ?_) (fun c_6 => ?_)
  · refine lv_bipush (v := 8) hx hb dX_limit_23 (by decide) ?_
    have hg : g_X_limit x p q v = (8, x) := by rw [g_X_limit, if_pos c_6]
    exact W.iret (v := 8) hx hb hr (fun t ht h9 => kNi.of hM ht (by rw [hg]; exact ⟨rfl, hW⟩)) hM.2.2.2.2 dX_limit_25
  · refine lv_lload_n hx hb dX_limit_9 rfl (lv_at hl 3 rfl) ?_
    refine lv_lconst (v := 0) hx hb dX_limit_10 (by decide) ?_
    refine kl_lt (tgt := 23) hx hb dX_limit_11 dX_limit_12 (by decide) (fun c_11 => ?_) (fun c_11 => ?_)
    · refine lv_bipush (v := 8) hx hb dX_limit_23 (by decide) ?_
      have hg : g_X_limit x p q v = (8, x) := by rw [g_X_limit, if_neg c_6, if_pos c_11]
      exact W.iret (v := 8) hx hb hr (fun t ht h9 => kNi.of hM ht (by rw [hg]; exact ⟨rfl, hW⟩)) hM.2.2.2.2 dX_limit_25
    · refine lv_lload_n hx hb dX_limit_15 rfl (lv_at hl 3 rfl) ?_
      refine lv_ldc2 (v := 999999999999999) hx hb hown (hts _ tw_167) dX_limit_16 ?_
      refine kl_le (tgt := 26) hx hb dX_limit_19 dX_limit_20 (by decide) (fun c_19 => ?_) (fun c_19 => ?_)
      · refine lv_lload_n hx hb dX_limit_26 rfl (lv_at hl 3 rfl) ?_
        refine lv_aload_n hx hb dX_limit_27 rfl (lv_at hl 0 rfl) ?_
        refine lv_iload_n hx hb dX_limit_28 rfl (lv_at hl 1 rfl) ?_
        refine lv_iload_n hx hb dX_limit_29 rfl (lv_at hl 2 rfl) ?_
        refine vp_callSl (W.runV (C := RX) (As := [.int (p), .int (q)]) (rest := [.long (v)]) ⟨hx, hb, hml, hown, hts⟩ (c_X_paidFrom l D cI cL cQ d κ x hW.1 hB _ p q) (cwV 2 hts (k_gV tw_253 tw_255 tw_11 tw_38 tw_256) rfl rfl rfl (by decide +kernel) ⟨Nat.le_of_ble_eq_true rfl, Nat.le_of_ble_eq_true rfl⟩) (kPreV hM.1 hK (q := 18) hW.1.1 rfl) rfl rfl hl.1 rfl (lv_room (Nat.le_of_ble_eq_true rfl)) dX_limit_30 ⟨Nat.le_of_ble_eq_true rfl, Nat.le_of_ble_eq_true rfl⟩) (fun r_30 e_30 => ?_)
        subst e_30
        refine lv_lsub hx hb dX_limit_33 ?_
        refine lv_lconst (v := 0) hx hb dX_limit_34 (by decide) ?_
        refine kl_ge (tgt := 42) hx hb dX_limit_35 dX_limit_36 (by decide) (fun c_35 => ?_) (fun c_35 => ?_)
        · refine lv_aload_n hx hb dX_limit_42 rfl (lv_at hl 0 rfl) ?_
          refine ka_get (v := .ref (d 21)) (ci := 3) (C := RX) (T := TX) (N := 10) hx hb hts inX hown hK hM.1 (q := 18) hW.1.1 rfl 7 (by decide) (hts _ tw_106) (fun _ h9 => h9) rfl dX_limit_43 ?_
          refine lv_aload_n hx hb dX_limit_46 rfl (lv_at hl 0 rfl) ?_
          refine lv_iload_n hx hb dX_limit_47 rfl (lv_at hl 1 rfl) ?_
          refine lv_iload_n hx hb dX_limit_48 rfl (lv_at hl 2 rfl) ?_
          refine vp_callSi (W.runV (C := RX) (As := [.int (p), .int (q)]) (rest := [.ref (d 21)]) ⟨hx, hb, hml, hown, hts⟩ (c_X_pairOf l D cI cL cQ d κ x hW.1 hB _ p q) (cwV 2 hts (k_gV tw_257 tw_259 tw_12 tw_38 tw_260) rfl rfl rfl (by decide +kernel) ⟨Nat.le_of_ble_eq_true rfl, Nat.le_of_ble_eq_true rfl⟩) (kPreV hM.1 hK (q := 18) hW.1.1 rfl) rfl rfl hl.1 rfl (lv_room (Nat.le_of_ble_eq_true rfl)) dX_limit_49 ⟨Nat.le_of_ble_eq_true rfl, Nat.le_of_ble_eq_true rfl⟩) (fun r_49 e_49 => ?_)
          subst e_49
          refine lv_lload_n hx hb dX_limit_52 rfl (lv_at hl 3 rfl) ?_
          refine ka_ncalli (W.runV (C := RP) (As := [.int (f_X_pairOf x p q), .long (v)]) (rest := []) ⟨hx, hb, hml, hown, hts⟩ (c_P_put l D cI cL cQ d κ 21 40 (x.1 3) (x.2.2.2.1 0) (x.2.2.2.2.1 1) ⟨hW.1.2.2.2.1, hW.1.2.2.2.2.1, hW.1.2.2.2.2.2.1⟩ (by omega) (by decide) _ (f_X_pairOf x p q) v) (cwV 2 hts (k_gV tw_269 tw_270 tw_271 tw_39 tw_272) rfl rfl rfl (by decide +kernel) ⟨Nat.le_of_ble_eq_true rfl, Nat.le_of_ble_eq_true rfl⟩) (kPreV hM.1 hK (q := 21) hW.1.2.2.2.1 rfl) rfl rfl hl.1 rfl (lv_room (Nat.le_of_ble_eq_true rfl)) dX_limit_53 ⟨Nat.le_of_ble_eq_true rfl, Nat.le_of_ble_eq_true rfl⟩) hM (fun _ h9 => Or.inr h9) (fun r_53 κ1 H locs h1_53 hM => ?_)
          obtain ⟨er_53, hW1⟩ := h1_53
          subst er_53
          obtain ⟨κ, hM, hW⟩ : ∃ κ', kW D vCl d κ' (kA d κ0 s0.heap.size) s0.heap H locs ∧ XW cI cL cQ κ0 d κ' (xPS21 x (g_P_put 40 (x.1 3) (x.2.2.2.1 0) (x.2.2.2.2.1 1) (f_X_pairOf x p q) v).2) := ⟨κ1, hM, hW.ofP21 hW1⟩
          refine lv_if_eq (tgt := 63) hx hb dX_limit_56 (by decide) (fun c_56 => ?_) (fun c_56 => ?_)
          · refine lv_bipush (v := 12) hx hb dX_limit_63 (by decide) ?_
            have hg : g_X_limit x p q v = (12, xPS21 x (g_P_put 40 (x.1 3) (x.2.2.2.1 0) (x.2.2.2.2.1 1) (f_X_pairOf x p q) v).2) := by rw [g_X_limit, if_neg c_6, if_neg c_11, if_neg c_19, if_neg c_35, if_pos c_56]
            exact W.iret (v := 12) hx hb hr (fun t ht h9 => kNi.of hM ht (by rw [hg]; exact ⟨rfl, hW⟩)) hM.2.2.2.2 dX_limit_65
          · refine lv_iconst (v := 0) hx hb dX_limit_59 (by decide) ?_
            refine lv_goto (tgt := 65) hx hb dX_limit_60 (by decide) ?_
            have hg : g_X_limit x p q v = (0, xPS21 x (g_P_put 40 (x.1 3) (x.2.2.2.1 0) (x.2.2.2.2.1 1) (f_X_pairOf x p q) v).2) := by rw [g_X_limit, if_neg c_6, if_neg c_11, if_neg c_19, if_neg c_35, if_neg c_56]
            exact W.iret (v := 0) hx hb hr (fun t ht h9 => kNi.of hM ht (by rw [hg]; exact ⟨rfl, hW⟩)) hM.2.2.2.2 dX_limit_65
        · refine lv_bipush (v := 9) hx hb dX_limit_39 (by decide) ?_
          have hg : g_X_limit x p q v = (9, x) := by rw [g_X_limit, if_neg c_6, if_neg c_11, if_neg c_19, if_pos c_35]
          exact W.iret (v := 9) hx hb hr (fun t ht h9 => kNi.of hM ht (by rw [hg]; exact ⟨rfl, hW⟩)) hM.2.2.2.2 dX_limit_41
      · refine lv_bipush (v := 8) hx hb dX_limit_23 (by decide) ?_
        have hg : g_X_limit x p q v = (8, x) := by rw [g_X_limit, if_neg c_6, if_neg c_11, if_pos c_19]
        exact W.iret (v := 8) hx hb hr (fun t ht h9 => kNi.of hM ht (by rw [hg]; exact ⟨rfl, hW⟩)) hM.2.2.2.2 dX_limit_25

theorem dX_open_0 : decode prog_1_method_10_code 0 = .ok (.aload_n 0, 1) := by decide +kernel
theorem dX_open_1 : decode prog_1_method_10_code 1 = .ok (.iload_n 1, 1) := by decide +kernel
theorem dX_open_2 : decode prog_1_method_10_code 2 = .ok (.iload_n 2, 1) := by decide +kernel
theorem dX_open_3 : decode prog_1_method_10_code 3 = .ok (.invokevirtual 110, 3) := by decide +kernel
theorem dX_open_6 : decode prog_1_method_10_code 6 = .ok (.ifCond .ne 6, 3) := by decide +kernel
theorem dX_open_9 : decode prog_1_method_10_code 9 = .ok (.bipush 8, 2) := by decide +kernel
theorem dX_open_11 : decode prog_1_method_10_code 11 = .ok (.ireturn, 1) := by decide +kernel
theorem dX_open_12 : decode prog_1_method_10_code 12 = .ok (.aload_n 0, 1) := by decide +kernel
theorem dX_open_13 : decode prog_1_method_10_code 13 = .ok (.getfield 41, 3) := by decide +kernel
theorem dX_open_16 : decode prog_1_method_10_code 16 = .ok (.aload_n 0, 1) := by decide +kernel
theorem dX_open_17 : decode prog_1_method_10_code 17 = .ok (.iload_n 1, 1) := by decide +kernel
theorem dX_open_18 : decode prog_1_method_10_code 18 = .ok (.iload_n 2, 1) := by decide +kernel
theorem dX_open_19 : decode prog_1_method_10_code 19 = .ok (.invokevirtual 120, 3) := by decide +kernel
theorem dX_open_22 : decode prog_1_method_10_code 22 = .ok (.invokevirtual 128, 3) := by decide +kernel
theorem dX_open_25 : decode prog_1_method_10_code 25 = .ok (.ifCond .eq 7, 3) := by decide +kernel
theorem dX_open_28 : decode prog_1_method_10_code 28 = .ok (.iconst 0, 1) := by decide +kernel
theorem dX_open_29 : decode prog_1_method_10_code 29 = .ok (.goto 5, 3) := by decide +kernel
theorem dX_open_32 : decode prog_1_method_10_code 32 = .ok (.bipush 8, 2) := by decide +kernel
theorem dX_open_34 : decode prog_1_method_10_code 34 = .ok (.ireturn, 1) := by decide +kernel
def g_X_open (x : XS) (p : Int32) (q : Int32) : Int32 × XS := if (f_X_areTwoClients x p q) = 0 then (8, x) else (if ((g_P_remove 40 (x.1 3) (x.2.2.2.1 0) (x.2.2.2.2.1 1) (f_X_pairOf x p q)).1) = 0 then (8, xPS21 x (g_P_remove 40 (x.1 3) (x.2.2.2.1 0) (x.2.2.2.2.1 1) (f_X_pairOf x p q)).2) else (0, xPS21 x (g_P_remove 40 (x.1 3) (x.2.2.2.1 0) (x.2.2.2.2.1 1) (f_X_pairOf x p q)).2))
set_option maxHeartbeats 4000000 in
set_option maxRecDepth 100000 in
theorem c_X_open (l : Launch) (D : va_G) (cI cL cQ : ClassId) (d : Nat → Nat) (κ0 : Nat → Option va_E) (x : XS) (hX : IsX cI cL cQ d κ0 x) (hB : XB x) (sz : Nat) (p : Int32) (q : Int32)  : Met l yX_open wX_open { frames := 2, cells := 0, slots := 0, locals := 44 } (va_Pc [.ref (d 18), .int (p), .int (q)] (kC D vCl (kT cI cL cQ) d κ0 sz)) (kNi D vCl d (kA d κ0 sz) (fun r κ' => r = (g_X_open x p q).1 ∧ XW cI cL cQ κ0 d κ' (g_X_open x p q).2)) 0 0 (kA d κ0 sz) := by
  refine kMet (by decide) (Nat.le_of_ble_eq_true rfl) ?_
  intro p0 e0 s0 m0 below0 meth0 c0 hx hb hr hml hown hlocks hin hts hsz hP hK ls hl
  subst hsz
  have hl : lv_has ls 3 [(0, .ref (d 18)), (1, .int (p)), (2, .int (q))] := hl
  have hB9 := hB
  obtain ⟨hb0, hb1, hb2, hb3, hb4, hb5, hb6, hb7, hb8⟩ := hB9
  obtain ⟨κ, hM, hW⟩ : ∃ κ', kW D vCl d κ' (kA d κ0 s0.heap.size) s0.heap s0.heap [] ∧ XW cI cL cQ κ0 d κ' x := ⟨κ0, kW.start hP, ⟨hX, fun _ _ => rfl⟩⟩
  refine lv_aload_n hx hb dX_open_0 rfl (lv_at hl 0 rfl) ?_
  refine lv_iload_n hx hb dX_open_1 rfl (lv_at hl 1 rfl) ?_
  refine lv_iload_n hx hb dX_open_2 rfl (lv_at hl 2 rfl) ?_
  refine vp_callSi (W.runV (C := RX) (As := [.int (p), .int (q)]) (rest := []) ⟨hx, hb, hml, hown, hts⟩ (c_X_areTwoClients l D cI cL cQ d κ x hW.1 hB _ p q) (cwV 2 hts (k_gV tw_249 tw_251 tw_10 tw_38 tw_252) rfl rfl rfl (by decide +kernel) ⟨Nat.le_of_ble_eq_true rfl, Nat.le_of_ble_eq_true rfl⟩) (kPreV hM.1 hK (q := 18) hW.1.1 rfl) rfl rfl hl.1 rfl (lv_room (Nat.le_of_ble_eq_true rfl)) dX_open_3 ⟨Nat.le_of_ble_eq_true rfl, Nat.le_of_ble_eq_true rfl⟩) (fun r_3 e_3 => ?_)
  subst e_3
  refine lv_if_ne (tgt := 12) hx hb dX_open_6 (by decide) (fun c_6 => ?_) (fun c_6 => ?_)
  · refine lv_aload_n hx hb dX_open_12 rfl (lv_at hl 0 rfl) ?_
    refine ka_get (v := .ref (d 21)) (ci := 3) (C := RX) (T := TX) (N := 10) hx hb hts inX hown hK hM.1 (q := 18) hW.1.1 rfl 7 (by decide) (hts _ tw_106) (fun _ h9 => h9) rfl dX_open_13 ?_
    refine lv_aload_n hx hb dX_open_16 rfl (lv_at hl 0 rfl) ?_
    refine lv_iload_n hx hb dX_open_17 rfl (lv_at hl 1 rfl) ?_
    refine lv_iload_n hx hb dX_open_18 rfl (lv_at hl 2 rfl) ?_
    refine vp_callSi (W.runV (C := RX) (As := [.int (p), .int (q)]) (rest := [.ref (d 21)]) ⟨hx, hb, hml, hown, hts⟩ (c_X_pairOf l D cI cL cQ d κ x hW.1 hB _ p q) (cwV 2 hts (k_gV tw_257 tw_259 tw_12 tw_38 tw_260) rfl rfl rfl (by decide +kernel) ⟨Nat.le_of_ble_eq_true rfl, Nat.le_of_ble_eq_true rfl⟩) (kPreV hM.1 hK (q := 18) hW.1.1 rfl) rfl rfl hl.1 rfl (lv_room (Nat.le_of_ble_eq_true rfl)) dX_open_19 ⟨Nat.le_of_ble_eq_true rfl, Nat.le_of_ble_eq_true rfl⟩) (fun r_19 e_19 => ?_)
    subst e_19
    refine ka_ncalli (W.runV (C := RP) (As := [.int (f_X_pairOf x p q)]) (rest := []) ⟨hx, hb, hml, hown, hts⟩ (c_P_remove l D cI cL cQ d κ 21 40 (x.1 3) (x.2.2.2.1 0) (x.2.2.2.2.1 1) ⟨hW.1.2.2.2.1, hW.1.2.2.2.2.1, hW.1.2.2.2.2.2.1⟩ (by omega) (by decide) _ (f_X_pairOf x p q)) (cwV 1 hts (k_gV tw_277 tw_278 tw_279 tw_39 tw_280) rfl rfl rfl (by decide +kernel) ⟨Nat.le_of_ble_eq_true rfl, Nat.le_of_ble_eq_true rfl⟩) (kPreV hM.1 hK (q := 21) hW.1.2.2.2.1 rfl) rfl rfl hl.1 rfl (lv_room (Nat.le_of_ble_eq_true rfl)) dX_open_22 ⟨Nat.le_of_ble_eq_true rfl, Nat.le_of_ble_eq_true rfl⟩) hM (fun _ h9 => Or.inr h9) (fun r_22 κ1 H locs h1_22 hM => ?_)
    obtain ⟨er_22, hW1⟩ := h1_22
    subst er_22
    obtain ⟨κ, hM, hW⟩ : ∃ κ', kW D vCl d κ' (kA d κ0 s0.heap.size) s0.heap H locs ∧ XW cI cL cQ κ0 d κ' (xPS21 x (g_P_remove 40 (x.1 3) (x.2.2.2.1 0) (x.2.2.2.2.1 1) (f_X_pairOf x p q)).2) := ⟨κ1, hM, hW.ofP21 hW1⟩
    refine lv_if_eq (tgt := 32) hx hb dX_open_25 (by decide) (fun c_25 => ?_) (fun c_25 => ?_)
    · refine lv_bipush (v := 8) hx hb dX_open_32 (by decide) ?_
      have hg : g_X_open x p q = (8, xPS21 x (g_P_remove 40 (x.1 3) (x.2.2.2.1 0) (x.2.2.2.2.1 1) (f_X_pairOf x p q)).2) := by rw [g_X_open, if_neg c_6, if_pos c_25]
      exact W.iret (v := 8) hx hb hr (fun t ht h9 => kNi.of hM ht (by rw [hg]; exact ⟨rfl, hW⟩)) hM.2.2.2.2 dX_open_34
    · refine lv_iconst (v := 0) hx hb dX_open_28 (by decide) ?_
      refine lv_goto (tgt := 34) hx hb dX_open_29 (by decide) ?_
      have hg : g_X_open x p q = (0, xPS21 x (g_P_remove 40 (x.1 3) (x.2.2.2.1 0) (x.2.2.2.2.1 1) (f_X_pairOf x p q)).2) := by rw [g_X_open, if_neg c_6, if_neg c_25]
      exact W.iret (v := 0) hx hb hr (fun t ht h9 => kNi.of hM ht (by rw [hg]; exact ⟨rfl, hW⟩)) hM.2.2.2.2 dX_open_34
  · refine lv_bipush (v := 8) hx hb dX_open_9 (by decide) ?_
    have hg : g_X_open x p q = (8, x) := by rw [g_X_open, if_pos c_6]
    exact W.iret (v := 8) hx hb hr (fun t ht h9 => kNi.of hM ht (by rw [hg]; exact ⟨rfl, hW⟩)) hM.2.2.2.2 dX_open_11

theorem dX_leg_0 : decode prog_1_method_12_code 0 = .ok (.aload_n 0, 1) := by decide +kernel
theorem dX_leg_1 : decode prog_1_method_12_code 1 = .ok (.iload_n 1, 1) := by decide +kernel
theorem dX_leg_2 : decode prog_1_method_12_code 2 = .ok (.iload_n 2, 1) := by decide +kernel
theorem dX_leg_3 : decode prog_1_method_12_code 3 = .ok (.invokevirtual 110, 3) := by decide +kernel
theorem dX_leg_6 : decode prog_1_method_12_code 6 = .ok (.ifCond .eq 19, 3) := by decide +kernel
theorem dX_leg_9 : decode prog_1_method_12_code 9 = .ok (.aload_n 0, 1) := by decide +kernel
theorem dX_leg_10 : decode prog_1_method_12_code 10 = .ok (.iload_n 3, 1) := by decide +kernel
theorem dX_leg_11 : decode prog_1_method_12_code 11 = .ok (.invokevirtual 79, 3) := by decide +kernel
theorem dX_leg_14 : decode prog_1_method_12_code 14 = .ok (.ifnull 11, 3) := by decide +kernel
theorem dX_leg_17 : decode prog_1_method_12_code 17 = .ok (.lload 4, 2) := by decide +kernel
theorem dX_leg_19 : decode prog_1_method_12_code 19 = .ok (.invokestatic 86, 3) := by decide +kernel
theorem dX_leg_22 : decode prog_1_method_12_code 22 = .ok (.ifCond .ne 6, 3) := by decide +kernel
theorem dX_leg_25 : decode prog_1_method_12_code 25 = .ok (.bipush 8, 2) := by decide +kernel
theorem dX_leg_27 : decode prog_1_method_12_code 27 = .ok (.ireturn, 1) := by decide +kernel
theorem dX_leg_28 : decode prog_1_method_12_code 28 = .ok (.aload_n 0, 1) := by decide +kernel
theorem dX_leg_29 : decode prog_1_method_12_code 29 = .ok (.getfield 51, 3) := by decide +kernel
theorem dX_leg_32 : decode prog_1_method_12_code 32 = .ok (.iload_n 1, 1) := by decide +kernel
theorem dX_leg_33 : decode prog_1_method_12_code 33 = .ok (.iload_n 2, 1) := by decide +kernel
theorem dX_leg_34 : decode prog_1_method_12_code 34 = .ok (.iload_n 3, 1) := by decide +kernel
theorem dX_leg_35 : decode prog_1_method_12_code 35 = .ok (.lload 4, 2) := by decide +kernel
theorem dX_leg_37 : decode prog_1_method_12_code 37 = .ok (.invokevirtual 134, 3) := by decide +kernel
theorem dX_leg_40 : decode prog_1_method_12_code 40 = .ok (.ifCond .eq 7, 3) := by decide +kernel
theorem dX_leg_43 : decode prog_1_method_12_code 43 = .ok (.iconst 0, 1) := by decide +kernel
theorem dX_leg_44 : decode prog_1_method_12_code 44 = .ok (.goto 5, 3) := by decide +kernel
theorem dX_leg_47 : decode prog_1_method_12_code 47 = .ok (.bipush 12, 2) := by decide +kernel
theorem dX_leg_49 : decode prog_1_method_12_code 49 = .ok (.ireturn, 1) := by decide +kernel
def g_X_leg (x : XS) (fr : Int32) (to : Int32) (a : Int32) (v : Int64) : Int32 × XS := if (f_X_areTwoClients x fr to) = 0 then (8, x) else (if xIs x a then (if (f_X_isAmount v) = 0 then (8, x) else (if ((g_G_add x fr to a v).1) = 0 then (12, (g_G_add x fr to a v).2) else (0, (g_G_add x fr to a v).2))) else (8, x))
set_option maxHeartbeats 4000000 in
set_option maxRecDepth 100000 in
theorem c_X_leg (l : Launch) (D : va_G) (cI cL cQ : ClassId) (d : Nat → Nat) (κ0 : Nat → Option va_E) (x : XS) (hX : IsX cI cL cQ d κ0 x) (hB : XB x) (sz : Nat) (fr : Int32) (to : Int32) (a : Int32) (v : Int64)  : Met l yX_leg wX_leg { frames := 2, cells := 0, slots := 0, locals := 43 } (va_Pc [.ref (d 18), .int (fr), .int (to), .int (a), .long (v)] (kC D vCl (kT cI cL cQ) d κ0 sz)) (kNi D vCl d (kA d κ0 sz) (fun r κ' => r = (g_X_leg x fr to a v).1 ∧ XW cI cL cQ κ0 d κ' (g_X_leg x fr to a v).2)) 0 0 (kA d κ0 sz) := by
  refine kMet (by decide) (Nat.le_of_ble_eq_true rfl) ?_
  intro p0 e0 s0 m0 below0 meth0 c0 hx hb hr hml hown hlocks hin hts hsz hP hK ls hl
  subst hsz
  have hl : lv_has ls 6 [(0, .ref (d 18)), (1, .int (fr)), (2, .int (to)), (3, .int (a)), (4, .long (v))] := hl
  have hB9 := hB
  obtain ⟨hb0, hb1, hb2, hb3, hb4, hb5, hb6, hb7, hb8⟩ := hB9
  obtain ⟨κ, hM, hW⟩ : ∃ κ', kW D vCl d κ' (kA d κ0 s0.heap.size) s0.heap s0.heap [] ∧ XW cI cL cQ κ0 d κ' x := ⟨κ0, kW.start hP, ⟨hX, fun _ _ => rfl⟩⟩
  refine lv_aload_n hx hb dX_leg_0 rfl (lv_at hl 0 rfl) ?_
  refine lv_iload_n hx hb dX_leg_1 rfl (lv_at hl 1 rfl) ?_
  refine lv_iload_n hx hb dX_leg_2 rfl (lv_at hl 2 rfl) ?_
  refine vp_callSi (W.runV (C := RX) (As := [.int (fr), .int (to)]) (rest := []) ⟨hx, hb, hml, hown, hts⟩ (c_X_areTwoClients l D cI cL cQ d κ x hW.1 hB _ fr to) (cwV 2 hts (k_gV tw_249 tw_251 tw_10 tw_38 tw_252) rfl rfl rfl (by decide +kernel) ⟨Nat.le_of_ble_eq_true rfl, Nat.le_of_ble_eq_true rfl⟩) (kPreV hM.1 hK (q := 18) hW.1.1 rfl) rfl rfl hl.1 rfl (lv_room (Nat.le_of_ble_eq_true rfl)) dX_leg_3 ⟨Nat.le_of_ble_eq_true rfl, Nat.le_of_ble_eq_true rfl⟩) (fun r_3 e_3 => ?_)
  subst e_3
  refine lv_if_eq (tgt := 25) hx hb dX_leg_6 (by decide) (fun c_6 => ?_) (fun c_6 => ?_)
  · refine lv_bipush (v := 8) hx hb dX_leg_25 (by decide) ?_
    have hg : g_X_leg x fr to a v = (8, x) := by rw [g_X_leg, if_pos c_6]
    exact W.iret (v := 8) hx hb hr (fun t ht h9 => kNi.of hM ht (by rw [hg]; exact ⟨rfl, hW⟩)) hM.2.2.2.2 dX_leg_27
  · refine lv_aload_n hx hb dX_leg_9 rfl (lv_at hl 0 rfl) ?_
    refine lv_iload_n hx hb dX_leg_10 rfl (lv_at hl 3 rfl) ?_
    refine va_csq (W.runV (C := RX) (As := [.int (a)]) (rest := []) ⟨hx, hb, hml, hown, hts⟩ (c_X_assetAt l D cI cL cQ d κ x hW.1 hB _ a) (cwV 1 hts (k_gV tw_179 tw_181 tw_2 tw_38 tw_182) rfl rfl rfl (by decide +kernel) ⟨Nat.le_of_ble_eq_true rfl, Nat.le_of_ble_eq_true rfl⟩) (kPreV hM.1 hK (q := 18) hW.1.1 rfl) rfl rfl hl.1 rfl (lv_room (Nat.le_of_ble_eq_true rfl)) dX_leg_11 ⟨Nat.le_of_ble_eq_true rfl, Nat.le_of_ble_eq_true rfl⟩) (fun r_11 e_11 => ?_)
    subst e_11
    by_cases hA_11 : xIs x a
    · rw [if_pos hA_11]
      have hi_11 : (a).toNatClampNeg < x.1 2 := (xIs_in hB hA_11).2
      refine lv_ifnull hx hb dX_leg_14 ?_
      refine lv_lload hx hb dX_leg_17 (lv_at hl 4 rfl) ?_
      refine vp_callSi (W.runS (As := [.long (v)]) (rest := []) ⟨hx, hb, hml, hown, hts⟩ (c_X_isAmount l D cI cL cQ d κ _ v) (cwS 1 hts (k_gS tw_216 tw_217 tw_38 tw_218) rfl rfl rfl (by decide +kernel) ⟨Nat.le_of_ble_eq_true rfl, Nat.le_of_ble_eq_true rfl⟩) (kPreS hM.1 hK) rfl rfl hl.1 rfl (lv_room (Nat.le_of_ble_eq_true rfl)) dX_leg_19 ⟨Nat.le_of_ble_eq_true rfl, Nat.le_of_ble_eq_true rfl⟩) (fun r_19 e_19 => ?_)
      subst e_19
      refine lv_if_ne (tgt := 28) hx hb dX_leg_22 (by decide) (fun c_22 => ?_) (fun c_22 => ?_)
      · refine lv_aload_n hx hb dX_leg_28 rfl (lv_at hl 0 rfl) ?_
        refine ka_get (v := .ref (d 27)) (ci := 3) (C := RX) (T := TX) (N := 10) hx hb hts inX hown hK hM.1 (q := 18) hW.1.1 rfl 9 (by decide) (hts _ tw_108) (fun _ h9 => h9) rfl dX_leg_29 ?_
        refine lv_iload_n hx hb dX_leg_32 rfl (lv_at hl 1 rfl) ?_
        refine lv_iload_n hx hb dX_leg_33 rfl (lv_at hl 2 rfl) ?_
        refine lv_iload_n hx hb dX_leg_34 rfl (lv_at hl 3 rfl) ?_
        refine lv_lload hx hb dX_leg_35 (lv_at hl 4 rfl) ?_
        refine ka_ncalli (W.runV (C := RG) (As := [.int (fr), .int (to), .int (a), .long (v)]) (rest := []) ⟨hx, hb, hml, hown, hts⟩ (c_G_add l D cI cL cQ d κ x hW.1 hB _ fr to a v) (cwV 4 hts (k_gV tw_293 tw_294 tw_295 tw_40 tw_296) rfl rfl rfl (by decide +kernel) ⟨Nat.le_of_ble_eq_true rfl, Nat.le_of_ble_eq_true rfl⟩) (kPreV hM.1 hK (q := 27) hW.1.2.2.2.2.2.2.2.2.2.1 rfl) rfl rfl hl.1 rfl (lv_room (Nat.le_of_ble_eq_true rfl)) dX_leg_37 ⟨Nat.le_of_ble_eq_true rfl, Nat.le_of_ble_eq_true rfl⟩) hM (fun _ h9 => Or.inr h9) (fun r_37 κ1 H locs h1_37 hM => ?_)
        obtain ⟨er_37, hW1⟩ := h1_37
        subst er_37
        obtain ⟨κ, hM, hW⟩ : ∃ κ', kW D vCl d κ' (kA d κ0 s0.heap.size) s0.heap H locs ∧ XW cI cL cQ κ0 d κ' ((g_G_add x fr to a v).2) := ⟨κ1, hM, hW.trans hW1⟩
        refine lv_if_eq (tgt := 47) hx hb dX_leg_40 (by decide) (fun c_40 => ?_) (fun c_40 => ?_)
        · refine lv_bipush (v := 12) hx hb dX_leg_47 (by decide) ?_
          have hg : g_X_leg x fr to a v = (12, (g_G_add x fr to a v).2) := by rw [g_X_leg, if_neg c_6, if_pos hA_11, if_neg c_22, if_pos c_40]
          exact W.iret (v := 12) hx hb hr (fun t ht h9 => kNi.of hM ht (by rw [hg]; exact ⟨rfl, hW⟩)) hM.2.2.2.2 dX_leg_49
        · refine lv_iconst (v := 0) hx hb dX_leg_43 (by decide) ?_
          refine lv_goto (tgt := 49) hx hb dX_leg_44 (by decide) ?_
          have hg : g_X_leg x fr to a v = (0, (g_G_add x fr to a v).2) := by rw [g_X_leg, if_neg c_6, if_pos hA_11, if_neg c_22, if_neg c_40]
          exact W.iret (v := 0) hx hb hr (fun t ht h9 => kNi.of hM ht (by rw [hg]; exact ⟨rfl, hW⟩)) hM.2.2.2.2 dX_leg_49
      · refine lv_bipush (v := 8) hx hb dX_leg_25 (by decide) ?_
        have hg : g_X_leg x fr to a v = (8, x) := by rw [g_X_leg, if_neg c_6, if_pos hA_11, if_pos c_22]
        exact W.iret (v := 8) hx hb hr (fun t ht h9 => kNi.of hM ht (by rw [hg]; exact ⟨rfl, hW⟩)) hM.2.2.2.2 dX_leg_27
    · rw [if_neg hA_11]
      refine lv_ifnullN (tgt := 25) hx hb dX_leg_14 (by decide) ?_
      refine lv_bipush (v := 8) hx hb dX_leg_25 (by decide) ?_
      have hg : g_X_leg x fr to a v = (8, x) := by rw [g_X_leg, if_neg c_6, if_neg hA_11]
      exact W.iret (v := 8) hx hb hr (fun t ht h9 => kNi.of hM ht (by rw [hg]; exact ⟨rfl, hW⟩)) hM.2.2.2.2 dX_leg_27

theorem dX_addPaid_0 : decode prog_1_method_41_code 0 = .ok (.iload_n 1, 1) := by decide +kernel
theorem dX_addPaid_1 : decode prog_1_method_41_code 1 = .ok (.iload_n 2, 1) := by decide +kernel
theorem dX_addPaid_2 : decode prog_1_method_41_code 2 = .ok (.if_icmp .ge 12, 3) := by decide +kernel
theorem dX_addPaid_5 : decode prog_1_method_41_code 5 = .ok (.aload_n 0, 1) := by decide +kernel
theorem dX_addPaid_6 : decode prog_1_method_41_code 6 = .ok (.iload_n 1, 1) := by decide +kernel
theorem dX_addPaid_7 : decode prog_1_method_41_code 7 = .ok (.iload_n 2, 1) := by decide +kernel
theorem dX_addPaid_8 : decode prog_1_method_41_code 8 = .ok (.invokevirtual 120, 3) := by decide +kernel
theorem dX_addPaid_11 : decode prog_1_method_41_code 11 = .ok (.goto 9, 3) := by decide +kernel
theorem dX_addPaid_14 : decode prog_1_method_41_code 14 = .ok (.aload_n 0, 1) := by decide +kernel
theorem dX_addPaid_15 : decode prog_1_method_41_code 15 = .ok (.iload_n 2, 1) := by decide +kernel
theorem dX_addPaid_16 : decode prog_1_method_41_code 16 = .ok (.iload_n 1, 1) := by decide +kernel
theorem dX_addPaid_17 : decode prog_1_method_41_code 17 = .ok (.invokevirtual 120, 3) := by decide +kernel
theorem dX_addPaid_20 : decode prog_1_method_41_code 20 = .ok (.istore 5, 2) := by decide +kernel
theorem dX_addPaid_22 : decode prog_1_method_41_code 22 = .ok (.aload_n 0, 1) := by decide +kernel
theorem dX_addPaid_23 : decode prog_1_method_41_code 23 = .ok (.getfield 45, 3) := by decide +kernel
theorem dX_addPaid_26 : decode prog_1_method_41_code 26 = .ok (.iload 5, 2) := by decide +kernel
theorem dX_addPaid_28 : decode prog_1_method_41_code 28 = .ok (.aload_n 0, 1) := by decide +kernel
theorem dX_addPaid_29 : decode prog_1_method_41_code 29 = .ok (.getfield 45, 3) := by decide +kernel
theorem dX_addPaid_32 : decode prog_1_method_41_code 32 = .ok (.iload 5, 2) := by decide +kernel
theorem dX_addPaid_34 : decode prog_1_method_41_code 34 = .ok (.invokevirtual 221, 3) := by decide +kernel
theorem dX_addPaid_37 : decode prog_1_method_41_code 37 = .ok (.iload_n 1, 1) := by decide +kernel
theorem dX_addPaid_38 : decode prog_1_method_41_code 38 = .ok (.iload_n 2, 1) := by decide +kernel
theorem dX_addPaid_39 : decode prog_1_method_41_code 39 = .ok (.if_icmp .ge 7, 3) := by decide +kernel
theorem dX_addPaid_42 : decode prog_1_method_41_code 42 = .ok (.lload_n 3, 1) := by decide +kernel
theorem dX_addPaid_43 : decode prog_1_method_41_code 43 = .ok (.goto 5, 3) := by decide +kernel
theorem dX_addPaid_46 : decode prog_1_method_41_code 46 = .ok (.lload_n 3, 1) := by decide +kernel
theorem dX_addPaid_47 : decode prog_1_method_41_code 47 = .ok (.lneg, 1) := by decide +kernel
theorem dX_addPaid_48 : decode prog_1_method_41_code 48 = .ok (.ladd, 1) := by decide +kernel
theorem dX_addPaid_49 : decode prog_1_method_41_code 49 = .ok (.invokevirtual 124, 3) := by decide +kernel
theorem dX_addPaid_52 : decode prog_1_method_41_code 52 = .ok (.pop, 1) := by decide +kernel
theorem dX_addPaid_53 : decode prog_1_method_41_code 53 = .ok (.return_, 1) := by decide +kernel
def g_X_addPaid (x : XS) (p : Int32) (q : Int32) (v : Int64) : XS := if q ≤ p then (xPS24 x (g_P_put 512 (x.1 4) (x.2.2.2.1 1) (x.2.2.2.2.1 2) (f_X_pairOf x q p) ((f_P_amountOf (x.1 4) (x.2.2.2.1 1) (x.2.2.2.2.1 2) (f_X_pairOf x q p)) + (-v))).2) else (xPS24 x (g_P_put 512 (x.1 4) (x.2.2.2.1 1) (x.2.2.2.2.1 2) (f_X_pairOf x p q) ((f_P_amountOf (x.1 4) (x.2.2.2.1 1) (x.2.2.2.2.1 2) (f_X_pairOf x p q)) + v)).2)
set_option maxHeartbeats 4000000 in
set_option maxRecDepth 100000 in
theorem c_X_addPaid (l : Launch) (D : va_G) (cI cL cQ : ClassId) (d : Nat → Nat) (κ0 : Nat → Option va_E) (x : XS) (hX : IsX cI cL cQ d κ0 x) (hB : XB x) (sz : Nat) (p : Int32) (q : Int32) (v : Int64)  : Met l yX_addPaid wX_addPaid { frames := 2, cells := 0, slots := 0, locals := 46 } (va_Pc [.ref (d 18), .int (p), .int (q), .long (v)] (kC D vCl (kT cI cL cQ) d κ0 sz)) (kNv D vCl d (kA d κ0 sz) (fun κ' => XW cI cL cQ κ0 d κ' (g_X_addPaid x p q v))) 0 0 (kA d κ0 sz) := by
  refine kMet (by decide) (Nat.le_of_ble_eq_true rfl) ?_
  intro p0 e0 s0 m0 below0 meth0 c0 hx hb hr hml hown hlocks hin hts hsz hP hK ls hl
  subst hsz
  have hl : lv_has ls 6 [(0, .ref (d 18)), (1, .int (p)), (2, .int (q)), (3, .long (v))] := hl
  have hB9 := hB
  obtain ⟨hb0, hb1, hb2, hb3, hb4, hb5, hb6, hb7, hb8⟩ := hB9
  obtain ⟨κ, hM, hW⟩ : ∃ κ', kW D vCl d κ' (kA d κ0 s0.heap.size) s0.heap s0.heap [] ∧ XW cI cL cQ κ0 d κ' x := ⟨κ0, kW.start hP, ⟨hX, fun _ _ => rfl⟩⟩
  refine lv_iload_n hx hb dX_addPaid_0 rfl (lv_at hl 1 rfl) ?_
  refine lv_iload_n hx hb dX_addPaid_1 rfl (lv_at hl 2 rfl) ?_
  refine lv_icmp_ge (tgt := 14) hx hb dX_addPaid_2 (by decide) (fun c_2 => ?_) (fun c_2 => ?_)
  · refine lv_aload_n hx hb dX_addPaid_14 rfl (lv_at hl 0 rfl) ?_
    refine lv_iload_n hx hb dX_addPaid_15 rfl (lv_at hl 2 rfl) ?_
    refine lv_iload_n hx hb dX_addPaid_16 rfl (lv_at hl 1 rfl) ?_
    refine vp_callSi (W.runV (C := RX) (As := [.int (q), .int (p)]) (rest := []) ⟨hx, hb, hml, hown, hts⟩ (c_X_pairOf l D cI cL cQ d κ x hW.1 hB _ q p) (cwV 2 hts (k_gV tw_257 tw_259 tw_12 tw_38 tw_260) rfl rfl rfl (by decide +kernel) ⟨Nat.le_of_ble_eq_true rfl, Nat.le_of_ble_eq_true rfl⟩) (kPreV hM.1 hK (q := 18) hW.1.1 rfl) rfl rfl hl.1 rfl (lv_room (Nat.le_of_ble_eq_true rfl)) dX_addPaid_17 ⟨Nat.le_of_ble_eq_true rfl, Nat.le_of_ble_eq_true rfl⟩) (fun r_17 e_17 => ?_)
    subst e_17
    refine lv_istore (lv' := [(5, .int (f_X_pairOf x q p)), (0, .ref (d 18)), (1, .int (p)), (2, .int (q)), (3, .long (v))]) hx hb dX_addPaid_20 hl (by decide) rfl (fun ls hl => ?_)
    refine lv_aload_n hx hb dX_addPaid_22 rfl (lv_at hl 1 rfl) ?_
    refine ka_get (v := .ref (d 24)) (ci := 3) (C := RX) (T := TX) (N := 10) hx hb hts inX hown hK hM.1 (q := 18) hW.1.1 rfl 8 (by decide) (hts _ tw_107) (fun _ h9 => h9) rfl dX_addPaid_23 ?_
    refine lv_iload hx hb dX_addPaid_26 (lv_at hl 0 rfl) ?_
    refine lv_aload_n hx hb dX_addPaid_28 rfl (lv_at hl 1 rfl) ?_
    refine ka_get (v := .ref (d 24)) (ci := 3) (C := RX) (T := TX) (N := 10) hx hb hts inX hown hK hM.1 (q := 18) hW.1.1 rfl 8 (by decide) (hts _ tw_107) (fun _ h9 => h9) rfl dX_addPaid_29 ?_
    refine lv_iload hx hb dX_addPaid_32 (lv_at hl 0 rfl) ?_
    refine vp_callSl (W.runV (C := RP) (As := [.int (f_X_pairOf x q p)]) (rest := [.int (f_X_pairOf x q p), .ref (d 24)]) ⟨hx, hb, hml, hown, hts⟩ (c_P_amountOf l D cI cL cQ d κ 24 512 (x.1 4) (x.2.2.2.1 1) (x.2.2.2.2.1 2) ⟨hW.1.2.2.2.2.2.2.1, hW.1.2.2.2.2.2.2.2.1, hW.1.2.2.2.2.2.2.2.2.1⟩ (by omega) (by decide) _ (f_X_pairOf x q p)) (cwV 1 hts (k_gV tw_261 tw_262 tw_263 tw_39 tw_264) rfl rfl rfl (by decide +kernel) ⟨Nat.le_of_ble_eq_true rfl, Nat.le_of_ble_eq_true rfl⟩) (kPreV hM.1 hK (q := 24) hW.1.2.2.2.2.2.2.1 rfl) rfl rfl hl.1 rfl (lv_room (Nat.le_of_ble_eq_true rfl)) dX_addPaid_34 ⟨Nat.le_of_ble_eq_true rfl, Nat.le_of_ble_eq_true rfl⟩) (fun r_34 e_34 => ?_)
    subst e_34
    refine lv_iload_n hx hb dX_addPaid_37 rfl (lv_at hl 2 rfl) ?_
    refine lv_iload_n hx hb dX_addPaid_38 rfl (lv_at hl 3 rfl) ?_
    refine lv_icmp_ge (tgt := 46) hx hb dX_addPaid_39 (by decide) (fun _ => ?_) (fun c => absurd c_2 c)
    refine lv_lload_n hx hb dX_addPaid_46 rfl (lv_at hl 4 rfl) ?_
    refine lv_lneg hx hb dX_addPaid_47 ?_
    refine lv_ladd hx hb dX_addPaid_48 ?_
    refine ka_ncalli (W.runV (C := RP) (As := [.int (f_X_pairOf x q p), .long ((f_P_amountOf (x.1 4) (x.2.2.2.1 1) (x.2.2.2.2.1 2) (f_X_pairOf x q p)) + (-v))]) (rest := []) ⟨hx, hb, hml, hown, hts⟩ (c_P_put l D cI cL cQ d κ 24 512 (x.1 4) (x.2.2.2.1 1) (x.2.2.2.2.1 2) ⟨hW.1.2.2.2.2.2.2.1, hW.1.2.2.2.2.2.2.2.1, hW.1.2.2.2.2.2.2.2.2.1⟩ (by omega) (by decide) _ (f_X_pairOf x q p) ((f_P_amountOf (x.1 4) (x.2.2.2.1 1) (x.2.2.2.2.1 2) (f_X_pairOf x q p)) + (-v))) (cwV 2 hts (k_gV tw_269 tw_270 tw_271 tw_39 tw_272) rfl rfl rfl (by decide +kernel) ⟨Nat.le_of_ble_eq_true rfl, Nat.le_of_ble_eq_true rfl⟩) (kPreV hM.1 hK (q := 24) hW.1.2.2.2.2.2.2.1 rfl) rfl rfl hl.1 rfl (lv_room (Nat.le_of_ble_eq_true rfl)) dX_addPaid_49 ⟨Nat.le_of_ble_eq_true rfl, Nat.le_of_ble_eq_true rfl⟩) hM (fun _ h9 => Or.inr h9) (fun r_49 κ1 H locs h1_49 hM => ?_)
    obtain ⟨er_49, hW1⟩ := h1_49
    subst er_49
    obtain ⟨κ, hM, hW⟩ : ∃ κ', kW D vCl d κ' (kA d κ0 s0.heap.size) s0.heap H locs ∧ XW cI cL cQ κ0 d κ' (xPS24 x (g_P_put 512 (x.1 4) (x.2.2.2.1 1) (x.2.2.2.2.1 2) (f_X_pairOf x q p) ((f_P_amountOf (x.1 4) (x.2.2.2.1 1) (x.2.2.2.2.1 2) (f_X_pairOf x q p)) + (-v))).2) := ⟨κ1, hM, hW.ofP24 hW1⟩
    refine lv_pop hx hb dX_addPaid_52 rfl ?_
    have hg : g_X_addPaid x p q v = xPS24 x (g_P_put 512 (x.1 4) (x.2.2.2.1 1) (x.2.2.2.2.1 2) (f_X_pairOf x q p) ((f_P_amountOf (x.1 4) (x.2.2.2.1 1) (x.2.2.2.2.1 2) (f_X_pairOf x q p)) + (-v))).2 := by rw [g_X_addPaid, if_pos c_2]
    exact W.vret hx hb hr (fun t ht h9 => kNv.of hM ht (by rw [hg]; exact hW)) hM.2.2.2.2 dX_addPaid_53
  · refine lv_aload_n hx hb dX_addPaid_5 rfl (lv_at hl 0 rfl) ?_
    refine lv_iload_n hx hb dX_addPaid_6 rfl (lv_at hl 1 rfl) ?_
    refine lv_iload_n hx hb dX_addPaid_7 rfl (lv_at hl 2 rfl) ?_
    refine vp_callSi (W.runV (C := RX) (As := [.int (p), .int (q)]) (rest := []) ⟨hx, hb, hml, hown, hts⟩ (c_X_pairOf l D cI cL cQ d κ x hW.1 hB _ p q) (cwV 2 hts (k_gV tw_257 tw_259 tw_12 tw_38 tw_260) rfl rfl rfl (by decide +kernel) ⟨Nat.le_of_ble_eq_true rfl, Nat.le_of_ble_eq_true rfl⟩) (kPreV hM.1 hK (q := 18) hW.1.1 rfl) rfl rfl hl.1 rfl (lv_room (Nat.le_of_ble_eq_true rfl)) dX_addPaid_8 ⟨Nat.le_of_ble_eq_true rfl, Nat.le_of_ble_eq_true rfl⟩) (fun r_8 e_8 => ?_)
    subst e_8
    refine lv_goto (tgt := 20) hx hb dX_addPaid_11 (by decide) ?_
    refine lv_istore (lv' := [(5, .int (f_X_pairOf x p q)), (0, .ref (d 18)), (1, .int (p)), (2, .int (q)), (3, .long (v))]) hx hb dX_addPaid_20 hl (by decide) rfl (fun ls hl => ?_)
    refine lv_aload_n hx hb dX_addPaid_22 rfl (lv_at hl 1 rfl) ?_
    refine ka_get (v := .ref (d 24)) (ci := 3) (C := RX) (T := TX) (N := 10) hx hb hts inX hown hK hM.1 (q := 18) hW.1.1 rfl 8 (by decide) (hts _ tw_107) (fun _ h9 => h9) rfl dX_addPaid_23 ?_
    refine lv_iload hx hb dX_addPaid_26 (lv_at hl 0 rfl) ?_
    refine lv_aload_n hx hb dX_addPaid_28 rfl (lv_at hl 1 rfl) ?_
    refine ka_get (v := .ref (d 24)) (ci := 3) (C := RX) (T := TX) (N := 10) hx hb hts inX hown hK hM.1 (q := 18) hW.1.1 rfl 8 (by decide) (hts _ tw_107) (fun _ h9 => h9) rfl dX_addPaid_29 ?_
    refine lv_iload hx hb dX_addPaid_32 (lv_at hl 0 rfl) ?_
    refine vp_callSl (W.runV (C := RP) (As := [.int (f_X_pairOf x p q)]) (rest := [.int (f_X_pairOf x p q), .ref (d 24)]) ⟨hx, hb, hml, hown, hts⟩ (c_P_amountOf l D cI cL cQ d κ 24 512 (x.1 4) (x.2.2.2.1 1) (x.2.2.2.2.1 2) ⟨hW.1.2.2.2.2.2.2.1, hW.1.2.2.2.2.2.2.2.1, hW.1.2.2.2.2.2.2.2.2.1⟩ (by omega) (by decide) _ (f_X_pairOf x p q)) (cwV 1 hts (k_gV tw_261 tw_262 tw_263 tw_39 tw_264) rfl rfl rfl (by decide +kernel) ⟨Nat.le_of_ble_eq_true rfl, Nat.le_of_ble_eq_true rfl⟩) (kPreV hM.1 hK (q := 24) hW.1.2.2.2.2.2.2.1 rfl) rfl rfl hl.1 rfl (lv_room (Nat.le_of_ble_eq_true rfl)) dX_addPaid_34 ⟨Nat.le_of_ble_eq_true rfl, Nat.le_of_ble_eq_true rfl⟩) (fun r_34 e_34 => ?_)
    subst e_34
    refine lv_iload_n hx hb dX_addPaid_37 rfl (lv_at hl 2 rfl) ?_
    refine lv_iload_n hx hb dX_addPaid_38 rfl (lv_at hl 3 rfl) ?_
    refine lv_icmp_ge (tgt := 46) hx hb dX_addPaid_39 (by decide) (fun c => absurd c c_2) (fun _ => ?_)
    refine lv_lload_n hx hb dX_addPaid_42 rfl (lv_at hl 4 rfl) ?_
    refine lv_goto (tgt := 48) hx hb dX_addPaid_43 (by decide) ?_
    refine lv_ladd hx hb dX_addPaid_48 ?_
    refine ka_ncalli (W.runV (C := RP) (As := [.int (f_X_pairOf x p q), .long ((f_P_amountOf (x.1 4) (x.2.2.2.1 1) (x.2.2.2.2.1 2) (f_X_pairOf x p q)) + v)]) (rest := []) ⟨hx, hb, hml, hown, hts⟩ (c_P_put l D cI cL cQ d κ 24 512 (x.1 4) (x.2.2.2.1 1) (x.2.2.2.2.1 2) ⟨hW.1.2.2.2.2.2.2.1, hW.1.2.2.2.2.2.2.2.1, hW.1.2.2.2.2.2.2.2.2.1⟩ (by omega) (by decide) _ (f_X_pairOf x p q) ((f_P_amountOf (x.1 4) (x.2.2.2.1 1) (x.2.2.2.2.1 2) (f_X_pairOf x p q)) + v)) (cwV 2 hts (k_gV tw_269 tw_270 tw_271 tw_39 tw_272) rfl rfl rfl (by decide +kernel) ⟨Nat.le_of_ble_eq_true rfl, Nat.le_of_ble_eq_true rfl⟩) (kPreV hM.1 hK (q := 24) hW.1.2.2.2.2.2.2.1 rfl) rfl rfl hl.1 rfl (lv_room (Nat.le_of_ble_eq_true rfl)) dX_addPaid_49 ⟨Nat.le_of_ble_eq_true rfl, Nat.le_of_ble_eq_true rfl⟩) hM (fun _ h9 => Or.inr h9) (fun r_49 κ1 H locs h1_49 hM => ?_)
    obtain ⟨er_49, hW1⟩ := h1_49
    subst er_49
    obtain ⟨κ, hM, hW⟩ : ∃ κ', kW D vCl d κ' (kA d κ0 s0.heap.size) s0.heap H locs ∧ XW cI cL cQ κ0 d κ' (xPS24 x (g_P_put 512 (x.1 4) (x.2.2.2.1 1) (x.2.2.2.2.1 2) (f_X_pairOf x p q) ((f_P_amountOf (x.1 4) (x.2.2.2.1 1) (x.2.2.2.2.1 2) (f_X_pairOf x p q)) + v)).2) := ⟨κ1, hM, hW.ofP24 hW1⟩
    refine lv_pop hx hb dX_addPaid_52 rfl ?_
    have hg : g_X_addPaid x p q v = xPS24 x (g_P_put 512 (x.1 4) (x.2.2.2.1 1) (x.2.2.2.2.1 2) (f_X_pairOf x p q) ((f_P_amountOf (x.1 4) (x.2.2.2.1 1) (x.2.2.2.2.1 2) (f_X_pairOf x p q)) + v)).2 := by rw [g_X_addPaid, if_neg c_2]
    exact W.vret hx hb hr (fun t ht h9 => kNv.of hM ht (by rw [hg]; exact hW)) hM.2.2.2.2 dX_addPaid_53
