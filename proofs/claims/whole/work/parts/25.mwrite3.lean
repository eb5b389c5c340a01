theorem MB_price {m : MS} {a : Int32} {each : Int64} {cut : Int32} (hB : MB m) (h : ¬ f_M_isPrice each cut = 0) : MB (mI (mL m 0 (va_up (m.2.2.2 0) (a).toNatClampNeg each)) 1 (va_up (m.2.2.1 1) (a).toNatClampNeg cut)) := by
  obtain ⟨hb0, hb1, hb2, hb3, hb4, hb5, hb6, hb7, hb8, hb9, hb10⟩ := hB
  refine ⟨hb0, hb1, hb2, hb3, hb4, hb5, hb6, hb7, hb8, hb9, ?_⟩
  intro k hk hs
  show 0 ≤ va_up (m.2.2.2 0) (a).toNatClampNeg each k ∧ va_up (m.2.2.2 0) (a).toNatClampNeg each k ≤ 999999999999999 ∧ 0 ≤ va_up (m.2.2.1 1) (a).toNatClampNeg cut k ∧ va_up (m.2.2.1 1) (a).toNatClampNeg cut k ≤ 99
  by_cases e : k = (a).toNatClampNeg
  · subst e
    rw [va_up_self, va_up_self]
    unfold f_M_isPrice at h
    by_cases c1 : each < 0
    · rw [if_pos c1] at h; exact absurd rfl h
    · rw [if_neg c1] at h
      by_cases c2 : 999999999999999 < each
      · rw [if_pos c2] at h; exact absurd rfl h
      · rw [if_neg c2] at h
        by_cases c3 : cut < 0
        · rw [if_pos c3] at h; exact absurd rfl h
        · rw [if_neg c3] at h
          by_cases c4 : 99 < cut
          · rw [if_pos c4] at h; exact absurd rfl h
          · exact ⟨Int64.not_lt.mp c1, Int64.not_lt.mp c2, Int32.not_lt.mp c3, Int32.not_lt.mp c4⟩
  · rw [va_up_ne _ _ e, va_up_ne _ _ e]
    exact hb10 k hk hs
theorem MB_pay {m : MS} {f g : Nat → Int32} {h : Nat → Int64} (hB : MB m) (hp : m.1 4 < 520) : MB (mN (mL (mI (mI m 3 f) 4 g) 2 h) 4 ((m.1 4) + 1)) := by
  obtain ⟨hb0, hb1, hb2, hb3, hb4, hb5, hb6, hb7, hb8, hb9, hb10⟩ := hB
  exact ⟨hb0, hb1, hb2, hb3, hb4, hb5, (by show m.1 4 + 1 ≤ 520; omega), hb7, hb8, hb9, hb10⟩

theorem dM_price_0 : decode prog_6_method_20_code 0 = .ok (.aload_n 0, 1) := by decide +kernel
theorem dM_price_1 : decode prog_6_method_20_code 1 = .ok (.iload_n 1, 1) := by decide +kernel
theorem dM_price_2 : decode prog_6_method_20_code 2 = .ok (.invokevirtual 128, 3) := by decide +kernel
theorem dM_price_5 : decode prog_6_method_20_code 5 = .ok (.ifCond .eq 21, 3) := by decide +kernel
theorem dM_price_8 : decode prog_6_method_20_code 8 = .ok (.aload_n 0, 1) := by decide +kernel
theorem dM_price_9 : decode prog_6_method_20_code 9 = .ok (.getfield 13, 3) := by decide +kernel
theorem dM_price_12 : decode prog_6_method_20_code 12 = .ok (.iload_n 1, 1) := by decide +kernel
theorem dM_price_13 : decode prog_6_method_20_code 13 = .ok (.iaload, 1) := by decide +kernel
theorem dM_price_14 : decode prog_6_method_20_code 14 = .ok (.ifCond .eq 12, 3) := by decide +kernel
theorem dM_price_17 : decode prog_6_method_20_code 17 = .ok (.lload_n 2, 1) := by decide +kernel
theorem dM_price_18 : decode prog_6_method_20_code 18 = .ok (.iload 4, 2) := by decide +kernel
theorem dM_price_20 : decode prog_6_method_20_code 20 = .ok (.invokestatic 124, 3) := by decide +kernel
theorem dM_price_23 : decode prog_6_method_20_code 23 = .ok (.ifCond .ne 6, 3) := by decide +kernel
theorem dM_price_26 : decode prog_6_method_20_code 26 = .ok (.bipush 8, 2) := by decide +kernel
theorem dM_price_28 : decode prog_6_method_20_code 28 = .ok (.ireturn, 1) := by decide +kernel
theorem dM_price_29 : decode prog_6_method_20_code 29 = .ok (.aload_n 0, 1) := by decide +kernel
theorem dM_price_30 : decode prog_6_method_20_code 30 = .ok (.getfield 17, 3) := by decide +kernel
theorem dM_price_33 : decode prog_6_method_20_code 33 = .ok (.iload_n 1, 1) := by decide +kernel
theorem dM_price_34 : decode prog_6_method_20_code 34 = .ok (.laload, 1) := by decide +kernel
theorem dM_price_35 : decode prog_6_method_20_code 35 = .ok (.lstore 5, 2) := by decide +kernel
theorem dM_price_37 : decode prog_6_method_20_code 37 = .ok (.aload_n 0, 1) := by decide +kernel
theorem dM_price_38 : decode prog_6_method_20_code 38 = .ok (.getfield 21, 3) := by decide +kernel
theorem dM_price_41 : decode prog_6_method_20_code 41 = .ok (.iload_n 1, 1) := by decide +kernel
theorem dM_price_42 : decode prog_6_method_20_code 42 = .ok (.iaload, 1) := by decide +kernel
theorem dM_price_43 : decode prog_6_method_20_code 43 = .ok (.istore 7, 2) := by decide +kernel
theorem dM_price_45 : decode prog_6_method_20_code 45 = .ok (.aload_n 0, 1) := by decide +kernel
theorem dM_price_46 : decode prog_6_method_20_code 46 = .ok (.getfield 17, 3) := by decide +kernel
theorem dM_price_49 : decode prog_6_method_20_code 49 = .ok (.iload_n 1, 1) := by decide +kernel
theorem dM_price_50 : decode prog_6_method_20_code 50 = .ok (.lload_n 2, 1) := by decide +kernel
theorem dM_price_51 : decode prog_6_method_20_code 51 = .ok (.lastore, 1) := by decide +kernel
theorem dM_price_52 : decode prog_6_method_20_code 52 = .ok (.aload_n 0, 1) := by decide +kernel
theorem dM_price_53 : decode prog_6_method_20_code 53 = .ok (.getfield 21, 3) := by decide +kernel
theorem dM_price_56 : decode prog_6_method_20_code 56 = .ok (.iload_n 1, 1) := by decide +kernel
theorem dM_price_57 : decode prog_6_method_20_code 57 = .ok (.iload 4, 2) := by decide +kernel
theorem dM_price_59 : decode prog_6_method_20_code 59 = .ok (.iastore, 1) := by decide +kernel
theorem dM_price_60 : decode prog_6_method_20_code 60 = .ok (.iconst 0, 1) := by decide +kernel
theorem dM_price_61 : decode prog_6_method_20_code 61 = .ok (.istore 8, 2) := by decide +kernel
theorem dM_price_63 : decode prog_6_method_20_code 63 = .ok (.iconst 1, 1) := by decide +kernel
theorem dM_price_64 : decode prog_6_method_20_code 64 = .ok (.istore 9, 2) := by decide +kernel
theorem dM_price_66 : decode prog_6_method_20_code 66 = .ok (.iload 9, 2) := by decide +kernel
theorem dM_price_68 : decode prog_6_method_20_code 68 = .ok (.aload_n 0, 1) := by decide +kernel
theorem dM_price_69 : decode prog_6_method_20_code 69 = .ok (.getfield 66, 3) := by decide +kernel
theorem dM_price_72 : decode prog_6_method_20_code 72 = .ok (.if_icmp .ge 30, 3) := by decide +kernel
theorem dM_price_75 : decode prog_6_method_20_code 75 = .ok (.iload 8, 2) := by decide +kernel
theorem dM_price_77 : decode prog_6_method_20_code 77 = .ok (.ifCond .ne 12, 3) := by decide +kernel
theorem dM_price_80 : decode prog_6_method_20_code 80 = .ok (.aload_n 0, 1) := by decide +kernel
theorem dM_price_81 : decode prog_6_method_20_code 81 = .ok (.iload 9, 2) := by decide +kernel
theorem dM_price_83 : decode prog_6_method_20_code 83 = .ok (.invokevirtual 131, 3) := by decide +kernel
theorem dM_price_86 : decode prog_6_method_20_code 86 = .ok (.ifCond .eq 7, 3) := by decide +kernel
theorem dM_price_89 : decode prog_6_method_20_code 89 = .ok (.iconst 1, 1) := by decide +kernel
theorem dM_price_90 : decode prog_6_method_20_code 90 = .ok (.goto 4, 3) := by decide +kernel
theorem dM_price_93 : decode prog_6_method_20_code 93 = .ok (.iconst 0, 1) := by decide +kernel
theorem dM_price_94 : decode prog_6_method_20_code 94 = .ok (.istore 8, 2) := by decide +kernel
theorem dM_price_96 : decode prog_6_method_20_code 96 = .ok (.iinc 9 1, 3) := by decide +kernel
theorem dM_price_99 : decode prog_6_method_20_code 99 = .ok (.goto (-33), 3) := by decide +kernel
theorem dM_price_102 : decode prog_6_method_20_code 102 = .ok (.iload 8, 2) := by decide +kernel
theorem dM_price_104 : decode prog_6_method_20_code 104 = .ok (.ifCond .eq 8, 3) := by decide +kernel
theorem dM_price_107 : decode prog_6_method_20_code 107 = .ok (.bipush 9, 2) := by decide +kernel
theorem dM_price_109 : decode prog_6_method_20_code 109 = .ok (.goto 16, 3) := by decide +kernel
theorem dM_price_112 : decode prog_6_method_20_code 112 = .ok (.aload_n 0, 1) := by decide +kernel
theorem dM_price_113 : decode prog_6_method_20_code 113 = .ok (.invokevirtual 134, 3) := by decide +kernel
theorem dM_price_116 : decode prog_6_method_20_code 116 = .ok (.ifCond .eq 8, 3) := by decide +kernel
theorem dM_price_119 : decode prog_6_method_20_code 119 = .ok (.bipush 10, 2) := by decide +kernel
theorem dM_price_121 : decode prog_6_method_20_code 121 = .ok (.goto 4, 3) := by decide +kernel
theorem dM_price_124 : decode prog_6_method_20_code 124 = .ok (.iconst 0, 1) := by decide +kernel
theorem dM_price_125 : decode prog_6_method_20_code 125 = .ok (.istore 9, 2) := by decide +kernel
theorem dM_price_127 : decode prog_6_method_20_code 127 = .ok (.aload_n 0, 1) := by decide +kernel
theorem dM_price_128 : decode prog_6_method_20_code 128 = .ok (.getfield 17, 3) := by decide +kernel
theorem dM_price_131 : decode prog_6_method_20_code 131 = .ok (.iload_n 1, 1) := by decide +kernel
theorem dM_price_132 : decode prog_6_method_20_code 132 = .ok (.iload 9, 2) := by decide +kernel
theorem dM_price_134 : decode prog_6_method_20_code 134 = .ok (.ifCond .ne 7, 3) := by decide +kernel
theorem dM_price_137 : decode prog_6_method_20_code 137 = .ok (.lload_n 2, 1) := by decide +kernel
theorem dM_price_138 : decode prog_6_method_20_code 138 = .ok (.goto 5, 3) := by decide +kernel
theorem dM_price_141 : decode prog_6_method_20_code 141 = .ok (.lload 5, 2) := by decide +kernel
theorem dM_price_143 : decode prog_6_method_20_code 143 = .ok (.lastore, 1) := by decide +kernel
theorem dM_price_144 : decode prog_6_method_20_code 144 = .ok (.aload_n 0, 1) := by decide +kernel
theorem dM_price_145 : decode prog_6_method_20_code 145 = .ok (.getfield 21, 3) := by decide +kernel
theorem dM_price_148 : decode prog_6_method_20_code 148 = .ok (.iload_n 1, 1) := by decide +kernel
theorem dM_price_149 : decode prog_6_method_20_code 149 = .ok (.iload 9, 2) := by decide +kernel
theorem dM_price_151 : decode prog_6_method_20_code 151 = .ok (.ifCond .ne 8, 3) := by decide +kernel
theorem dM_price_154 : decode prog_6_method_20_code 154 = .ok (.iload 4, 2) := by decide +kernel
theorem dM_price_156 : decode prog_6_method_20_code 156 = .ok (.goto 5, 3) := by decide +kernel
theorem dM_price_159 : decode prog_6_method_20_code 159 = .ok (.iload 7, 2) := by decide +kernel
theorem dM_price_161 : decode prog_6_method_20_code 161 = .ok (.iastore, 1) := by decide +kernel
theorem dM_price_162 : decode prog_6_method_20_code 162 = .ok (.iload 9, 2) := by decide +kernel
theorem dM_price_164 : decode prog_6_method_20_code 164 = .ok (.ireturn, 1) := by decide +kernel
def g_M_price_l (m : MS) (a : Int32) (each : Int64) (cut : Int32) : Nat → Nat → Int32 → Int32 × MS
  | 0, _, _ => (0, m)
  | n + 1, p, lacks => if (nI (m.1 0)) ≤ (nI p) then (if lacks = 0 then (if (f_M_isOwed (mI (mL m 0 (va_up (m.2.2.2 0) (a).toNatClampNeg each)) 1 (va_up (m.2.2.1 1) (a).toNatClampNeg cut))) = 0 then (0, mI (mL (mI (mL m 0 (va_up (m.2.2.2 0) (a).toNatClampNeg each)) 1 (va_up (m.2.2.1 1) (a).toNatClampNeg cut)) 0 (va_up (va_up (m.2.2.2 0) (a).toNatClampNeg each) (a).toNatClampNeg each)) 1 (va_up (va_up (m.2.2.1 1) (a).toNatClampNeg cut) (a).toNatClampNeg cut)) else (10, mI (mL (mI (mL m 0 (va_up (m.2.2.2 0) (a).toNatClampNeg each)) 1 (va_up (m.2.2.1 1) (a).toNatClampNeg cut)) 0 (va_up (va_up (m.2.2.2 0) (a).toNatClampNeg each) (a).toNatClampNeg ((m.2.2.2 0) (a).toNatClampNeg))) 1 (va_up (va_up (m.2.2.1 1) (a).toNatClampNeg cut) (a).toNatClampNeg ((m.2.2.1 1) (a).toNatClampNeg)))) else (9, mI (mL (mI (mL m 0 (va_up (m.2.2.2 0) (a).toNatClampNeg each)) 1 (va_up (m.2.2.1 1) (a).toNatClampNeg cut)) 0 (va_up (va_up (m.2.2.2 0) (a).toNatClampNeg each) (a).toNatClampNeg ((m.2.2.2 0) (a).toNatClampNeg))) 1 (va_up (va_up (m.2.2.1 1) (a).toNatClampNeg cut) (a).toNatClampNeg ((m.2.2.1 1) (a).toNatClampNeg)))) else (if lacks = 0 then (if (f_M_isShort (mI (mL m 0 (va_up (m.2.2.2 0) (a).toNatClampNeg each)) 1 (va_up (m.2.2.1 1) (a).toNatClampNeg cut)) (nI p)) = 0 then (g_M_price_l m a each cut n (p + 1) 0) else (g_M_price_l m a each cut n (p + 1) 1)) else (g_M_price_l m a each cut n (p + 1) 1))
theorem g_M_price_l_s (m : MS) (a : Int32) (each : Int64) (cut : Int32) (n : Nat) (p : Nat) (lacks : Int32) : g_M_price_l m a each cut (n + 1) p lacks = (if (nI (m.1 0)) ≤ (nI p) then (if lacks = 0 then (if (f_M_isOwed (mI (mL m 0 (va_up (m.2.2.2 0) (a).toNatClampNeg each)) 1 (va_up (m.2.2.1 1) (a).toNatClampNeg cut))) = 0 then (0, mI (mL (mI (mL m 0 (va_up (m.2.2.2 0) (a).toNatClampNeg each)) 1 (va_up (m.2.2.1 1) (a).toNatClampNeg cut)) 0 (va_up (va_up (m.2.2.2 0) (a).toNatClampNeg each) (a).toNatClampNeg each)) 1 (va_up (va_up (m.2.2.1 1) (a).toNatClampNeg cut) (a).toNatClampNeg cut)) else (10, mI (mL (mI (mL m 0 (va_up (m.2.2.2 0) (a).toNatClampNeg each)) 1 (va_up (m.2.2.1 1) (a).toNatClampNeg cut)) 0 (va_up (va_up (m.2.2.2 0) (a).toNatClampNeg each) (a).toNatClampNeg ((m.2.2.2 0) (a).toNatClampNeg))) 1 (va_up (va_up (m.2.2.1 1) (a).toNatClampNeg cut) (a).toNatClampNeg ((m.2.2.1 1) (a).toNatClampNeg)))) else (9, mI (mL (mI (mL m 0 (va_up (m.2.2.2 0) (a).toNatClampNeg each)) 1 (va_up (m.2.2.1 1) (a).toNatClampNeg cut)) 0 (va_up (va_up (m.2.2.2 0) (a).toNatClampNeg each) (a).toNatClampNeg ((m.2.2.2 0) (a).toNatClampNeg))) 1 (va_up (va_up (m.2.2.1 1) (a).toNatClampNeg cut) (a).toNatClampNeg ((m.2.2.1 1) (a).toNatClampNeg)))) else (if lacks = 0 then (if (f_M_isShort (mI (mL m 0 (va_up (m.2.2.2 0) (a).toNatClampNeg each)) 1 (va_up (m.2.2.1 1) (a).toNatClampNeg cut)) (nI p)) = 0 then (g_M_price_l m a each cut n (p + 1) 0) else (g_M_price_l m a each cut n (p + 1) 1)) else (g_M_price_l m a each cut n (p + 1) 1))) := rfl
def g_M_price (m : MS) (a : Int32) (each : Int64) (cut : Int32) : Int32 × MS := if (f_M_isAsset m a) = 0 then (8, m) else (if ((m.2.2.1 0) (a).toNatClampNeg) = 0 then (8, m) else (if (f_M_isPrice each cut) = 0 then (8, m) else (g_M_price_l m a each cut (m.1 0 + 1) 1 0)))
set_option maxHeartbeats 4000000 in
set_option maxRecDepth 100000 in
theorem c_M_price (l : Launch) (D : va_G) (cI cL cQ : ClassId) (d : Nat → Nat) (κ0 : Nat → Option va_E) (m : MS) (hm : IsM cI cL d κ0 m) (hB : MB m) (sz : Nat) (a : Int32) (each : Int64) (cut : Int32)  : Met l yM_price wM_price { frames := 3, cells := 0, slots := 0, locals := 79 } (va_Pc [.ref (d 0), .int (a), .long (each), .int (cut)] (kC D vCl (kT cI cL cQ) d κ0 sz)) (kNi D vCl d (kA d κ0 sz) (fun r κ' => r = (g_M_price m a each cut).1 ∧ MW cI cL κ0 d κ' (g_M_price m a each cut).2)) 0 0 (kA d κ0 sz) := by
  refine kMet (by decide) (Nat.le_of_ble_eq_true rfl) ?_
  intro p0 e0 s0 m0 below0 meth0 c0 hx hb hr hml hown hlocks hin hts hsz hP hK ls hl
  subst hsz
  have hl : lv_has ls 10 [(0, .ref (d 0)), (1, .int (a)), (2, .long (each)), (4, .int (cut))] := hl
  have hB9 := hB
  obtain ⟨hb0, hb1, hb2, hb3, hb4, hb5, hb6, hb7, hb8, hb9, hb10⟩ := hB9
  obtain ⟨κ, hM, hW⟩ : ∃ κ', kW D vCl d κ' (kA d κ0 s0.heap.size) s0.heap s0.heap [] ∧ MW cI cL κ0 d κ' m := ⟨κ0, kW.start hP, ⟨hm, fun _ _ => rfl⟩⟩
  refine lv_aload_n hx hb dM_price_0 rfl (lv_at hl 0 rfl) ?_
  refine lv_iload_n hx hb dM_price_1 rfl (lv_at hl 1 rfl) ?_
  refine vp_callSi (W.runV (C := RM) (As := [.int (a)]) (rest := []) ⟨hx, hb, hml, hown, hts⟩ (c_M_isAsset l D cI cL cQ d κ m hW.1 hB _ a) (cwV 1 hts (k_gV tw_495 tw_497 tw_25 tw_41 tw_498) rfl rfl rfl (by decide +kernel) ⟨Nat.le_of_ble_eq_true rfl, Nat.le_of_ble_eq_true rfl⟩) (kPreV hM.1 hK (q := 0) hW.1.1 rfl) rfl rfl hl.1 rfl (lv_room (Nat.le_of_ble_eq_true rfl)) dM_price_2 ⟨Nat.le_of_ble_eq_true rfl, Nat.le_of_ble_eq_true rfl⟩) (fun r_2 e_2 => ?_)
  subst e_2
  refine lv_if_eq (tgt := 26) hx hb dM_price_5 (by decide) (fun c_5 => ?_) (fun c_5 => ?_)
  · refine lv_bipush (v := 8) hx hb dM_price_26 (by decide) ?_
    have hg : g_M_price m a each cut = (8, m) := by rw [g_M_price, if_pos c_5]
    exact W.iret (v := 8) hx hb hr (fun t ht h9 => kNi.of hM ht (by rw [hg]; exact ⟨rfl, hW⟩)) hM.2.2.2.2 dM_price_28
  · refine lv_aload_n hx hb dM_price_8 rfl (lv_at hl 0 rfl) ?_
    refine ka_get (v := .ref (d 1)) (ci := 4) (C := RM) (T := TM) (N := 26) hx hb hts inM hown hK hM.1 (q := 0) hW.1.1 rfl 4 (by decide) (hts _ tw_388) (fun _ h9 => h9) rfl dM_price_9 ?_
    refine lv_iload_n hx hb dM_price_12 rfl (lv_at hl 1 rfl) ?_
    refine ka_iald (f := m.2.2.1 0) hx hb hK hM.1 0 (q := 1) hW.1.2.1 rfl (asset_64 hB (by assumption)) dM_price_13 ?_
    refine lv_if_eq (tgt := 26) hx hb dM_price_14 (by decide) (fun c_14 => ?_) (fun c_14 => ?_)
    · refine lv_bipush (v := 8) hx hb dM_price_26 (by decide) ?_
      have hg : g_M_price m a each cut = (8, m) := by rw [g_M_price, if_neg c_5, if_pos c_14]
      exact W.iret (v := 8) hx hb hr (fun t ht h9 => kNi.of hM ht (by rw [hg]; exact ⟨rfl, hW⟩)) hM.2.2.2.2 dM_price_28
    · refine lv_lload_n hx hb dM_price_17 rfl (lv_at hl 2 rfl) ?_
      refine lv_iload hx hb dM_price_18 (lv_at hl 3 rfl) ?_
      refine vp_callSi (W.runS (As := [.long (each), .int (cut)]) (rest := []) ⟨hx, hb, hml, hown, hts⟩ (c_M_isPrice l D cI cL cQ d κ _ each cut) (cwS 2 hts (k_gS tw_487 tw_488 tw_41 tw_489) rfl rfl rfl (by decide +kernel) ⟨Nat.le_of_ble_eq_true rfl, Nat.le_of_ble_eq_true rfl⟩) (kPreS hM.1 hK) rfl rfl hl.1 rfl (lv_room (Nat.le_of_ble_eq_true rfl)) dM_price_20 ⟨Nat.le_of_ble_eq_true rfl, Nat.le_of_ble_eq_true rfl⟩) (fun r_20 e_20 => ?_)
      subst e_20
      refine lv_if_ne (tgt := 29) hx hb dM_price_23 (by decide) (fun c_23 => ?_) (fun c_23 => ?_)
      · refine lv_aload_n hx hb dM_price_29 rfl (lv_at hl 0 rfl) ?_
        refine ka_get (v := .ref (d 2)) (ci := 4) (C := RM) (T := TM) (N := 26) hx hb hts inM hown hK hM.1 (q := 0) hW.1.1 rfl 5 (by decide) (hts _ tw_389) (fun _ h9 => h9) rfl dM_price_30 ?_
        refine lv_iload_n hx hb dM_price_33 rfl (lv_at hl 1 rfl) ?_
        refine ka_lald (f := m.2.2.2 0) hx hb hK hM.1 1 (q := 2) hW.1.2.2.1 rfl (asset_64 hB (by assumption)) dM_price_34 ?_
        refine lv_lstore (lv' := [(5, .long ((m.2.2.2 0) (a).toNatClampNeg)), (0, .ref (d 0)), (1, .int (a)), (2, .long (each)), (4, .int (cut))]) hx hb dM_price_35 hl (by decide) rfl (fun ls hl => ?_)
        refine lv_aload_n hx hb dM_price_37 rfl (lv_at hl 1 rfl) ?_
        refine ka_get (v := .ref (d 3)) (ci := 4) (C := RM) (T := TM) (N := 26) hx hb hts inM hown hK hM.1 (q := 0) hW.1.1 rfl 6 (by decide) (hts _ tw_390) (fun _ h9 => h9) rfl dM_price_38 ?_
        refine lv_iload_n hx hb dM_price_41 rfl (lv_at hl 2 rfl) ?_
        refine ka_iald (f := m.2.2.1 1) hx hb hK hM.1 0 (q := 3) hW.1.2.2.2.1 rfl (asset_64 hB (by assumption)) dM_price_42 ?_
        refine lv_istore (lv' := [(7, .int ((m.2.2.1 1) (a).toNatClampNeg)), (5, .long ((m.2.2.2 0) (a).toNatClampNeg)), (0, .ref (d 0)), (1, .int (a)), (2, .long (each)), (4, .int (cut))]) hx hb dM_price_43 hl (by decide) rfl (fun ls hl => ?_)
        refine lv_aload_n hx hb dM_price_45 rfl (lv_at hl 2 rfl) ?_
        refine ka_get (v := .ref (d 2)) (ci := 4) (C := RM) (T := TM) (N := 26) hx hb hts inM hown hK hM.1 (q := 0) hW.1.1 rfl 5 (by decide) (hts _ tw_389) (fun _ h9 => h9) rfl dM_price_46 ?_
        refine lv_iload_n hx hb dM_price_49 rfl (lv_at hl 3 rfl) ?_
        refine lv_lload_n hx hb dM_price_50 rfl (lv_at hl 4 rfl) ?_
        refine ka_last (f := m.2.2.2 0) hx hb hK hM 1 (q := 2) hW.1.2.2.1 rfl (i := a) (x := each) (asset_64 hB (by assumption)) dM_price_51 (fun H locs hM => ?_)
        obtain ⟨κ, hM, hW⟩ : ∃ κ', kW D vCl d κ' (kA d κ0 s0.heap.size) s0.heap H locs ∧ MW cI cL κ0 d κ' (mL m 0 (va_up (m.2.2.2 0) (a).toNatClampNeg each)) := ⟨_, hM, mw_price _ hW⟩
        refine lv_aload_n hx hb dM_price_52 rfl (lv_at hl 2 rfl) ?_
        refine ka_get (v := .ref (d 3)) (ci := 4) (C := RM) (T := TM) (N := 26) hx hb hts inM hown hK hM.1 (q := 0) hW.1.1 rfl 6 (by decide) (hts _ tw_390) (fun _ h9 => h9) rfl dM_price_53 ?_
        refine lv_iload_n hx hb dM_price_56 rfl (lv_at hl 3 rfl) ?_
        refine lv_iload hx hb dM_price_57 (lv_at hl 5 rfl) ?_
        refine ka_iast (f := m.2.2.1 1) hx hb hK hM 0 (q := 3) hW.1.2.2.2.1 rfl (i := a) (x := cut) (asset_64 hB (by assumption)) dM_price_59 (fun H locs hM => ?_)
        obtain ⟨κ, hM, hW⟩ : ∃ κ', kW D vCl d κ' (kA d κ0 s0.heap.size) s0.heap H locs ∧ MW cI cL κ0 d κ' (mI (mL m 0 (va_up (m.2.2.2 0) (a).toNatClampNeg each)) 1 (va_up (m.2.2.1 1) (a).toNatClampNeg cut)) := ⟨_, hM, mw_haircut _ hW⟩
        have hB2 : MB (mI (mL m 0 (va_up (m.2.2.2 0) (a).toNatClampNeg each)) 1 (va_up (m.2.2.1 1) (a).toNatClampNeg cut)) := MB_price hB c_23
        refine lv_iconst (v := 0) hx hb dM_price_60 (by decide) ?_
        refine lv_istore (lv' := [(8, .int (0)), (7, .int ((m.2.2.1 1) (a).toNatClampNeg)), (5, .long ((m.2.2.2 0) (a).toNatClampNeg)), (0, .ref (d 0)), (1, .int (a)), (2, .long (each)), (4, .int (cut))]) hx hb dM_price_61 hl (by decide) rfl (fun ls hl => ?_)
        refine lv_iconst (v := 1) hx hb dM_price_63 (by decide) ?_
        refine lv_istore (lv' := [(9, .int (1)), (8, .int (0)), (7, .int ((m.2.2.1 1) (a).toNatClampNeg)), (5, .long ((m.2.2.2 0) (a).toNatClampNeg)), (0, .ref (d 0)), (1, .int (a)), (2, .long (each)), (4, .int (cut))]) hx hb dM_price_64 hl (by decide) rfl (fun ls hl => ?_)
        refine k_rec (σ := Nat × Int32) (fun n z9 ls => z9.1 ≤ m.1 0 ∧ m.1 0 < z9.1 + n ∧ g_M_price_l m a each cut n z9.1 z9.2 = g_M_price m a each cut ∧ lv_has ls 10 [(9, .int (nI z9.1)), (8, .int z9.2), (7, .int ((m.2.2.1 1) (a).toNatClampNeg)), (5, .long ((m.2.2.2 0) (a).toNatClampNeg)), (0, .ref (d 0)), (1, .int (a)), (2, .long (each)), (4, .int (cut))]) (m.1 0 + 1) (1, 0) ⟨by omega, by omega, by rw [g_M_price, if_neg c_5, if_neg c_14, if_neg c_23], lv_sub hl [0, 1, 2, 3, 4, 5, 6, 7] rfl⟩ ?_
        intro n z9 ls hI ih
        obtain ⟨p, lacks⟩ := z9
        obtain ⟨hk, hn, hE, hl⟩ := hI
        dsimp only at hk hn hE hl
        obtain ⟨n, rfl⟩ : ∃ q, n = q + 1 := ⟨n - 1, by omega⟩
        refine lv_iload hx hb dM_price_66 (lv_at hl 0 rfl) ?_
        refine lv_aload_n hx hb dM_price_68 rfl (lv_at hl 4 rfl) ?_
        refine ka_get (v := .int (nI (m.1 0))) (ci := 4) (C := RM) (T := TM) (N := 26) hx hb hts inM hown hK hM.1 (q := 0) hW.1.1 rfl 0 (by decide) (hts _ tw_384) (fun _ h9 => h9) rfl dM_price_69 ?_
        refine lv_icmp_ge (tgt := 102) hx hb dM_price_72 (by decide) (fun c_72 => ?_) (fun c_72 => ?_)
        · refine lv_iload hx hb dM_price_102 (lv_at hl 1 rfl) ?_
          refine lv_if_eq (tgt := 112) hx hb dM_price_104 (by decide) (fun c_104 => ?_) (fun c_104 => ?_)
          · refine lv_aload_n hx hb dM_price_112 rfl (lv_at hl 4 rfl) ?_
            refine vp_callSi (W.runV (C := RM) (As := []) (rest := []) ⟨hx, hb, hml, hown, hts⟩ (c_M_isOwed l D cI cL cQ d κ (mI (mL m 0 (va_up (m.2.2.2 0) (a).toNatClampNeg each)) 1 (va_up (m.2.2.1 1) (a).toNatClampNeg cut)) hW.1 hB2 _ ) (cwV 0 hts (k_gV tw_520 tw_522 tw_30 tw_41 tw_523) rfl rfl rfl (by decide +kernel) ⟨Nat.le_of_ble_eq_true rfl, Nat.le_of_ble_eq_true rfl⟩) (kPreV hM.1 hK (q := 0) hW.1.1 rfl) rfl rfl hl.1 rfl (lv_room (Nat.le_of_ble_eq_true rfl)) dM_price_113 ⟨Nat.le_of_ble_eq_true rfl, Nat.le_of_ble_eq_true rfl⟩) (fun r_113 e_113 => ?_)
            subst e_113
            refine lv_if_eq (tgt := 124) hx hb dM_price_116 (by decide) (fun c_116 => ?_) (fun c_116 => ?_)
            · refine lv_iconst (v := 0) hx hb dM_price_124 (by decide) ?_
              refine lv_istore (lv' := [(9, .int (0)), (8, .int (lacks)), (7, .int ((m.2.2.1 1) (a).toNatClampNeg)), (5, .long ((m.2.2.2 0) (a).toNatClampNeg)), (0, .ref (d 0)), (1, .int (a)), (2, .long (each)), (4, .int (cut))]) hx hb dM_price_125 hl (by decide) rfl (fun ls hl => ?_)
              refine lv_aload_n hx hb dM_price_127 rfl (lv_at hl 4 rfl) ?_
              refine ka_get (v := .ref (d 2)) (ci := 4) (C := RM) (T := TM) (N := 26) hx hb hts inM hown hK hM.1 (q := 0) hW.1.1 rfl 5 (by decide) (hts _ tw_389) (fun _ h9 => h9) rfl dM_price_128 ?_
              refine lv_iload_n hx hb dM_price_131 rfl (lv_at hl 5 rfl) ?_
              refine lv_iload hx hb dM_price_132 (lv_at hl 0 rfl) ?_
              refine lv_if_ne (tgt := 141) hx hb dM_price_134 (by decide) (fun c => absurd c (by decide)) (fun _ => ?_)
              refine lv_lload_n hx hb dM_price_137 rfl (lv_at hl 6 rfl) ?_
              refine lv_goto (tgt := 143) hx hb dM_price_138 (by decide) ?_
              refine ka_last (f := va_up (m.2.2.2 0) (a).toNatClampNeg each) hx hb hK hM 1 (q := 2) hW.1.2.2.1 rfl (i := a) (x := each) (asset_64 hB (by assumption)) dM_price_143 (fun H locs hM => ?_)
              obtain ⟨κ, hM, hW⟩ : ∃ κ', kW D vCl d κ' (kA d κ0 s0.heap.size) s0.heap H locs ∧ MW cI cL κ0 d κ' (mL (mI (mL m 0 (va_up (m.2.2.2 0) (a).toNatClampNeg each)) 1 (va_up (m.2.2.1 1) (a).toNatClampNeg cut)) 0 (va_up (va_up (m.2.2.2 0) (a).toNatClampNeg each) (a).toNatClampNeg each)) := ⟨_, hM, mw_price _ hW⟩
              refine lv_aload_n hx hb dM_price_144 rfl (lv_at hl 4 rfl) ?_
              refine ka_get (v := .ref (d 3)) (ci := 4) (C := RM) (T := TM) (N := 26) hx hb hts inM hown hK hM.1 (q := 0) hW.1.1 rfl 6 (by decide) (hts _ tw_390) (fun _ h9 => h9) rfl dM_price_145 ?_
              refine lv_iload_n hx hb dM_price_148 rfl (lv_at hl 5 rfl) ?_
              refine lv_iload hx hb dM_price_149 (lv_at hl 0 rfl) ?_
              refine lv_if_ne (tgt := 159) hx hb dM_price_151 (by decide) (fun c => absurd c (by decide)) (fun _ => ?_)
              refine lv_iload hx hb dM_price_154 (lv_at hl 7 rfl) ?_
              refine lv_goto (tgt := 161) hx hb dM_price_156 (by decide) ?_
              refine ka_iast (f := va_up (m.2.2.1 1) (a).toNatClampNeg cut) hx hb hK hM 0 (q := 3) hW.1.2.2.2.1 rfl (i := a) (x := cut) (asset_64 hB (by assumption)) dM_price_161 (fun H locs hM => ?_)
              obtain ⟨κ, hM, hW⟩ : ∃ κ', kW D vCl d κ' (kA d κ0 s0.heap.size) s0.heap H locs ∧ MW cI cL κ0 d κ' (mI (mL (mI (mL m 0 (va_up (m.2.2.2 0) (a).toNatClampNeg each)) 1 (va_up (m.2.2.1 1) (a).toNatClampNeg cut)) 0 (va_up (va_up (m.2.2.2 0) (a).toNatClampNeg each) (a).toNatClampNeg each)) 1 (va_up (va_up (m.2.2.1 1) (a).toNatClampNeg cut) (a).toNatClampNeg cut)) := ⟨_, hM, mw_haircut _ hW⟩
              refine lv_iload hx hb dM_price_162 (lv_at hl 0 rfl) ?_
              have hg : g_M_price m a each cut = (0, mI (mL (mI (mL m 0 (va_up (m.2.2.2 0) (a).toNatClampNeg each)) 1 (va_up (m.2.2.1 1) (a).toNatClampNeg cut)) 0 (va_up (va_up (m.2.2.2 0) (a).toNatClampNeg each) (a).toNatClampNeg each)) 1 (va_up (va_up (m.2.2.1 1) (a).toNatClampNeg cut) (a).toNatClampNeg cut)) := (by rw [← hE, g_M_price_l_s, if_pos c_72, if_pos c_104, if_pos c_116] : (0, mI (mL (mI (mL m 0 (va_up (m.2.2.2 0) (a).toNatClampNeg each)) 1 (va_up (m.2.2.1 1) (a).toNatClampNeg cut)) 0 (va_up (va_up (m.2.2.2 0) (a).toNatClampNeg each) (a).toNatClampNeg each)) 1 (va_up (va_up (m.2.2.1 1) (a).toNatClampNeg cut) (a).toNatClampNeg cut)) = g_M_price m a each cut).symm
              exact W.iret (v := 0) hx hb hr (fun t ht h9 => kNi.of hM ht (by rw [hg]; exact ⟨rfl, hW⟩)) hM.2.2.2.2 dM_price_164
            · refine lv_bipush (v := 10) hx hb dM_price_119 (by decide) ?_
              refine lv_goto (tgt := 125) hx hb dM_price_121 (by decide) ?_
              refine lv_istore (lv' := [(9, .int (10)), (8, .int (lacks)), (7, .int ((m.2.2.1 1) (a).toNatClampNeg)), (5, .long ((m.2.2.2 0) (a).toNatClampNeg)), (0, .ref (d 0)), (1, .int (a)), (2, .long (each)), (4, .int (cut))]) hx hb dM_price_125 hl (by decide) rfl (fun ls hl => ?_)
              refine lv_aload_n hx hb dM_price_127 rfl (lv_at hl 4 rfl) ?_
              refine ka_get (v := .ref (d 2)) (ci := 4) (C := RM) (T := TM) (N := 26) hx hb hts inM hown hK hM.1 (q := 0) hW.1.1 rfl 5 (by decide) (hts _ tw_389) (fun _ h9 => h9) rfl dM_price_128 ?_
              refine lv_iload_n hx hb dM_price_131 rfl (lv_at hl 5 rfl) ?_
              refine lv_iload hx hb dM_price_132 (lv_at hl 0 rfl) ?_
              refine lv_if_ne (tgt := 141) hx hb dM_price_134 (by decide) (fun _ => ?_) (fun c => absurd c (by decide))
              refine lv_lload hx hb dM_price_141 (lv_at hl 3 rfl) ?_
              refine ka_last (f := va_up (m.2.2.2 0) (a).toNatClampNeg each) hx hb hK hM 1 (q := 2) hW.1.2.2.1 rfl (i := a) (x := (m.2.2.2 0) (a).toNatClampNeg) (asset_64 hB (by assumption)) dM_price_143 (fun H locs hM => ?_)
              obtain ⟨κ, hM, hW⟩ : ∃ κ', kW D vCl d κ' (kA d κ0 s0.heap.size) s0.heap H locs ∧ MW cI cL κ0 d κ' (mL (mI (mL m 0 (va_up (m.2.2.2 0) (a).toNatClampNeg each)) 1 (va_up (m.2.2.1 1) (a).toNatClampNeg cut)) 0 (va_up (va_up (m.2.2.2 0) (a).toNatClampNeg each) (a).toNatClampNeg ((m.2.2.2 0) (a).toNatClampNeg))) := ⟨_, hM, mw_price _ hW⟩
              refine lv_aload_n hx hb dM_price_144 rfl (lv_at hl 4 rfl) ?_
              refine ka_get (v := .ref (d 3)) (ci := 4) (C := RM) (T := TM) (N := 26) hx hb hts inM hown hK hM.1 (q := 0) hW.1.1 rfl 6 (by decide) (hts _ tw_390) (fun _ h9 => h9) rfl dM_price_145 ?_
              refine lv_iload_n hx hb dM_price_148 rfl (lv_at hl 5 rfl) ?_
              refine lv_iload hx hb dM_price_149 (lv_at hl 0 rfl) ?_
              refine lv_if_ne (tgt := 159) hx hb dM_price_151 (by decide) (fun _ => ?_) (fun c => absurd c (by decide))
              refine lv_iload hx hb dM_price_159 (lv_at hl 2 rfl) ?_
              refine ka_iast (f := va_up (m.2.2.1 1) (a).toNatClampNeg cut) hx hb hK hM 0 (q := 3) hW.1.2.2.2.1 rfl (i := a) (x := (m.2.2.1 1) (a).toNatClampNeg) (asset_64 hB (by assumption)) dM_price_161 (fun H locs hM => ?_)
              obtain ⟨κ, hM, hW⟩ : ∃ κ', kW D vCl d κ' (kA d κ0 s0.heap.size) s0.heap H locs ∧ MW cI cL κ0 d κ' (mI (mL (mI (mL m 0 (va_up (m.2.2.2 0) (a).toNatClampNeg each)) 1 (va_up (m.2.2.1 1) (a).toNatClampNeg cut)) 0 (va_up (va_up (m.2.2.2 0) (a).toNatClampNeg each) (a).toNatClampNeg ((m.2.2.2 0) (a).toNatClampNeg))) 1 (va_up (va_up (m.2.2.1 1) (a).toNatClampNeg cut) (a).toNatClampNeg ((m.2.2.1 1) (a).toNatClampNeg))) := ⟨_, hM, mw_haircut _ hW⟩
              refine lv_iload hx hb dM_price_162 (lv_at hl 0 rfl) ?_
              have hg : g_M_price m a each cut = (10, mI (mL (mI (mL m 0 (va_up (m.2.2.2 0) (a).toNatClampNeg each)) 1 (va_up (m.2.2.1 1) (a).toNatClampNeg cut)) 0 (va_up (va_up (m.2.2.2 0) (a).toNatClampNeg each) (a).toNatClampNeg ((m.2.2.2 0) (a).toNatClampNeg))) 1 (va_up (va_up (m.2.2.1 1) (a).toNatClampNeg cut) (a).toNatClampNeg ((m.2.2.1 1) (a).toNatClampNeg))) := (by rw [← hE, g_M_price_l_s, if_pos c_72, if_pos c_104, if_neg c_116] : (10, mI (mL (mI (mL m 0 (va_up (m.2.2.2 0) (a).toNatClampNeg each)) 1 (va_up (m.2.2.1 1) (a).toNatClampNeg cut)) 0 (va_up (va_up (m.2.2.2 0) (a).toNatClampNeg each) (a).toNatClampNeg ((m.2.2.2 0) (a).toNatClampNeg))) 1 (va_up (va_up (m.2.2.1 1) (a).toNatClampNeg cut) (a).toNatClampNeg ((m.2.2.1 1) (a).toNatClampNeg))) = g_M_price m a each cut).symm
              exact W.iret (v := 10) hx hb hr (fun t ht h9 => kNi.of hM ht (by rw [hg]; exact ⟨rfl, hW⟩)) hM.2.2.2.2 dM_price_164
          · refine lv_bipush (v := 9) hx hb dM_price_107 (by decide) ?_
            refine lv_goto (tgt := 125) hx hb dM_price_109 (by decide) ?_
            refine lv_istore (lv' := [(9, .int (9)), (8, .int (lacks)), (7, .int ((m.2.2.1 1) (a).toNatClampNeg)), (5, .long ((m.2.2.2 0) (a).toNatClampNeg)), (0, .ref (d 0)), (1, .int (a)), (2, .long (each)), (4, .int (cut))]) hx hb dM_price_125 hl (by decide) rfl (fun ls hl => ?_)
            refine lv_aload_n hx hb dM_price_127 rfl (lv_at hl 4 rfl) ?_
            refine ka_get (v := .ref (d 2)) (ci := 4) (C := RM) (T := TM) (N := 26) hx hb hts inM hown hK hM.1 (q := 0) hW.1.1 rfl 5 (by decide) (hts _ tw_389) (fun _ h9 => h9) rfl dM_price_128 ?_
            refine lv_iload_n hx hb dM_price_131 rfl (lv_at hl 5 rfl) ?_
            refine lv_iload hx hb dM_price_132 (lv_at hl 0 rfl) ?_
            refine lv_if_ne (tgt := 141) hx hb dM_price_134 (by decide) (fun _ => ?_) (fun c => absurd c (by decide))
            refine lv_lload hx hb dM_price_141 (lv_at hl 3 rfl) ?_
            refine ka_last (f := va_up (m.2.2.2 0) (a).toNatClampNeg each) hx hb hK hM 1 (q := 2) hW.1.2.2.1 rfl (i := a) (x := (m.2.2.2 0) (a).toNatClampNeg) (asset_64 hB (by assumption)) dM_price_143 (fun H locs hM => ?_)
            obtain ⟨κ, hM, hW⟩ : ∃ κ', kW D vCl d κ' (kA d κ0 s0.heap.size) s0.heap H locs ∧ MW cI cL κ0 d κ' (mL (mI (mL m 0 (va_up (m.2.2.2 0) (a).toNatClampNeg each)) 1 (va_up (m.2.2.1 1) (a).toNatClampNeg cut)) 0 (va_up (va_up (m.2.2.2 0) (a).toNatClampNeg each) (a).toNatClampNeg ((m.2.2.2 0) (a).toNatClampNeg))) := ⟨_, hM, mw_price _ hW⟩
            refine lv_aload_n hx hb dM_price_144 rfl (lv_at hl 4 rfl) ?_
            refine ka_get (v := .ref (d 3)) (ci := 4) (C := RM) (T := TM) (N := 26) hx hb hts inM hown hK hM.1 (q := 0) hW.1.1 rfl 6 (by decide) (hts _ tw_390) (fun _ h9 => h9) rfl dM_price_145 ?_
            refine lv_iload_n hx hb dM_price_148 rfl (lv_at hl 5 rfl) ?_
            refine lv_iload hx hb dM_price_149 (lv_at hl 0 rfl) ?_
            refine lv_if_ne (tgt := 159) hx hb dM_price_151 (by decide) (fun _ => ?_) (fun c => absurd c (by decide))
            refine lv_iload hx hb dM_price_159 (lv_at hl 2 rfl) ?_
            refine ka_iast (f := va_up (m.2.2.1 1) (a).toNatClampNeg cut) hx hb hK hM 0 (q := 3) hW.1.2.2.2.1 rfl (i := a) (x := (m.2.2.1 1) (a).toNatClampNeg) (asset_64 hB (by assumption)) dM_price_161 (fun H locs hM => ?_)
            obtain ⟨κ, hM, hW⟩ : ∃ κ', kW D vCl d κ' (kA d κ0 s0.heap.size) s0.heap H locs ∧ MW cI cL κ0 d κ' (mI (mL (mI (mL m 0 (va_up (m.2.2.2 0) (a).toNatClampNeg each)) 1 (va_up (m.2.2.1 1) (a).toNatClampNeg cut)) 0 (va_up (va_up (m.2.2.2 0) (a).toNatClampNeg each) (a).toNatClampNeg ((m.2.2.2 0) (a).toNatClampNeg))) 1 (va_up (va_up (m.2.2.1 1) (a).toNatClampNeg cut) (a).toNatClampNeg ((m.2.2.1 1) (a).toNatClampNeg))) := ⟨_, hM, mw_haircut _ hW⟩
            refine lv_iload hx hb dM_price_162 (lv_at hl 0 rfl) ?_
            have hg : g_M_price m a each cut = (9, mI (mL (mI (mL m 0 (va_up (m.2.2.2 0) (a).toNatClampNeg each)) 1 (va_up (m.2.2.1 1) (a).toNatClampNeg cut)) 0 (va_up (va_up (m.2.2.2 0) (a).toNatClampNeg each) (a).toNatClampNeg ((m.2.2.2 0) (a).toNatClampNeg))) 1 (va_up (va_up (m.2.2.1 1) (a).toNatClampNeg cut) (a).toNatClampNeg ((m.2.2.1 1) (a).toNatClampNeg))) := (by rw [← hE, g_M_price_l_s, if_pos c_72, if_neg c_104] : (9, mI (mL (mI (mL m 0 (va_up (m.2.2.2 0) (a).toNatClampNeg each)) 1 (va_up (m.2.2.1 1) (a).toNatClampNeg cut)) 0 (va_up (va_up (m.2.2.2 0) (a).toNatClampNeg each) (a).toNatClampNeg ((m.2.2.2 0) (a).toNatClampNeg))) 1 (va_up (va_up (m.2.2.1 1) (a).toNatClampNeg cut) (a).toNatClampNeg ((m.2.2.1 1) (a).toNatClampNeg))) = g_M_price m a each cut).symm
            exact W.iret (v := 9) hx hb hr (fun t ht h9 => kNi.of hM ht (by rw [hg]; exact ⟨rfl, hW⟩)) hM.2.2.2.2 dM_price_164
        · have hlt : p < m.1 0 := Nat.lt_of_not_le (fun q => c_72 (nI_le q (by omega)))
          refine lv_iload hx hb dM_price_75 (lv_at hl 1 rfl) ?_
          refine lv_if_ne (tgt := 89) hx hb dM_price_77 (by decide) (fun c_77 => ?_) (fun c_77 => ?_)
          · refine lv_iconst (v := 1) hx hb dM_price_89 (by decide) ?_
            refine lv_goto (tgt := 94) hx hb dM_price_90 (by decide) ?_
            refine lv_istore (lv' := [(8, .int (1)), (9, .int (nI p)), (7, .int ((m.2.2.1 1) (a).toNatClampNeg)), (5, .long ((m.2.2.2 0) (a).toNatClampNeg)), (0, .ref (d 0)), (1, .int (a)), (2, .long (each)), (4, .int (cut))]) hx hb dM_price_94 hl (by decide) rfl (fun ls hl => ?_)
            refine lv_iinc (v := nI (p + 1)) (lv' := [(9, .int (nI (p + 1))), (8, .int (1)), (7, .int ((m.2.2.1 1) (a).toNatClampNeg)), (5, .long ((m.2.2.2 0) (a).toNatClampNeg)), (0, .ref (d 0)), (1, .int (a)), (2, .long (each)), (4, .int (cut))]) hx hb dM_price_96 hl (k := 1) rfl (nI_add p 1) (by decide) rfl (fun ls hl => ?_)
            refine lv_goto (tgt := 66) hx hb dM_price_99 (by decide) ?_
            exact ih n (p + 1, 1) ls (by omega) ⟨by omega, by omega, by rw [← hE, g_M_price_l_s, if_neg c_72, if_neg c_77], lv_sub hl [0, 1, 2, 3, 4, 5, 6, 7] rfl⟩
          · refine lv_aload_n hx hb dM_price_80 rfl (lv_at hl 4 rfl) ?_
            refine lv_iload hx hb dM_price_81 (lv_at hl 0 rfl) ?_
            refine vp_callSi (W.runV (C := RM) (As := [.int (nI p)]) (rest := []) ⟨hx, hb, hml, hown, hts⟩ (c_M_isShort l D cI cL cQ d κ (mI (mL m 0 (va_up (m.2.2.2 0) (a).toNatClampNeg each)) 1 (va_up (m.2.2.1 1) (a).toNatClampNeg cut)) hW.1 hB2 _ (nI p)) (cwV 1 hts (k_gV tw_499 tw_501 tw_26 tw_41 tw_502) rfl rfl rfl (by decide +kernel) ⟨Nat.le_of_ble_eq_true rfl, Nat.le_of_ble_eq_true rfl⟩) (kPreV hM.1 hK (q := 0) hW.1.1 rfl) rfl rfl hl.1 rfl (lv_room (Nat.le_of_ble_eq_true rfl)) dM_price_83 ⟨Nat.le_of_ble_eq_true rfl, Nat.le_of_ble_eq_true rfl⟩) (fun r_83 e_83 => ?_)
            subst e_83
            refine lv_if_eq (tgt := 93) hx hb dM_price_86 (by decide) (fun c_86 => ?_) (fun c_86 => ?_)
            · refine lv_iconst (v := 0) hx hb dM_price_93 (by decide) ?_
              refine lv_istore (lv' := [(8, .int (0)), (9, .int (nI p)), (7, .int ((m.2.2.1 1) (a).toNatClampNeg)), (5, .long ((m.2.2.2 0) (a).toNatClampNeg)), (0, .ref (d 0)), (1, .int (a)), (2, .long (each)), (4, .int (cut))]) hx hb dM_price_94 hl (by decide) rfl (fun ls hl => ?_)
              refine lv_iinc (v := nI (p + 1)) (lv' := [(9, .int (nI (p + 1))), (8, .int (0)), (7, .int ((m.2.2.1 1) (a).toNatClampNeg)), (5, .long ((m.2.2.2 0) (a).toNatClampNeg)), (0, .ref (d 0)), (1, .int (a)), (2, .long (each)), (4, .int (cut))]) hx hb dM_price_96 hl (k := 1) rfl (nI_add p 1) (by decide) rfl (fun ls hl => ?_)
              refine lv_goto (tgt := 66) hx hb dM_price_99 (by decide) ?_
              exact ih n (p + 1, 0) ls (by omega) ⟨by omega, by omega, by rw [← hE, g_M_price_l_s, if_neg c_72, if_pos c_77, if_pos c_86], lv_sub hl [0, 1, 2, 3, 4, 5, 6, 7] rfl⟩
            · refine lv_iconst (v := 1) hx hb dM_price_89 (by decide) ?_
              refine lv_goto (tgt := 94) hx hb dM_price_90 (by decide) ?_
              refine lv_istore (lv' := [(8, .int (1)), (9, .int (nI p)), (7, .int ((m.2.2.1 1) (a).toNatClampNeg)), (5, .long ((m.2.2.2 0) (a).toNatClampNeg)), (0, .ref (d 0)), (1, .int (a)), (2, .long (each)), (4, .int (cut))]) hx hb dM_price_94 hl (by decide) rfl (fun ls hl => ?_)
              refine lv_iinc (v := nI (p + 1)) (lv' := [(9, .int (nI (p + 1))), (8, .int (1)), (7, .int ((m.2.2.1 1) (a).toNatClampNeg)), (5, .long ((m.2.2.2 0) (a).toNatClampNeg)), (0, .ref (d 0)), (1, .int (a)), (2, .long (each)), (4, .int (cut))]) hx hb dM_price_96 hl (k := 1) rfl (nI_add p 1) (by decide) rfl (fun ls hl => ?_)
              refine lv_goto (tgt := 66) hx hb dM_price_99 (by decide) ?_
              exact ih n (p + 1, 1) ls (by omega) ⟨by omega, by omega, by rw [← hE, g_M_price_l_s, if_neg c_72, if_pos c_77, if_neg c_86], lv_sub hl [0, 1, 2, 3, 4, 5, 6, 7] rfl⟩
      · refine lv_bipush (v := 8) hx hb dM_price_26 (by decide) ?_
        have hg : g_M_price m a each cut = (8, m) := by rw [g_M_price, if_neg c_5, if_neg c_14, if_pos c_23]
        exact W.iret (v := 8) hx hb hr (fun t ht h9 => kNi.of hM ht (by rw [hg]; exact ⟨rfl, hW⟩)) hM.2.2.2.2 dM_price_28

theorem dM_post_0 : decode prog_6_method_35_code 0 = .ok (.aload_n 0, 1) := by decide +kernel
theorem dM_post_1 : decode prog_6_method_35_code 1 = .ok (.invokevirtual 178, 3) := by decide +kernel
theorem dM_post_4 : decode prog_6_method_35_code 4 = .ok (.ifCond .ne 5, 3) := by decide +kernel
theorem dM_post_7 : decode prog_6_method_35_code 7 = .ok (.iconst 0, 1) := by decide +kernel
theorem dM_post_8 : decode prog_6_method_35_code 8 = .ok (.ireturn, 1) := by decide +kernel
theorem dM_post_9 : decode prog_6_method_35_code 9 = .ok (.iconst 0, 1) := by decide +kernel
theorem dM_post_10 : decode prog_6_method_35_code 10 = .ok (.istore_n 1, 1) := by decide +kernel
theorem dM_post_11 : decode prog_6_method_35_code 11 = .ok (.iload_n 1, 1) := by decide +kernel
theorem dM_post_12 : decode prog_6_method_35_code 12 = .ok (.aload_n 0, 1) := by decide +kernel
theorem dM_post_13 : decode prog_6_method_35_code 13 = .ok (.getfield 160, 3) := by decide +kernel
theorem dM_post_16 : decode prog_6_method_35_code 16 = .ok (.if_icmp .ge 122, 3) := by decide +kernel
theorem dM_post_19 : decode prog_6_method_35_code 19 = .ok (.aload_n 0, 1) := by decide +kernel
theorem dM_post_20 : decode prog_6_method_35_code 20 = .ok (.aload_n 0, 1) := by decide +kernel
theorem dM_post_21 : decode prog_6_method_35_code 21 = .ok (.getfield 54, 3) := by decide +kernel
theorem dM_post_24 : decode prog_6_method_35_code 24 = .ok (.iload_n 1, 1) := by decide +kernel
theorem dM_post_25 : decode prog_6_method_35_code 25 = .ok (.iaload, 1) := by decide +kernel
theorem dM_post_26 : decode prog_6_method_35_code 26 = .ok (.aload_n 0, 1) := by decide +kernel
theorem dM_post_27 : decode prog_6_method_35_code 27 = .ok (.getfield 60, 3) := by decide +kernel
theorem dM_post_30 : decode prog_6_method_35_code 30 = .ok (.iload_n 1, 1) := by decide +kernel
theorem dM_post_31 : decode prog_6_method_35_code 31 = .ok (.iaload, 1) := by decide +kernel
theorem dM_post_32 : decode prog_6_method_35_code 32 = .ok (.aload_n 0, 1) := by decide +kernel
theorem dM_post_33 : decode prog_6_method_35_code 33 = .ok (.getfield 63, 3) := by decide +kernel
theorem dM_post_36 : decode prog_6_method_35_code 36 = .ok (.iload_n 1, 1) := by decide +kernel
theorem dM_post_37 : decode prog_6_method_35_code 37 = .ok (.laload, 1) := by decide +kernel
theorem dM_post_38 : decode prog_6_method_35_code 38 = .ok (.lneg, 1) := by decide +kernel
theorem dM_post_39 : decode prog_6_method_35_code 39 = .ok (.invokevirtual 147, 3) := by decide +kernel
theorem dM_post_42 : decode prog_6_method_35_code 42 = .ok (.aload_n 0, 1) := by decide +kernel
theorem dM_post_43 : decode prog_6_method_35_code 43 = .ok (.aload_n 0, 1) := by decide +kernel
theorem dM_post_44 : decode prog_6_method_35_code 44 = .ok (.getfield 57, 3) := by decide +kernel
theorem dM_post_47 : decode prog_6_method_35_code 47 = .ok (.iload_n 1, 1) := by decide +kernel
theorem dM_post_48 : decode prog_6_method_35_code 48 = .ok (.iaload, 1) := by decide +kernel
theorem dM_post_49 : decode prog_6_method_35_code 49 = .ok (.aload_n 0, 1) := by decide +kernel
theorem dM_post_50 : decode prog_6_method_35_code 50 = .ok (.getfield 60, 3) := by decide +kernel
theorem dM_post_53 : decode prog_6_method_35_code 53 = .ok (.iload_n 1, 1) := by decide +kernel
theorem dM_post_54 : decode prog_6_method_35_code 54 = .ok (.iaload, 1) := by decide +kernel
theorem dM_post_55 : decode prog_6_method_35_code 55 = .ok (.aload_n 0, 1) := by decide +kernel
theorem dM_post_56 : decode prog_6_method_35_code 56 = .ok (.getfield 63, 3) := by decide +kernel
theorem dM_post_59 : decode prog_6_method_35_code 59 = .ok (.iload_n 1, 1) := by decide +kernel
theorem dM_post_60 : decode prog_6_method_35_code 60 = .ok (.laload, 1) := by decide +kernel
theorem dM_post_61 : decode prog_6_method_35_code 61 = .ok (.invokevirtual 147, 3) := by decide +kernel
theorem dM_post_64 : decode prog_6_method_35_code 64 = .ok (.aload_n 0, 1) := by decide +kernel
theorem dM_post_65 : decode prog_6_method_35_code 65 = .ok (.getfield 60, 3) := by decide +kernel
theorem dM_post_68 : decode prog_6_method_35_code 68 = .ok (.iload_n 1, 1) := by decide +kernel
theorem dM_post_69 : decode prog_6_method_35_code 69 = .ok (.iaload, 1) := by decide +kernel
theorem dM_post_70 : decode prog_6_method_35_code 70 = .ok (.aload_n 0, 1) := by decide +kernel
theorem dM_post_71 : decode prog_6_method_35_code 71 = .ok (.getfield 7, 3) := by decide +kernel
theorem dM_post_74 : decode prog_6_method_35_code 74 = .ok (.if_icmp .ne 58, 3) := by decide +kernel
theorem dM_post_77 : decode prog_6_method_35_code 77 = .ok (.aload_n 0, 1) := by decide +kernel
theorem dM_post_78 : decode prog_6_method_35_code 78 = .ok (.getfield 30, 3) := by decide +kernel
theorem dM_post_81 : decode prog_6_method_35_code 81 = .ok (.aload_n 0, 1) := by decide +kernel
theorem dM_post_82 : decode prog_6_method_35_code 82 = .ok (.getfield 78, 3) := by decide +kernel
theorem dM_post_85 : decode prog_6_method_35_code 85 = .ok (.aload_n 0, 1) := by decide +kernel
theorem dM_post_86 : decode prog_6_method_35_code 86 = .ok (.getfield 54, 3) := by decide +kernel
theorem dM_post_89 : decode prog_6_method_35_code 89 = .ok (.iload_n 1, 1) := by decide +kernel
theorem dM_post_90 : decode prog_6_method_35_code 90 = .ok (.iaload, 1) := by decide +kernel
theorem dM_post_91 : decode prog_6_method_35_code 91 = .ok (.iastore, 1) := by decide +kernel
theorem dM_post_92 : decode prog_6_method_35_code 92 = .ok (.aload_n 0, 1) := by decide +kernel
theorem dM_post_93 : decode prog_6_method_35_code 93 = .ok (.getfield 33, 3) := by decide +kernel
theorem dM_post_96 : decode prog_6_method_35_code 96 = .ok (.aload_n 0, 1) := by decide +kernel
theorem dM_post_97 : decode prog_6_method_35_code 97 = .ok (.getfield 78, 3) := by decide +kernel
theorem dM_post_100 : decode prog_6_method_35_code 100 = .ok (.aload_n 0, 1) := by decide +kernel
theorem dM_post_101 : decode prog_6_method_35_code 101 = .ok (.getfield 57, 3) := by decide +kernel
theorem dM_post_104 : decode prog_6_method_35_code 104 = .ok (.iload_n 1, 1) := by decide +kernel
theorem dM_post_105 : decode prog_6_method_35_code 105 = .ok (.iaload, 1) := by decide +kernel
theorem dM_post_106 : decode prog_6_method_35_code 106 = .ok (.iastore, 1) := by decide +kernel
theorem dM_post_107 : decode prog_6_method_35_code 107 = .ok (.aload_n 0, 1) := by decide +kernel
theorem dM_post_108 : decode prog_6_method_35_code 108 = .ok (.getfield 36, 3) := by decide +kernel
theorem dM_post_111 : decode prog_6_method_35_code 111 = .ok (.aload_n 0, 1) := by decide +kernel
theorem dM_post_112 : decode prog_6_method_35_code 112 = .ok (.getfield 78, 3) := by decide +kernel
theorem dM_post_115 : decode prog_6_method_35_code 115 = .ok (.aload_n 0, 1) := by decide +kernel
theorem dM_post_116 : decode prog_6_method_35_code 116 = .ok (.getfield 63, 3) := by decide +kernel
theorem dM_post_119 : decode prog_6_method_35_code 119 = .ok (.iload_n 1, 1) := by decide +kernel
theorem dM_post_120 : decode prog_6_method_35_code 120 = .ok (.laload, 1) := by decide +kernel
theorem dM_post_121 : decode prog_6_method_35_code 121 = .ok (.lastore, 1) := by decide +kernel
theorem dM_post_122 : decode prog_6_method_35_code 122 = .ok (.aload_n 0, 1) := by decide +kernel
theorem dM_post_123 : decode prog_6_method_35_code 123 = .ok (.dup, 1) := by decide +kernel
theorem dM_post_124 : decode prog_6_method_35_code 124 = .ok (.getfield 78, 3) := by decide +kernel
theorem dM_post_127 : decode prog_6_method_35_code 127 = .ok (.iconst 1, 1) := by decide +kernel
theorem dM_post_128 : decode prog_6_method_35_code 128 = .ok (.iadd, 1) := by decide +kernel
theorem dM_post_129 : decode prog_6_method_35_code 129 = .ok (.putfield 78, 3) := by decide +kernel
theorem dM_post_132 : decode prog_6_method_35_code 132 = .ok (.iinc 1 1, 3) := by decide +kernel
theorem dM_post_135 : decode prog_6_method_35_code 135 = .ok (.goto (-124), 3) := by decide +kernel
theorem dM_post_138 : decode prog_6_method_35_code 138 = .ok (.aload_n 0, 1) := by decide +kernel
theorem dM_post_139 : decode prog_6_method_35_code 139 = .ok (.iconst 0, 1) := by decide +kernel
theorem dM_post_140 : decode prog_6_method_35_code 140 = .ok (.putfield 160, 3) := by decide +kernel
theorem dM_post_143 : decode prog_6_method_35_code 143 = .ok (.iconst 1, 1) := by decide +kernel
theorem dM_post_144 : decode prog_6_method_35_code 144 = .ok (.ireturn, 1) := by decide +kernel
def g_M_post_l (m : MS) : Nat → Nat → MS → Int32 × MS
  | 0, _, ms => (0, ms)
  | n + 1, k, ms => if (nI (ms.1 7)) ≤ (nI k) then (1, mN ms 7 0) else (if ((ms.2.2.1 10) (nI k).toNatClampNeg) = ms.2.1 then (g_M_post_l m n (k + 1) (mN (mL (mI (mI (g_M_move (g_M_move ms ((ms.2.2.1 8) (nI k).toNatClampNeg) ((ms.2.2.1 10) (nI k).toNatClampNeg) (-((ms.2.2.2 5) (nI k).toNatClampNeg))) ((ms.2.2.1 9) (nI k).toNatClampNeg) ((ms.2.2.1 10) (nI k).toNatClampNeg) ((ms.2.2.2 5) (nI k).toNatClampNeg)) 3 (va_up (ms.2.2.1 3) (nI (ms.1 4)).toNatClampNeg ((ms.2.2.1 8) (nI k).toNatClampNeg))) 4 (va_up (ms.2.2.1 4) (nI (ms.1 4)).toNatClampNeg ((ms.2.2.1 9) (nI k).toNatClampNeg))) 2 (va_up (ms.2.2.2 2) (nI (ms.1 4)).toNatClampNeg ((ms.2.2.2 5) (nI k).toNatClampNeg))) 4 ((ms.1 4) + 1))) else (g_M_post_l m n (k + 1) (g_M_move (g_M_move ms ((ms.2.2.1 8) (nI k).toNatClampNeg) ((ms.2.2.1 10) (nI k).toNatClampNeg) (-((ms.2.2.2 5) (nI k).toNatClampNeg))) ((ms.2.2.1 9) (nI k).toNatClampNeg) ((ms.2.2.1 10) (nI k).toNatClampNeg) ((ms.2.2.2 5) (nI k).toNatClampNeg))))
theorem g_M_post_l_s (m : MS) (n : Nat) (k : Nat) (ms : MS) : g_M_post_l m (n + 1) k ms = (if (nI (ms.1 7)) ≤ (nI k) then (1, mN ms 7 0) else (if ((ms.2.2.1 10) (nI k).toNatClampNeg) = ms.2.1 then (g_M_post_l m n (k + 1) (mN (mL (mI (mI (g_M_move (g_M_move ms ((ms.2.2.1 8) (nI k).toNatClampNeg) ((ms.2.2.1 10) (nI k).toNatClampNeg) (-((ms.2.2.2 5) (nI k).toNatClampNeg))) ((ms.2.2.1 9) (nI k).toNatClampNeg) ((ms.2.2.1 10) (nI k).toNatClampNeg) ((ms.2.2.2 5) (nI k).toNatClampNeg)) 3 (va_up (ms.2.2.1 3) (nI (ms.1 4)).toNatClampNeg ((ms.2.2.1 8) (nI k).toNatClampNeg))) 4 (va_up (ms.2.2.1 4) (nI (ms.1 4)).toNatClampNeg ((ms.2.2.1 9) (nI k).toNatClampNeg))) 2 (va_up (ms.2.2.2 2) (nI (ms.1 4)).toNatClampNeg ((ms.2.2.2 5) (nI k).toNatClampNeg))) 4 ((ms.1 4) + 1))) else (g_M_post_l m n (k + 1) (g_M_move (g_M_move ms ((ms.2.2.1 8) (nI k).toNatClampNeg) ((ms.2.2.1 10) (nI k).toNatClampNeg) (-((ms.2.2.2 5) (nI k).toNatClampNeg))) ((ms.2.2.1 9) (nI k).toNatClampNeg) ((ms.2.2.1 10) (nI k).toNatClampNeg) ((ms.2.2.2 5) (nI k).toNatClampNeg))))) := rfl
def g_M_post (m : MS) : Int32 × MS := if (f_M_holds m) = 0 then (0, m) else (g_M_post_l m (m.1 7 + 1) 0 m)
set_option maxHeartbeats 4000000 in
set_option maxRecDepth 100000 in
theorem c_M_post (l : Launch) (D : va_G) (cI cL cQ : ClassId) (d : Nat → Nat) (κ0 : Nat → Option va_E) (m : MS) (hm : IsM cI cL d κ0 m) (hB : MB m) (sz : Nat)  (hp1 : m.1 3 + 2 * m.1 7 ≤ 1040) (hp2 : m.1 4 + m.1 7 ≤ 520) : Met l yM_post wM_post { frames := 6, cells := 0, slots := 0, locals := 143 } (va_Pc [.ref (d 0)] (kC D vCl (kT cI cL cQ) d κ0 sz)) (kNi D vCl d (kA d κ0 sz) (fun r κ' => r = (g_M_post m).1 ∧ MW cI cL κ0 d κ' (g_M_post m).2)) 0 0 (kA d κ0 sz) := by
  refine kMet (by decide) (Nat.le_of_ble_eq_true rfl) ?_
  intro p0 e0 s0 m0 below0 meth0 c0 hx hb hr hml hown hlocks hin hts hsz hP hK ls hl
  subst hsz
  have hl : lv_has ls 2 [(0, .ref (d 0))] := hl
  have hB9 := hB
  obtain ⟨hb0, hb1, hb2, hb3, hb4, hb5, hb6, hb7, hb8, hb9, hb10⟩ := hB9
  obtain ⟨κ, hM, hW⟩ : ∃ κ', kW D vCl d κ' (kA d κ0 s0.heap.size) s0.heap s0.heap [] ∧ MW cI cL κ0 d κ' m := ⟨κ0, kW.start hP, ⟨hm, fun _ _ => rfl⟩⟩
  refine lv_aload_n hx hb dM_post_0 rfl (lv_at hl 0 rfl) ?_
  refine vp_callSi (W.runV (C := RM) (As := []) (rest := []) ⟨hx, hb, hml, hown, hts⟩ (c_M_holds l D cI cL cQ d κ m hW.1 hB _ ) (cwV 0 hts (k_gV tw_612 tw_592 tw_593 tw_41 tw_594) rfl rfl rfl (by decide +kernel) ⟨Nat.le_of_ble_eq_true rfl, Nat.le_of_ble_eq_true rfl⟩) (kPreV hM.1 hK (q := 0) hW.1.1 rfl) rfl rfl hl.1 rfl (lv_room (Nat.le_of_ble_eq_true rfl)) dM_post_1 ⟨Nat.le_of_ble_eq_true rfl, Nat.le_of_ble_eq_true rfl⟩) (fun r_1 e_1 => ?_)
  subst e_1
  refine lv_if_ne (tgt := 9) hx hb dM_post_4 (by decide) (fun c_4 => ?_) (fun c_4 => ?_)
  · refine lv_iconst (v := 0) hx hb dM_post_9 (by decide) ?_
    refine lv_istore_n (lv' := [(1, .int (0)), (0, .ref (d 0))]) hx hb dM_post_10 rfl hl (by decide) rfl (fun ls hl => ?_)
    refine k_recW (σ := Nat × MS × (Nat → Option va_E)) (fun n z9 H locs ls => z9.1 ≤ m.1 7 ∧ m.1 7 < z9.1 + n ∧ g_M_post_l m n z9.1 z9.2.1 = g_M_post m ∧ kW D vCl d z9.2.2 (kA d κ0 s0.heap.size) s0.heap H locs ∧ MW cI cL κ0 d z9.2.2 z9.2.1 ∧ (MB z9.2.1 ∧ z9.2.1.1 7 = m.1 7 ∧ z9.2.1.1 3 + 2 * (m.1 7 - z9.1) ≤ 1040 ∧ z9.2.1.1 4 + (m.1 7 - z9.1) ≤ 520) ∧ lv_has ls 2 [(1, .int (nI z9.1)), (0, .ref (d 0))]) (m.1 7 + 1) (0, m, κ) ⟨by omega, by omega, by rw [g_M_post, if_neg c_4], hM, hW, ⟨hB, rfl, by omega, by omega⟩, lv_sub hl [0, 1] rfl⟩ ?_
    intro n z9 H locs ls hI ih
    obtain ⟨k, ms, κ⟩ := z9
    obtain ⟨hk, hn, hE, hM, hW, hx9, hl⟩ := hI
    dsimp only at hk hn hE hM hW hx9 hl
    obtain ⟨n, rfl⟩ : ∃ q, n = q + 1 := ⟨n - 1, by omega⟩
    refine lv_iload_n hx hb dM_post_11 rfl (lv_at hl 0 rfl) ?_
    refine lv_aload_n hx hb dM_post_12 rfl (lv_at hl 1 rfl) ?_
    refine ka_get (v := .int (nI (ms.1 7))) (ci := 4) (C := RM) (T := TM) (N := 26) hx hb hts inM hown hK hM.1 (q := 0) hW.1.1 rfl 21 (by decide) (hts _ tw_405) (fun _ h9 => h9) rfl dM_post_13 ?_
    refine lv_icmp_ge (tgt := 138) hx hb dM_post_16 (by decide) (fun c_16 => ?_) (fun c_16 => ?_)
    · refine lv_aload_n hx hb dM_post_138 rfl (lv_at hl 1 rfl) ?_
      refine lv_iconst (v := 0) hx hb dM_post_139 (by decide) ?_
      refine ka_put (D := D) (ci := 4) (v := .int (0)) (ty := .int) (C := RM) (T := TM) (N := 26) hx hb hts inM tM tM_ok nM hown hK hM (q := 0) hW.1.1 rfl 21 (by decide) (hts _ tw_405) (fun _ h9 => h9) rfl (by decide +kernel) rfl rfl (Nat.le_of_ble_eq_true rfl) dM_post_140 (fun H locs hM => ?_)
      obtain ⟨κ, hM, hW⟩ : ∃ κ', kW D vCl d κ' (kA d κ0 s0.heap.size) s0.heap H locs ∧ MW cI cL κ0 d κ' (mN ms 7 0) := ⟨_, hM, mw_legs 0 hW⟩
      refine lv_iconst (v := 1) hx hb dM_post_143 (by decide) ?_
      have hg : g_M_post m = (1, mN ms 7 0) := (by rw [← hE, g_M_post_l_s, if_pos c_16] : (1, mN ms 7 0) = g_M_post m).symm
      exact W.zret (v := 1) hx hb hr k_nar1 (fun t ht h9 => kNi.of hM ht (by rw [hg]; exact ⟨rfl, hW⟩)) hM.2.2.2.2 dM_post_144
    · have hlt : k < m.1 7 := Nat.lt_of_not_le (fun q => c_16 (nI_le (by rw [hx9.2.1]; exact q) (by omega)))
      refine lv_aload_n hx hb dM_post_19 rfl (lv_at hl 1 rfl) ?_
      refine lv_aload_n hx hb dM_post_20 rfl (lv_at hl 1 rfl) ?_
      refine ka_get (v := .ref (d 14)) (ci := 4) (C := RM) (T := TM) (N := 26) hx hb hts inM hown hK hM.1 (q := 0) hW.1.1 rfl 22 (by decide) (hts _ tw_406) (fun _ h9 => h9) rfl dM_post_21 ?_
      refine lv_iload_n hx hb dM_post_24 rfl (lv_at hl 0 rfl) ?_
      refine ka_iald (f := ms.2.2.1 8) hx hb hK hM.1 0 (q := 14) hW.1.2.2.2.2.2.2.2.2.2.2.2.2.2.2.1 rfl (by first | assumption | exact vp_in_nI (by omega) (by omega)) dM_post_25 ?_
      refine lv_aload_n hx hb dM_post_26 rfl (lv_at hl 1 rfl) ?_
      refine ka_get (v := .ref (d 16)) (ci := 4) (C := RM) (T := TM) (N := 26) hx hb hts inM hown hK hM.1 (q := 0) hW.1.1 rfl 24 (by decide) (hts _ tw_408) (fun _ h9 => h9) rfl dM_post_27 ?_
      refine lv_iload_n hx hb dM_post_30 rfl (lv_at hl 0 rfl) ?_
      refine ka_iald (f := ms.2.2.1 10) hx hb hK hM.1 0 (q := 16) hW.1.2.2.2.2.2.2.2.2.2.2.2.2.2.2.2.2.1 rfl (by first | assumption | exact vp_in_nI (by omega) (by omega)) dM_post_31 ?_
      refine lv_aload_n hx hb dM_post_32 rfl (lv_at hl 1 rfl) ?_
      refine ka_get (v := .ref (d 17)) (ci := 4) (C := RM) (T := TM) (N := 26) hx hb hts inM hown hK hM.1 (q := 0) hW.1.1 rfl 25 (by decide) (hts _ tw_409) (fun _ h9 => h9) rfl dM_post_33 ?_
      refine lv_iload_n hx hb dM_post_36 rfl (lv_at hl 0 rfl) ?_
      refine ka_lald (f := ms.2.2.2 5) hx hb hK hM.1 1 (q := 17) hW.1.2.2.2.2.2.2.2.2.2.2.2.2.2.2.2.2.2 rfl (by first | assumption | exact vp_in_nI (by omega) (by omega)) dM_post_37 ?_
      refine lv_lneg hx hb dM_post_38 ?_
      refine ka_ncallv (W.runV (C := RM) (As := [.int ((ms.2.2.1 8) (nI k).toNatClampNeg), .int ((ms.2.2.1 10) (nI k).toNatClampNeg), .long (-((ms.2.2.2 5) (nI k).toNatClampNeg))]) (rest := []) ⟨hx, hb, hml, hown, hts⟩ (c_M_move l D cI cL cQ d κ ms hW.1 hx9.1 _ ((ms.2.2.1 8) (nI k).toNatClampNeg) ((ms.2.2.1 10) (nI k).toNatClampNeg) (-((ms.2.2.2 5) (nI k).toNatClampNeg)) (by have h9 := hx9.2.2.1; omega)) (cwV 3 hts (k_gV tw_537 tw_539 tw_32 tw_41 tw_540) rfl rfl rfl (by decide +kernel) ⟨Nat.le_of_ble_eq_true rfl, Nat.le_of_ble_eq_true rfl⟩) (kPreV hM.1 hK (q := 0) hW.1.1 rfl) rfl rfl hl.1 rfl (lv_room (Nat.le_of_ble_eq_true rfl)) dM_post_39 ⟨Nat.le_of_ble_eq_true rfl, Nat.le_of_ble_eq_true rfl⟩) hM (fun _ h9 => Or.inr h9) (fun κ1 H locs hW1 hM => ?_)
      obtain ⟨κ, hM, hW⟩ : ∃ κ', kW D vCl d κ' (kA d κ0 s0.heap.size) s0.heap H locs ∧ MW cI cL κ0 d κ' (g_M_move ms ((ms.2.2.1 8) (nI k).toNatClampNeg) ((ms.2.2.1 10) (nI k).toNatClampNeg) (-((ms.2.2.2 5) (nI k).toNatClampNeg))) := ⟨κ1, hM, hW.trans hW1⟩
      refine lv_aload_n hx hb dM_post_42 rfl (lv_at hl 1 rfl) ?_
      refine lv_aload_n hx hb dM_post_43 rfl (lv_at hl 1 rfl) ?_
      refine ka_get (v := .ref (d 15)) (ci := 4) (C := RM) (T := TM) (N := 26) hx hb hts inM hown hK hM.1 (q := 0) hW.1.1 rfl 23 (by decide) (hts _ tw_407) (fun _ h9 => h9) rfl dM_post_44 ?_
      refine lv_iload_n hx hb dM_post_47 rfl (lv_at hl 0 rfl) ?_
      refine ka_iald (f := ms.2.2.1 9) hx hb hK hM.1 0 (q := 15) hW.1.2.2.2.2.2.2.2.2.2.2.2.2.2.2.2.1 rfl (by first | assumption | exact vp_in_nI (by omega) (by omega)) dM_post_48 ?_
      refine lv_aload_n hx hb dM_post_49 rfl (lv_at hl 1 rfl) ?_
      refine ka_get (v := .ref (d 16)) (ci := 4) (C := RM) (T := TM) (N := 26) hx hb hts inM hown hK hM.1 (q := 0) hW.1.1 rfl 24 (by decide) (hts _ tw_408) (fun _ h9 => h9) rfl dM_post_50 ?_
      refine lv_iload_n hx hb dM_post_53 rfl (lv_at hl 0 rfl) ?_
      refine ka_iald (f := ms.2.2.1 10) hx hb hK hM.1 0 (q := 16) hW.1.2.2.2.2.2.2.2.2.2.2.2.2.2.2.2.2.1 rfl (by first | assumption | exact vp_in_nI (by omega) (by omega)) dM_post_54 ?_
      refine lv_aload_n hx hb dM_post_55 rfl (lv_at hl 1 rfl) ?_
      refine ka_get (v := .ref (d 17)) (ci := 4) (C := RM) (T := TM) (N := 26) hx hb hts inM hown hK hM.1 (q := 0) hW.1.1 rfl 25 (by decide) (hts _ tw_409) (fun _ h9 => h9) rfl dM_post_56 ?_
      refine lv_iload_n hx hb dM_post_59 rfl (lv_at hl 0 rfl) ?_
      refine ka_lald (f := ms.2.2.2 5) hx hb hK hM.1 1 (q := 17) hW.1.2.2.2.2.2.2.2.2.2.2.2.2.2.2.2.2.2 rfl (by first | assumption | exact vp_in_nI (by omega) (by omega)) dM_post_60 ?_
      refine ka_ncallv (W.runV (C := RM) (As := [.int ((ms.2.2.1 9) (nI k).toNatClampNeg), .int ((ms.2.2.1 10) (nI k).toNatClampNeg), .long ((ms.2.2.2 5) (nI k).toNatClampNeg)]) (rest := []) ⟨hx, hb, hml, hown, hts⟩ (c_M_move l D cI cL cQ d κ (g_M_move ms ((ms.2.2.1 8) (nI k).toNatClampNeg) ((ms.2.2.1 10) (nI k).toNatClampNeg) (-((ms.2.2.2 5) (nI k).toNatClampNeg))) hW.1 (MB_move hx9.1 (by have h9 := hx9.2.2.1; omega)) _ ((ms.2.2.1 9) (nI k).toNatClampNeg) ((ms.2.2.1 10) (nI k).toNatClampNeg) ((ms.2.2.2 5) (nI k).toNatClampNeg) (by show ms.1 3 + 1 < 1040; have h9 := hx9.2.2.1; omega)) (cwV 3 hts (k_gV tw_537 tw_539 tw_32 tw_41 tw_540) rfl rfl rfl (by decide +kernel) ⟨Nat.le_of_ble_eq_true rfl, Nat.le_of_ble_eq_true rfl⟩) (kPreV hM.1 hK (q := 0) hW.1.1 rfl) rfl rfl hl.1 rfl (lv_room (Nat.le_of_ble_eq_true rfl)) dM_post_61 ⟨Nat.le_of_ble_eq_true rfl, Nat.le_of_ble_eq_true rfl⟩) hM (fun _ h9 => Or.inr h9) (fun κ1 H locs hW1 hM => ?_)
      obtain ⟨κ, hM, hW⟩ : ∃ κ', kW D vCl d κ' (kA d κ0 s0.heap.size) s0.heap H locs ∧ MW cI cL κ0 d κ' (g_M_move (g_M_move ms ((ms.2.2.1 8) (nI k).toNatClampNeg) ((ms.2.2.1 10) (nI k).toNatClampNeg) (-((ms.2.2.2 5) (nI k).toNatClampNeg))) ((ms.2.2.1 9) (nI k).toNatClampNeg) ((ms.2.2.1 10) (nI k).toNatClampNeg) ((ms.2.2.2 5) (nI k).toNatClampNeg)) := ⟨κ1, hM, hW.trans hW1⟩
      refine lv_aload_n hx hb dM_post_64 rfl (lv_at hl 1 rfl) ?_
      refine ka_get (v := .ref (d 16)) (ci := 4) (C := RM) (T := TM) (N := 26) hx hb hts inM hown hK hM.1 (q := 0) hW.1.1 rfl 24 (by decide) (hts _ tw_408) (fun _ h9 => h9) rfl dM_post_65 ?_
      refine lv_iload_n hx hb dM_post_68 rfl (lv_at hl 0 rfl) ?_
      refine ka_iald (f := ms.2.2.1 10) hx hb hK hM.1 0 (q := 16) hW.1.2.2.2.2.2.2.2.2.2.2.2.2.2.2.2.2.1 rfl (by first | assumption | exact vp_in_nI (by omega) (by omega)) dM_post_69 ?_
      refine lv_aload_n hx hb dM_post_70 rfl (lv_at hl 1 rfl) ?_
      refine ka_get (v := .int (ms.2.1)) (ci := 4) (C := RM) (T := TM) (N := 26) hx hb hts inM hown hK hM.1 (q := 0) hW.1.1 rfl 3 (by decide) (hts _ tw_387) (fun _ h9 => h9) rfl dM_post_71 ?_
      refine lv_icmp_ne (tgt := 132) hx hb dM_post_74 (by decide) (fun c_74 => ?_) (fun c_74 => ?_)
      · refine lv_iinc (v := nI (k + 1)) (lv' := [(1, .int (nI (k + 1))), (0, .ref (d 0))]) hx hb dM_post_132 hl (k := 0) rfl (nI_add k 1) (by decide) rfl (fun ls hl => ?_)
        refine lv_goto (tgt := 11) hx hb dM_post_135 (by decide) ?_
        exact ih n (k + 1, g_M_move (g_M_move ms ((ms.2.2.1 8) (nI k).toNatClampNeg) ((ms.2.2.1 10) (nI k).toNatClampNeg) (-((ms.2.2.2 5) (nI k).toNatClampNeg))) ((ms.2.2.1 9) (nI k).toNatClampNeg) ((ms.2.2.1 10) (nI k).toNatClampNeg) ((ms.2.2.2 5) (nI k).toNatClampNeg), κ) H locs ls (by omega) ⟨by omega, by omega, by rw [← hE, g_M_post_l_s, if_neg c_16, if_neg c_74], hM, hW, ⟨MB_move (MB_move hx9.1 (by have h9 := hx9.2.2.1; omega)) (by show ms.1 3 + 1 < 1040; have h9 := hx9.2.2.1; omega), hx9.2.1, (by show ms.1 3 + 1 + 1 + 2 * (m.1 7 - (k + 1)) ≤ 1040; have h9 := hx9.2.2.1; omega), (by show ms.1 4 + (m.1 7 - (k + 1)) ≤ 520; have h9 := hx9.2.2.2; omega)⟩, lv_sub hl [0, 1] rfl⟩
      · refine lv_aload_n hx hb dM_post_77 rfl (lv_at hl 1 rfl) ?_
        refine ka_get (v := .ref (d 6)) (ci := 4) (C := RM) (T := TM) (N := 26) hx hb hts inM hown hK hM.1 (q := 0) hW.1.1 rfl 11 (by decide) (hts _ tw_395) (fun _ h9 => h9) rfl dM_post_78 ?_
        refine lv_aload_n hx hb dM_post_81 rfl (lv_at hl 1 rfl) ?_
        refine ka_get (v := .int (nI (ms.1 4))) (ci := 4) (C := RM) (T := TM) (N := 26) hx hb hts inM hown hK hM.1 (q := 0) hW.1.1 rfl 10 (by decide) (hts _ tw_394) (fun _ h9 => h9) rfl dM_post_82 ?_
        refine lv_aload_n hx hb dM_post_85 rfl (lv_at hl 1 rfl) ?_
        refine ka_get (v := .ref (d 14)) (ci := 4) (C := RM) (T := TM) (N := 26) hx hb hts inM hown hK hM.1 (q := 0) hW.1.1 rfl 22 (by decide) (hts _ tw_406) (fun _ h9 => h9) rfl dM_post_86 ?_
        refine lv_iload_n hx hb dM_post_89 rfl (lv_at hl 0 rfl) ?_
        refine ka_iald (f := ms.2.2.1 8) hx hb hK hM.1 0 (q := 14) hW.1.2.2.2.2.2.2.2.2.2.2.2.2.2.2.1 rfl (by first | assumption | exact vp_in_nI (by omega) (by omega)) dM_post_90 ?_
        refine ka_iast (f := ms.2.2.1 3) hx hb hK hM 0 (q := 6) hW.1.2.2.2.2.2.2.1 rfl (i := nI (ms.1 4)) (x := (ms.2.2.1 8) (nI k).toNatClampNeg) (vp_in_nI (by have h9 := hx9.2.2.2; omega) (by omega)) dM_post_91 (fun H locs hM => ?_)
        obtain ⟨κ, hM, hW⟩ : ∃ κ', kW D vCl d κ' (kA d κ0 s0.heap.size) s0.heap H locs ∧ MW cI cL κ0 d κ' (mI (g_M_move (g_M_move ms ((ms.2.2.1 8) (nI k).toNatClampNeg) ((ms.2.2.1 10) (nI k).toNatClampNeg) (-((ms.2.2.2 5) (nI k).toNatClampNeg))) ((ms.2.2.1 9) (nI k).toNatClampNeg) ((ms.2.2.1 10) (nI k).toNatClampNeg) ((ms.2.2.2 5) (nI k).toNatClampNeg)) 3 (va_up (ms.2.2.1 3) (nI (ms.1 4)).toNatClampNeg ((ms.2.2.1 8) (nI k).toNatClampNeg))) := ⟨_, hM, mw_payer _ hW⟩
        refine lv_aload_n hx hb dM_post_92 rfl (lv_at hl 1 rfl) ?_
        refine ka_get (v := .ref (d 7)) (ci := 4) (C := RM) (T := TM) (N := 26) hx hb hts inM hown hK hM.1 (q := 0) hW.1.1 rfl 12 (by decide) (hts _ tw_396) (fun _ h9 => h9) rfl dM_post_93 ?_
        refine lv_aload_n hx hb dM_post_96 rfl (lv_at hl 1 rfl) ?_
        refine ka_get (v := .int (nI (ms.1 4))) (ci := 4) (C := RM) (T := TM) (N := 26) hx hb hts inM hown hK hM.1 (q := 0) hW.1.1 rfl 10 (by decide) (hts _ tw_394) (fun _ h9 => h9) rfl dM_post_97 ?_
        refine lv_aload_n hx hb dM_post_100 rfl (lv_at hl 1 rfl) ?_
        refine ka_get (v := .ref (d 15)) (ci := 4) (C := RM) (T := TM) (N := 26) hx hb hts inM hown hK hM.1 (q := 0) hW.1.1 rfl 23 (by decide) (hts _ tw_407) (fun _ h9 => h9) rfl dM_post_101 ?_
        refine lv_iload_n hx hb dM_post_104 rfl (lv_at hl 0 rfl) ?_
        refine ka_iald (f := ms.2.2.1 9) hx hb hK hM.1 0 (q := 15) hW.1.2.2.2.2.2.2.2.2.2.2.2.2.2.2.2.1 rfl (by first | assumption | exact vp_in_nI (by omega) (by omega)) dM_post_105 ?_
        refine ka_iast (f := ms.2.2.1 4) hx hb hK hM 0 (q := 7) hW.1.2.2.2.2.2.2.2.1 rfl (i := nI (ms.1 4)) (x := (ms.2.2.1 9) (nI k).toNatClampNeg) (vp_in_nI (by have h9 := hx9.2.2.2; omega) (by omega)) dM_post_106 (fun H locs hM => ?_)
        obtain ⟨κ, hM, hW⟩ : ∃ κ', kW D vCl d κ' (kA d κ0 s0.heap.size) s0.heap H locs ∧ MW cI cL κ0 d κ' (mI (mI (g_M_move (g_M_move ms ((ms.2.2.1 8) (nI k).toNatClampNeg) ((ms.2.2.1 10) (nI k).toNatClampNeg) (-((ms.2.2.2 5) (nI k).toNatClampNeg))) ((ms.2.2.1 9) (nI k).toNatClampNeg) ((ms.2.2.1 10) (nI k).toNatClampNeg) ((ms.2.2.2 5) (nI k).toNatClampNeg)) 3 (va_up (ms.2.2.1 3) (nI (ms.1 4)).toNatClampNeg ((ms.2.2.1 8) (nI k).toNatClampNeg))) 4 (va_up (ms.2.2.1 4) (nI (ms.1 4)).toNatClampNeg ((ms.2.2.1 9) (nI k).toNatClampNeg))) := ⟨_, hM, mw_payee _ hW⟩
        refine lv_aload_n hx hb dM_post_107 rfl (lv_at hl 1 rfl) ?_
        refine ka_get (v := .ref (d 8)) (ci := 4) (C := RM) (T := TM) (N := 26) hx hb hts inM hown hK hM.1 (q := 0) hW.1.1 rfl 13 (by decide) (hts _ tw_397) (fun _ h9 => h9) rfl dM_post_108 ?_
        refine lv_aload_n hx hb dM_post_111 rfl (lv_at hl 1 rfl) ?_
        refine ka_get (v := .int (nI (ms.1 4))) (ci := 4) (C := RM) (T := TM) (N := 26) hx hb hts inM hown hK hM.1 (q := 0) hW.1.1 rfl 10 (by decide) (hts _ tw_394) (fun _ h9 => h9) rfl dM_post_112 ?_
        refine lv_aload_n hx hb dM_post_115 rfl (lv_at hl 1 rfl) ?_
        refine ka_get (v := .ref (d 17)) (ci := 4) (C := RM) (T := TM) (N := 26) hx hb hts inM hown hK hM.1 (q := 0) hW.1.1 rfl 25 (by decide) (hts _ tw_409) (fun _ h9 => h9) rfl dM_post_116 ?_
        refine lv_iload_n hx hb dM_post_119 rfl (lv_at hl 0 rfl) ?_
        refine ka_lald (f := ms.2.2.2 5) hx hb hK hM.1 1 (q := 17) hW.1.2.2.2.2.2.2.2.2.2.2.2.2.2.2.2.2.2 rfl (by first | assumption | exact vp_in_nI (by omega) (by omega)) dM_post_120 ?_
        refine ka_last (f := ms.2.2.2 2) hx hb hK hM 1 (q := 8) hW.1.2.2.2.2.2.2.2.2.1 rfl (i := nI (ms.1 4)) (x := (ms.2.2.2 5) (nI k).toNatClampNeg) (vp_in_nI (by have h9 := hx9.2.2.2; omega) (by omega)) dM_post_121 (fun H locs hM => ?_)
        obtain ⟨κ, hM, hW⟩ : ∃ κ', kW D vCl d κ' (kA d κ0 s0.heap.size) s0.heap H locs ∧ MW cI cL κ0 d κ' (mL (mI (mI (g_M_move (g_M_move ms ((ms.2.2.1 8) (nI k).toNatClampNeg) ((ms.2.2.1 10) (nI k).toNatClampNeg) (-((ms.2.2.2 5) (nI k).toNatClampNeg))) ((ms.2.2.1 9) (nI k).toNatClampNeg) ((ms.2.2.1 10) (nI k).toNatClampNeg) ((ms.2.2.2 5) (nI k).toNatClampNeg)) 3 (va_up (ms.2.2.1 3) (nI (ms.1 4)).toNatClampNeg ((ms.2.2.1 8) (nI k).toNatClampNeg))) 4 (va_up (ms.2.2.1 4) (nI (ms.1 4)).toNatClampNeg ((ms.2.2.1 9) (nI k).toNatClampNeg))) 2 (va_up (ms.2.2.2 2) (nI (ms.1 4)).toNatClampNeg ((ms.2.2.2 5) (nI k).toNatClampNeg))) := ⟨_, hM, mw_paid _ hW⟩
        refine lv_aload_n hx hb dM_post_122 rfl (lv_at hl 1 rfl) ?_
        refine lv_dup hx hb dM_post_123 rfl ?_
        refine ka_get (v := .int (nI (ms.1 4))) (ci := 4) (C := RM) (T := TM) (N := 26) hx hb hts inM hown hK hM.1 (q := 0) hW.1.1 rfl 10 (by decide) (hts _ tw_394) (fun _ h9 => h9) rfl dM_post_124 ?_
        refine lv_iconst (v := 1) hx hb dM_post_127 (by decide) ?_
        refine lv_iadd hx hb dM_post_128 ?_
        refine k_topi (show nI (ms.1 4) + 1 = nI ((ms.1 4) + 1) from nI_add _ _) ?_
        refine ka_put (D := D) (ci := 4) (v := .int (nI ((ms.1 4) + 1))) (ty := .int) (C := RM) (T := TM) (N := 26) hx hb hts inM tM tM_ok nM hown hK hM (q := 0) hW.1.1 rfl 10 (by decide) (hts _ tw_394) (fun _ h9 => h9) rfl (by decide +kernel) rfl rfl (Nat.le_of_ble_eq_true rfl) dM_post_129 (fun H locs hM => ?_)
        obtain ⟨κ, hM, hW⟩ : ∃ κ', kW D vCl d κ' (kA d κ0 s0.heap.size) s0.heap H locs ∧ MW cI cL κ0 d κ' (mN (mL (mI (mI (g_M_move (g_M_move ms ((ms.2.2.1 8) (nI k).toNatClampNeg) ((ms.2.2.1 10) (nI k).toNatClampNeg) (-((ms.2.2.2 5) (nI k).toNatClampNeg))) ((ms.2.2.1 9) (nI k).toNatClampNeg) ((ms.2.2.1 10) (nI k).toNatClampNeg) ((ms.2.2.2 5) (nI k).toNatClampNeg)) 3 (va_up (ms.2.2.1 3) (nI (ms.1 4)).toNatClampNeg ((ms.2.2.1 8) (nI k).toNatClampNeg))) 4 (va_up (ms.2.2.1 4) (nI (ms.1 4)).toNatClampNeg ((ms.2.2.1 9) (nI k).toNatClampNeg))) 2 (va_up (ms.2.2.2 2) (nI (ms.1 4)).toNatClampNeg ((ms.2.2.2 5) (nI k).toNatClampNeg))) 4 ((ms.1 4) + 1)) := ⟨_, hM, mw_payments ((ms.1 4) + 1) hW⟩
        refine lv_iinc (v := nI (k + 1)) (lv' := [(1, .int (nI (k + 1))), (0, .ref (d 0))]) hx hb dM_post_132 hl (k := 0) rfl (nI_add k 1) (by decide) rfl (fun ls hl => ?_)
        refine lv_goto (tgt := 11) hx hb dM_post_135 (by decide) ?_
        exact ih n (k + 1, mN (mL (mI (mI (g_M_move (g_M_move ms ((ms.2.2.1 8) (nI k).toNatClampNeg) ((ms.2.2.1 10) (nI k).toNatClampNeg) (-((ms.2.2.2 5) (nI k).toNatClampNeg))) ((ms.2.2.1 9) (nI k).toNatClampNeg) ((ms.2.2.1 10) (nI k).toNatClampNeg) ((ms.2.2.2 5) (nI k).toNatClampNeg)) 3 (va_up (ms.2.2.1 3) (nI (ms.1 4)).toNatClampNeg ((ms.2.2.1 8) (nI k).toNatClampNeg))) 4 (va_up (ms.2.2.1 4) (nI (ms.1 4)).toNatClampNeg ((ms.2.2.1 9) (nI k).toNatClampNeg))) 2 (va_up (ms.2.2.2 2) (nI (ms.1 4)).toNatClampNeg ((ms.2.2.2 5) (nI k).toNatClampNeg))) 4 ((ms.1 4) + 1), κ) H locs ls (by omega) ⟨by omega, by omega, by rw [← hE, g_M_post_l_s, if_neg c_16, if_pos c_74], hM, hW, ⟨MB_pay (MB_move (MB_move hx9.1 (by have h9 := hx9.2.2.1; omega)) (by show ms.1 3 + 1 < 1040; have h9 := hx9.2.2.1; omega)) (by show ms.1 4 < 520; have h9 := hx9.2.2.2; omega), hx9.2.1, (by show ms.1 3 + 1 + 1 + 2 * (m.1 7 - (k + 1)) ≤ 1040; have h9 := hx9.2.2.1; omega), (by show ms.1 4 + 1 + (m.1 7 - (k + 1)) ≤ 520; have h9 := hx9.2.2.2; omega)⟩, lv_sub hl [0, 1] rfl⟩
  · refine lv_iconst (v := 0) hx hb dM_post_7 (by decide) ?_
    have hg : g_M_post m = (0, m) := by rw [g_M_post, if_pos c_4]
    exact W.zret (v := 0) hx hb hr k_nar0 (fun t ht h9 => kNi.of hM ht (by rw [hg]; exact ⟨rfl, hW⟩)) hM.2.2.2.2 dM_post_8
