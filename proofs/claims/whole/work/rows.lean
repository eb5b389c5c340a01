section
-- ===== PART A: goes FIRST, ahead of the names: the tables' words, and 'selects' of the private methods out of them =====
/-- a private method of a class that the tables say can be made, by its rows of tables_1 -/
def lw_okq (q : MethodName × Nat) : Prop := (q.1.cls ≠ "java/lang/invoke/MethodHandle" ∧ q.1.cls ≠ "java/lang/invoke/VarHandle") ∧ Cond.instantiable q.1.cls q.2 ∈ tables_1 ∧ Cond.privateMethod q.1 ∈ tables_1 ∧ Cond.instanceMethod q.1 ∈ tables_1
theorem lw_p0 : lw_okq (⟨"PositionDesk", "addAsset", "(ZJ)I"⟩, 10) := ⟨⟨by decide +kernel, by decide +kernel⟩, List.mem_of_getElem? (i := 8) (by decide +kernel), List.mem_of_getElem? (i := 98) (by decide +kernel), List.mem_of_getElem? (i := 99) (by decide +kernel)⟩
theorem lw_p1 : lw_okq (⟨"PositionDesk", "securityAt", "(I)LPositionDesk$Asset;"⟩, 10) := ⟨⟨by decide +kernel, by decide +kernel⟩, List.mem_of_getElem? (i := 8) (by decide +kernel), List.mem_of_getElem? (i := 139) (by decide +kernel), List.mem_of_getElem? (i := 140) (by decide +kernel)⟩
theorem lw_p2 : lw_okq (⟨"PositionDesk", "assetAt", "(I)LPositionDesk$Asset;"⟩, 10) := ⟨⟨by decide +kernel, by decide +kernel⟩, List.mem_of_getElem? (i := 8) (by decide +kernel), List.mem_of_getElem? (i := 143) (by decide +kernel), List.mem_of_getElem? (i := 144) (by decide +kernel)⟩
theorem lw_p3 : lw_okq (⟨"PositionDesk", "faultOfRate", "(LPositionDesk$Asset;J)I"⟩, 10) := ⟨⟨by decide +kernel, by decide +kernel⟩, List.mem_of_getElem? (i := 8) (by decide +kernel), List.mem_of_getElem? (i := 147) (by decide +kernel), List.mem_of_getElem? (i := 148) (by decide +kernel)⟩
theorem lw_p4 : lw_okq (⟨"PositionDesk", "creditWith", "(LPositionDesk$Asset;IJJ)J"⟩, 10) := ⟨⟨by decide +kernel, by decide +kernel⟩, List.mem_of_getElem? (i := 8) (by decide +kernel), List.mem_of_getElem? (i := 151) (by decide +kernel), List.mem_of_getElem? (i := 152) (by decide +kernel)⟩
theorem lw_p5 : lw_okq (⟨"PositionDesk", "isOverdrawn", "(IJ)Z"⟩, 10) := ⟨⟨by decide +kernel, by decide +kernel⟩, List.mem_of_getElem? (i := 8) (by decide +kernel), List.mem_of_getElem? (i := 164) (by decide +kernel), List.mem_of_getElem? (i := 165) (by decide +kernel)⟩
theorem lw_p6 : lw_okq (⟨"PositionDesk", "setRate", "(LPositionDesk$Asset;J)V"⟩, 10) := ⟨⟨by decide +kernel, by decide +kernel⟩, List.mem_of_getElem? (i := 8) (by decide +kernel), List.mem_of_getElem? (i := 168) (by decide +kernel), List.mem_of_getElem? (i := 169) (by decide +kernel)⟩
theorem lw_p7 : lw_okq (⟨"PositionDesk", "isClient", "(I)Z"⟩, 10) := ⟨⟨by decide +kernel, by decide +kernel⟩, List.mem_of_getElem? (i := 8) (by decide +kernel), List.mem_of_getElem? (i := 176) (by decide +kernel), List.mem_of_getElem? (i := 177) (by decide +kernel)⟩
theorem lw_p8 : lw_okq (⟨"PositionDesk", "lowest", "(LPositionDesk$Asset;I)J"⟩, 10) := ⟨⟨by decide +kernel, by decide +kernel⟩, List.mem_of_getElem? (i := 8) (by decide +kernel), List.mem_of_getElem? (i := 192) (by decide +kernel), List.mem_of_getElem? (i := 193) (by decide +kernel)⟩
theorem lw_p9 : lw_okq (⟨"PositionDesk", "setPledged", "(LPositionDesk$Asset;IJ)I"⟩, 10) := ⟨⟨by decide +kernel, by decide +kernel⟩, List.mem_of_getElem? (i := 8) (by decide +kernel), List.mem_of_getElem? (i := 201) (by decide +kernel), List.mem_of_getElem? (i := 202) (by decide +kernel)⟩
theorem lw_p10 : lw_okq (⟨"PositionDesk", "areTwoClients", "(II)Z"⟩, 10) := ⟨⟨by decide +kernel, by decide +kernel⟩, List.mem_of_getElem? (i := 8) (by decide +kernel), List.mem_of_getElem? (i := 213) (by decide +kernel), List.mem_of_getElem? (i := 214) (by decide +kernel)⟩
theorem lw_p11 : lw_okq (⟨"PositionDesk", "paidFrom", "(II)J"⟩, 10) := ⟨⟨by decide +kernel, by decide +kernel⟩, List.mem_of_getElem? (i := 8) (by decide +kernel), List.mem_of_getElem? (i := 217) (by decide +kernel), List.mem_of_getElem? (i := 218) (by decide +kernel)⟩
theorem lw_p12 : lw_okq (⟨"PositionDesk", "pairOf", "(II)I"⟩, 10) := ⟨⟨by decide +kernel, by decide +kernel⟩, List.mem_of_getElem? (i := 8) (by decide +kernel), List.mem_of_getElem? (i := 221) (by decide +kernel), List.mem_of_getElem? (i := 222) (by decide +kernel)⟩
theorem lw_p13 : lw_okq (⟨"PositionDesk$PairAmounts", "indexOf", "(I)I"⟩, 3) := ⟨⟨by decide +kernel, by decide +kernel⟩, List.mem_of_getElem? (i := 18) (by decide +kernel), List.mem_of_getElem? (i := 229) (by decide +kernel), List.mem_of_getElem? (i := 230) (by decide +kernel)⟩
theorem lw_p14 : lw_okq (⟨"PositionDesk", "breaksFloor", "(II)Z"⟩, 10) := ⟨⟨by decide +kernel, by decide +kernel⟩, List.mem_of_getElem? (i := 8) (by decide +kernel), List.mem_of_getElem? (i := 265) (by decide +kernel), List.mem_of_getElem? (i := 266) (by decide +kernel)⟩
theorem lw_p15 : lw_okq (⟨"PositionDesk", "breaksRoom", "(I)Z"⟩, 10) := ⟨⟨by decide +kernel, by decide +kernel⟩, List.mem_of_getElem? (i := 8) (by decide +kernel), List.mem_of_getElem? (i := 273) (by decide +kernel), List.mem_of_getElem? (i := 274) (by decide +kernel)⟩
def lw_privs_1 : List (MethodName × Nat) := [(⟨"PositionDesk", "addAsset", "(ZJ)I"⟩, 10), (⟨"PositionDesk", "securityAt", "(I)LPositionDesk$Asset;"⟩, 10), (⟨"PositionDesk", "assetAt", "(I)LPositionDesk$Asset;"⟩, 10), (⟨"PositionDesk", "faultOfRate", "(LPositionDesk$Asset;J)I"⟩, 10), (⟨"PositionDesk", "creditWith", "(LPositionDesk$Asset;IJJ)J"⟩, 10), (⟨"PositionDesk", "isOverdrawn", "(IJ)Z"⟩, 10), (⟨"PositionDesk", "setRate", "(LPositionDesk$Asset;J)V"⟩, 10), (⟨"PositionDesk", "isClient", "(I)Z"⟩, 10), (⟨"PositionDesk", "lowest", "(LPositionDesk$Asset;I)J"⟩, 10), (⟨"PositionDesk", "setPledged", "(LPositionDesk$Asset;IJ)I"⟩, 10), (⟨"PositionDesk", "areTwoClients", "(II)Z"⟩, 10), (⟨"PositionDesk", "paidFrom", "(II)J"⟩, 10), (⟨"PositionDesk", "pairOf", "(II)I"⟩, 10), (⟨"PositionDesk$PairAmounts", "indexOf", "(I)I"⟩, 3), (⟨"PositionDesk", "breaksFloor", "(II)Z"⟩, 10), (⟨"PositionDesk", "breaksRoom", "(I)Z"⟩, 10)]
theorem lw_r1 : ∀ q ∈ lw_privs_1, lw_okq q := List.forall_mem_cons.mpr ⟨lw_p0, List.forall_mem_cons.mpr ⟨lw_p1, List.forall_mem_cons.mpr ⟨lw_p2, List.forall_mem_cons.mpr ⟨lw_p3, List.forall_mem_cons.mpr ⟨lw_p4, List.forall_mem_cons.mpr ⟨lw_p5, List.forall_mem_cons.mpr ⟨lw_p6, List.forall_mem_cons.mpr ⟨lw_p7, List.forall_mem_cons.mpr ⟨lw_p8, List.forall_mem_cons.mpr ⟨lw_p9, List.forall_mem_cons.mpr ⟨lw_p10, List.forall_mem_cons.mpr ⟨lw_p11, List.forall_mem_cons.mpr ⟨lw_p12, List.forall_mem_cons.mpr ⟨lw_p13, List.forall_mem_cons.mpr ⟨lw_p14, List.forall_mem_cons.mpr ⟨lw_p15, fun _ h => absurd h List.not_mem_nil⟩⟩⟩⟩⟩⟩⟩⟩⟩⟩⟩⟩⟩⟩⟩⟩
theorem lw_p16 : lw_okq (⟨"PositionDesk", "roomOf", "(I)J"⟩, 10) := ⟨⟨by decide +kernel, by decide +kernel⟩, List.mem_of_getElem? (i := 8) (by decide +kernel), List.mem_of_getElem? (i := 285) (by decide +kernel), List.mem_of_getElem? (i := 286) (by decide +kernel)⟩
theorem lw_p17 : lw_okq (⟨"PositionDesk", "doLeg", "(I)V"⟩, 10) := ⟨⟨by decide +kernel, by decide +kernel⟩, List.mem_of_getElem? (i := 8) (by decide +kernel), List.mem_of_getElem? (i := 294) (by decide +kernel), List.mem_of_getElem? (i := 295) (by decide +kernel)⟩
theorem lw_p18 : lw_okq (⟨"PositionDesk", "addPaid", "(IIJ)V"⟩, 10) := ⟨⟨by decide +kernel, by decide +kernel⟩, List.mem_of_getElem? (i := 8) (by decide +kernel), List.mem_of_getElem? (i := 298) (by decide +kernel), List.mem_of_getElem? (i := 299) (by decide +kernel)⟩
theorem lw_p19 : lw_okq (⟨"PositionDesk", "isPosition", "(I)Z"⟩, 10) := ⟨⟨by decide +kernel, by decide +kernel⟩, List.mem_of_getElem? (i := 8) (by decide +kernel), List.mem_of_getElem? (i := 314) (by decide +kernel), List.mem_of_getElem? (i := 315) (by decide +kernel)⟩
theorem lw_p20 : lw_okq (⟨"PositionDesk", "assetOf", "(I)I"⟩, 10) := ⟨⟨by decide +kernel, by decide +kernel⟩, List.mem_of_getElem? (i := 8) (by decide +kernel), List.mem_of_getElem? (i := 318) (by decide +kernel), List.mem_of_getElem? (i := 319) (by decide +kernel)⟩
theorem lw_p21 : lw_okq (⟨"PositionDesk", "ownerOf", "(I)I"⟩, 10) := ⟨⟨by decide +kernel, by decide +kernel⟩, List.mem_of_getElem? (i := 8) (by decide +kernel), List.mem_of_getElem? (i := 322) (by decide +kernel), List.mem_of_getElem? (i := 323) (by decide +kernel)⟩
theorem lw_p22 : lw_okq (⟨"PositionDeskModel", "isRoom", "(I)Z"⟩, 26) := ⟨⟨by decide +kernel, by decide +kernel⟩, List.mem_of_getElem? (i := 342) (by decide +kernel), List.mem_of_getElem? (i := 431) (by decide +kernel), List.mem_of_getElem? (i := 432) (by decide +kernel)⟩
theorem lw_p23 : lw_okq (⟨"PositionDeskModel", "pair", "(I)I"⟩, 26) := ⟨⟨by decide +kernel, by decide +kernel⟩, List.mem_of_getElem? (i := 342) (by decide +kernel), List.mem_of_getElem? (i := 435) (by decide +kernel), List.mem_of_getElem? (i := 436) (by decide +kernel)⟩
theorem lw_p24 : lw_okq (⟨"PositionDeskModel", "limitAt", "(II)I"⟩, 26) := ⟨⟨by decide +kernel, by decide +kernel⟩, List.mem_of_getElem? (i := 342) (by decide +kernel), List.mem_of_getElem? (i := 439) (by decide +kernel), List.mem_of_getElem? (i := 440) (by decide +kernel)⟩
theorem lw_p25 : lw_okq (⟨"PositionDeskModel", "isAsset", "(I)Z"⟩, 26) := ⟨⟨by decide +kernel, by decide +kernel⟩, List.mem_of_getElem? (i := 342) (by decide +kernel), List.mem_of_getElem? (i := 459) (by decide +kernel), List.mem_of_getElem? (i := 460) (by decide +kernel)⟩
theorem lw_p26 : lw_okq (⟨"PositionDeskModel", "isShort", "(I)Z"⟩, 26) := ⟨⟨by decide +kernel, by decide +kernel⟩, List.mem_of_getElem? (i := 342) (by decide +kernel), List.mem_of_getElem? (i := 463) (by decide +kernel), List.mem_of_getElem? (i := 464) (by decide +kernel)⟩
theorem lw_p27 : lw_okq (⟨"PositionDeskModel", "position", "(II)J"⟩, 26) := ⟨⟨by decide +kernel, by decide +kernel⟩, List.mem_of_getElem? (i := 342) (by decide +kernel), List.mem_of_getElem? (i := 467) (by decide +kernel), List.mem_of_getElem? (i := 468) (by decide +kernel)⟩
theorem lw_p28 : lw_okq (⟨"PositionDeskModel", "creditOf", "(I)J"⟩, 26) := ⟨⟨by decide +kernel, by decide +kernel⟩, List.mem_of_getElem? (i := 342) (by decide +kernel), List.mem_of_getElem? (i := 471) (by decide +kernel), List.mem_of_getElem? (i := 472) (by decide +kernel)⟩
theorem lw_p29 : lw_okq (⟨"PositionDeskModel", "pledged", "(II)J"⟩, 26) := ⟨⟨by decide +kernel, by decide +kernel⟩, List.mem_of_getElem? (i := 342) (by decide +kernel), List.mem_of_getElem? (i := 475) (by decide +kernel), List.mem_of_getElem? (i := 476) (by decide +kernel)⟩
theorem lw_p30 : lw_okq (⟨"PositionDeskModel", "isOwed", "()Z"⟩, 26) := ⟨⟨by decide +kernel, by decide +kernel⟩, List.mem_of_getElem? (i := 342) (by decide +kernel), List.mem_of_getElem? (i := 484) (by decide +kernel), List.mem_of_getElem? (i := 485) (by decide +kernel)⟩
theorem lw_p31 : lw_okq (⟨"PositionDeskModel", "isParticipant", "(I)Z"⟩, 26) := ⟨⟨by decide +kernel, by decide +kernel⟩, List.mem_of_getElem? (i := 342) (by decide +kernel), List.mem_of_getElem? (i := 493) (by decide +kernel), List.mem_of_getElem? (i := 494) (by decide +kernel)⟩
def lw_privs_2 : List (MethodName × Nat) := [(⟨"PositionDesk", "roomOf", "(I)J"⟩, 10), (⟨"PositionDesk", "doLeg", "(I)V"⟩, 10), (⟨"PositionDesk", "addPaid", "(IIJ)V"⟩, 10), (⟨"PositionDesk", "isPosition", "(I)Z"⟩, 10), (⟨"PositionDesk", "assetOf", "(I)I"⟩, 10), (⟨"PositionDesk", "ownerOf", "(I)I"⟩, 10), (⟨"PositionDeskModel", "isRoom", "(I)Z"⟩, 26), (⟨"PositionDeskModel", "pair", "(I)I"⟩, 26), (⟨"PositionDeskModel", "limitAt", "(II)I"⟩, 26), (⟨"PositionDeskModel", "isAsset", "(I)Z"⟩, 26), (⟨"PositionDeskModel", "isShort", "(I)Z"⟩, 26), (⟨"PositionDeskModel", "position", "(II)J"⟩, 26), (⟨"PositionDeskModel", "creditOf", "(I)J"⟩, 26), (⟨"PositionDeskModel", "pledged", "(II)J"⟩, 26), (⟨"PositionDeskModel", "isOwed", "()Z"⟩, 26), (⟨"PositionDeskModel", "isParticipant", "(I)Z"⟩, 26)]
theorem lw_r2 : ∀ q ∈ lw_privs_2, lw_okq q := List.forall_mem_cons.mpr ⟨lw_p16, List.forall_mem_cons.mpr ⟨lw_p17, List.forall_mem_cons.mpr ⟨lw_p18, List.forall_mem_cons.mpr ⟨lw_p19, List.forall_mem_cons.mpr ⟨lw_p20, List.forall_mem_cons.mpr ⟨lw_p21, List.forall_mem_cons.mpr ⟨lw_p22, List.forall_mem_cons.mpr ⟨lw_p23, List.forall_mem_cons.mpr ⟨lw_p24, List.forall_mem_cons.mpr ⟨lw_p25, List.forall_mem_cons.mpr ⟨lw_p26, List.forall_mem_cons.mpr ⟨lw_p27, List.forall_mem_cons.mpr ⟨lw_p28, List.forall_mem_cons.mpr ⟨lw_p29, List.forall_mem_cons.mpr ⟨lw_p30, List.forall_mem_cons.mpr ⟨lw_p31, fun _ h => absurd h List.not_mem_nil⟩⟩⟩⟩⟩⟩⟩⟩⟩⟩⟩⟩⟩⟩⟩⟩
theorem lw_p32 : lw_okq (⟨"PositionDeskModel", "move", "(IIJ)V"⟩, 26) := ⟨⟨by decide +kernel, by decide +kernel⟩, List.mem_of_getElem? (i := 342) (by decide +kernel), List.mem_of_getElem? (i := 501) (by decide +kernel), List.mem_of_getElem? (i := 502) (by decide +kernel)⟩
theorem lw_p33 : lw_okq (⟨"PositionDeskModel", "floorOf", "(II)J"⟩, 26) := ⟨⟨by decide +kernel, by decide +kernel⟩, List.mem_of_getElem? (i := 342) (by decide +kernel), List.mem_of_getElem? (i := 509) (by decide +kernel), List.mem_of_getElem? (i := 510) (by decide +kernel)⟩
theorem lw_p34 : lw_okq (⟨"PositionDeskModel", "pledgeMore", "(IIJ)V"⟩, 26) := ⟨⟨by decide +kernel, by decide +kernel⟩, List.mem_of_getElem? (i := 342) (by decide +kernel), List.mem_of_getElem? (i := 518) (by decide +kernel), List.mem_of_getElem? (i := 519) (by decide +kernel)⟩
theorem lw_p35 : lw_okq (⟨"PositionDeskModel", "netPaid", "(II)J"⟩, 26) := ⟨⟨by decide +kernel, by decide +kernel⟩, List.mem_of_getElem? (i := 342) (by decide +kernel), List.mem_of_getElem? (i := 530) (by decide +kernel), List.mem_of_getElem? (i := 531) (by decide +kernel)⟩
theorem lw_p36 : lw_okq (⟨"PositionDeskModel", "fits", "(I)Z"⟩, 26) := ⟨⟨by decide +kernel, by decide +kernel⟩, List.mem_of_getElem? (i := 342) (by decide +kernel), List.mem_of_getElem? (i := 559) (by decide +kernel), List.mem_of_getElem? (i := 560) (by decide +kernel)⟩
def lw_privs_3 : List (MethodName × Nat) := [(⟨"PositionDeskModel", "move", "(IIJ)V"⟩, 26), (⟨"PositionDeskModel", "floorOf", "(II)J"⟩, 26), (⟨"PositionDeskModel", "pledgeMore", "(IIJ)V"⟩, 26), (⟨"PositionDeskModel", "netPaid", "(II)J"⟩, 26), (⟨"PositionDeskModel", "fits", "(I)Z"⟩, 26)]
theorem lw_r3 : ∀ q ∈ lw_privs_3, lw_okq q := List.forall_mem_cons.mpr ⟨lw_p32, List.forall_mem_cons.mpr ⟨lw_p33, List.forall_mem_cons.mpr ⟨lw_p34, List.forall_mem_cons.mpr ⟨lw_p35, List.forall_mem_cons.mpr ⟨lw_p36, fun _ h => absurd h List.not_mem_nil⟩⟩⟩⟩⟩
def lw_privs : List (MethodName × Nat) := lw_privs_1 ++ (lw_privs_2 ++ (lw_privs_3))
def lw_tbl : List Cond := k2_sels lw_privs ++ tables_1
theorem lw_privs_ok : ∀ q ∈ lw_privs, lw_okq q := by
  show ∀ q ∈ lw_privs_1 ++ (lw_privs_2 ++ (lw_privs_3)), lw_okq q
  exact List.forall_mem_append.mpr ⟨lw_r1, List.forall_mem_append.mpr ⟨lw_r2, lw_r3⟩⟩
end
section
/-- the words that every method's contract rests on: those of the tables that are kept -/
def lw_g : List Cond := lw_tbl.filter goodWord
theorem k_w {w : Cond} (h : w ∈ lw_tbl) (g : goodWord w = true) : w ∈ lw_g := List.mem_filter.mpr ⟨h, g⟩
theorem k_in {w : Cond} (h : w ∈ lw_g) : w ∈ lw_g ∧ ((w.onTables && w.keeps) = true ∨ ∃ ty, w = .arrayClass ty) := ⟨h, good_of_word (List.mem_filter.mp h).2⟩
abbrev RA : String := "PositionDesk$Asset"
def TA : u_T := fun k => match k with
  | 0 => ("PositionDesk$Asset", "isSecurity", "Z", true)
  | 1 => ("PositionDesk$Asset", "held", "[J", true)
  | 2 => ("PositionDesk$Asset", "pledged", "[J", true)
  | _ => ("PositionDesk$Asset", "rate", "J", false)
def tA : Nat → FieldType := fun k => match k with
  | 0 => .boolean
  | 1 => .array .long
  | 2 => .array .long
  | _ => .long
theorem nA : ∀ a, a < 4 → ∀ b, b < 4 → a ≠ b → (TA a).2.1 ≠ (TA b).2.1 := by decide +kernel
theorem tA_ok : ∀ k, k < 4 → parseFieldDescriptor (TA k).2.2.1 = some (tA k) := by decide +kernel
theorem inA_t : ∀ w ∈ u_ws RA TA 4, w ∈ lw_tbl := by decide +kernel
theorem inA_g : ∀ w ∈ u_ws RA TA 4, goodWord w = true := by decide +kernel
theorem inA : ∀ w ∈ u_ws RA TA 4, w ∈ lw_g := fun w h => k_w (inA_t w h) (inA_g w h)
abbrev RG : String := "PositionDesk$Legs"
def TG : u_T := fun k => match k with
  | 0 => ("PositionDesk$Legs", "from", "[I", true)
  | 1 => ("PositionDesk$Legs", "to", "[I", true)
  | 2 => ("PositionDesk$Legs", "asset", "[I", true)
  | 3 => ("PositionDesk$Legs", "amount", "[J", true)
  | _ => ("PositionDesk$Legs", "count", "I", false)
def tG : Nat → FieldType := fun k => match k with
  | 0 => .array .int
  | 1 => .array .int
  | 2 => .array .int
  | 3 => .array .long
  | _ => .int
theorem nG : ∀ a, a < 5 → ∀ b, b < 5 → a ≠ b → (TG a).2.1 ≠ (TG b).2.1 := by decide +kernel
theorem tG_ok : ∀ k, k < 5 → parseFieldDescriptor (TG k).2.2.1 = some (tG k) := by decide +kernel
theorem inG_t : ∀ w ∈ u_ws RG TG 5, w ∈ lw_tbl := by decide +kernel
theorem inG_g : ∀ w ∈ u_ws RG TG 5, goodWord w = true := by decide +kernel
theorem inG : ∀ w ∈ u_ws RG TG 5, w ∈ lw_g := fun w h => k_w (inG_t w h) (inG_g w h)
abbrev RP : String := "PositionDesk$PairAmounts"
def TP : u_T := fun k => match k with
  | 0 => ("PositionDesk$PairAmounts", "pairs", "[I", true)
  | 1 => ("PositionDesk$PairAmounts", "amounts", "[J", true)
  | _ => ("PositionDesk$PairAmounts", "count", "I", false)
def tP : Nat → FieldType := fun k => match k with
  | 0 => .array .int
  | 1 => .array .long
  | _ => .int
theorem nP : ∀ a, a < 3 → ∀ b, b < 3 → a ≠ b → (TP a).2.1 ≠ (TP b).2.1 := by decide +kernel
theorem tP_ok : ∀ k, k < 3 → parseFieldDescriptor (TP k).2.2.1 = some (tP k) := by decide +kernel
theorem inP_t : ∀ w ∈ u_ws RP TP 3, w ∈ lw_tbl := by decide +kernel
theorem inP_g : ∀ w ∈ u_ws RP TP 3, goodWord w = true := by decide +kernel
theorem inP : ∀ w ∈ u_ws RP TP 3, w ∈ lw_g := fun w h => k_w (inP_t w h) (inP_g w h)
abbrev RX : String := "PositionDesk"
def TX : u_T := fun k => match k with
  | 0 => ("PositionDesk", "participants", "I", true)
  | 1 => ("PositionDesk", "positions", "I", true)
  | 2 => ("PositionDesk", "assets", "[LPositionDesk$Asset;", true)
  | 3 => ("PositionDesk", "made", "I", false)
  | 4 => ("PositionDesk", "money", "I", false)
  | 5 => ("PositionDesk", "credits", "[J", true)
  | 6 => ("PositionDesk", "allCredits", "J", false)
  | 7 => ("PositionDesk", "limits", "LPositionDesk$PairAmounts;", true)
  | 8 => ("PositionDesk", "paid", "LPositionDesk$PairAmounts;", true)
  | _ => ("PositionDesk", "legs", "LPositionDesk$Legs;", true)
def tX : Nat → FieldType := fun k => match k with
  | 0 => .int
  | 1 => .int
  | 2 => .array (.object "PositionDesk$Asset")
  | 3 => .int
  | 4 => .int
  | 5 => .array .long
  | 6 => .long
  | 7 => .object "PositionDesk$PairAmounts"
  | 8 => .object "PositionDesk$PairAmounts"
  | _ => .object "PositionDesk$Legs"
theorem nX : ∀ a, a < 10 → ∀ b, b < 10 → a ≠ b → (TX a).2.1 ≠ (TX b).2.1 := by decide +kernel
theorem tX_ok : ∀ k, k < 10 → parseFieldDescriptor (TX k).2.2.1 = some (tX k) := by decide +kernel
theorem inX_t : ∀ w ∈ u_ws RX TX 10, w ∈ lw_tbl := by decide +kernel
theorem inX_g : ∀ w ∈ u_ws RX TX 10, goodWord w = true := by decide +kernel
theorem inX : ∀ w ∈ u_ws RX TX 10, w ∈ lw_g := fun w h => k_w (inX_t w h) (inX_g w h)
abbrev RM : String := "PositionDeskModel"
def TM : u_T := fun k => match k with
  | 0 => ("PositionDeskModel", "participants", "I", true)
  | 1 => ("PositionDeskModel", "width", "I", true)
  | 2 => ("PositionDeskModel", "assets", "I", false)
  | 3 => ("PositionDeskModel", "money", "I", false)
  | 4 => ("PositionDeskModel", "sort", "[I", true)
  | 5 => ("PositionDeskModel", "price", "[J", true)
  | 6 => ("PositionDeskModel", "haircut", "[I", true)
  | 7 => ("PositionDeskModel", "moves", "I", false)
  | 8 => ("PositionDeskModel", "moveAt", "[I", true)
  | 9 => ("PositionDeskModel", "moveBy", "[J", true)
  | 10 => ("PositionDeskModel", "payments", "I", false)
  | 11 => ("PositionDeskModel", "payer", "[I", true)
  | 12 => ("PositionDeskModel", "payee", "[I", true)
  | 13 => ("PositionDeskModel", "paid", "[J", true)
  | 14 => ("PositionDeskModel", "pledges", "I", false)
  | 15 => ("PositionDeskModel", "pledgeAt", "[I", true)
  | 16 => ("PositionDeskModel", "pledgeBy", "[J", true)
  | 17 => ("PositionDeskModel", "limits", "I", false)
  | 18 => ("PositionDeskModel", "limitFrom", "[I", true)
  | 19 => ("PositionDeskModel", "limitTo", "[I", true)
  | 20 => ("PositionDeskModel", "limitOf", "[J", true)
  | 21 => ("PositionDeskModel", "legs", "I", false)
  | 22 => ("PositionDeskModel", "legFrom", "[I", true)
  | 23 => ("PositionDeskModel", "legTo", "[I", true)
  | 24 => ("PositionDeskModel", "legAsset", "[I", true)
  | _ => ("PositionDeskModel", "legBy", "[J", true)
def tM : Nat → FieldType := fun k => match k with
  | 0 => .int
  | 1 => .int
  | 2 => .int
  | 3 => .int
  | 4 => .array .int
  | 5 => .array .long
  | 6 => .array .int
  | 7 => .int
  | 8 => .array .int
  | 9 => .array .long
  | 10 => .int
  | 11 => .array .int
  | 12 => .array .int
  | 13 => .array .long
  | 14 => .int
  | 15 => .array .int
  | 16 => .array .long
  | 17 => .int
  | 18 => .array .int
  | 19 => .array .int
  | 20 => .array .long
  | 21 => .int
  | 22 => .array .int
  | 23 => .array .int
  | 24 => .array .int
  | _ => .array .long
theorem nM : ∀ a, a < 26 → ∀ b, b < 26 → a ≠ b → (TM a).2.1 ≠ (TM b).2.1 := by decide +kernel
theorem tM_ok : ∀ k, k < 26 → parseFieldDescriptor (TM k).2.2.1 = some (tM k) := by decide +kernel
theorem inM_t : ∀ w ∈ u_ws RM TM 26, w ∈ lw_tbl := by decide +kernel
theorem inM_g : ∀ w ∈ u_ws RM TM 26, goodWord w = true := by decide +kernel
theorem inM : ∀ w ∈ u_ws RM TM 26, w ∈ lw_g := fun w h => k_w (inM_t w h) (inM_g w h)
abbrev RL : String := "PositionDeskLaw"
abbrev vCl : List vw_C := [(RA, TA, 4), (RG, TG, 5), (RP, TP, 3), (RX, TX, 10), (RM, TM, 26)]
theorem tw_37 : (Jvm.Cond.initialized "PositionDeskLaw") ∈ lw_g := k_w (List.mem_of_getElem? (i := 37) (by decide +kernel)) (by decide +kernel)
theorem tw_38 : (Jvm.Cond.initialized "PositionDesk") ∈ lw_g := k_w (List.mem_of_getElem? (i := 38) (by decide +kernel)) (by decide +kernel)
theorem tw_39 : (Jvm.Cond.initialized "PositionDesk$PairAmounts") ∈ lw_g := k_w (List.mem_of_getElem? (i := 39) (by decide +kernel)) (by decide +kernel)
theorem tw_40 : (Jvm.Cond.initialized "PositionDesk$Legs") ∈ lw_g := k_w (List.mem_of_getElem? (i := 40) (by decide +kernel)) (by decide +kernel)
theorem tw_41 : (Jvm.Cond.initialized "PositionDeskModel") ∈ lw_g := k_w (List.mem_of_getElem? (i := 41) (by decide +kernel)) (by decide +kernel)
theorem tw_42 : (Jvm.Cond.initialized "PositionDesk$Asset") ∈ lw_g := k_w (List.mem_of_getElem? (i := 42) (by decide +kernel)) (by decide +kernel)
theorem tw_43 : (Jvm.Cond.initialized "java/lang/Math") ∈ lw_g := k_w (List.mem_of_getElem? (i := 43) (by decide +kernel)) (by decide +kernel)
theorem tw_44 : (Jvm.Cond.classLink "PositionDeskLaw" (7 : Nat) "PositionDesk") ∈ lw_g := k_w (List.mem_of_getElem? (i := 44) (by decide +kernel)) (by decide +kernel)
theorem tw_45 : (Jvm.Cond.instantiable "PositionDesk" (10 : Nat)) ∈ lw_g := k_w (List.mem_of_getElem? (i := 45) (by decide +kernel)) (by decide +kernel)
theorem tw_46 : (Jvm.Cond.methodLink "PositionDeskLaw" (15 : Nat) ({ cls := "PositionDesk", name := "<init>", desc := "(II)V" } : Jvm.MethodName)) ∈ lw_g := k_w (List.mem_of_getElem? (i := 46) (by decide +kernel)) (by decide +kernel)
theorem tw_47 : (Jvm.Cond.instanceMethod ({ cls := "PositionDesk", name := "<init>", desc := "(II)V" } : Jvm.MethodName)) ∈ lw_g := k_w (List.mem_of_getElem? (i := 47) (by decide +kernel)) (by decide +kernel)
theorem tw_48 : (Jvm.Cond.code ({ cls := "PositionDesk", name := "<init>", desc := "(II)V" } : Jvm.MethodName) prog_1_method_1_code (5 : Nat) (Option.none : Option Jvm.ClassFile.FieldType)) ∈ lw_g := k_w (List.mem_of_getElem? (i := 48) (by decide +kernel)) (by decide +kernel)
theorem tw_49 : (Jvm.Cond.methodLink "PositionDesk" (1 : Nat) ({ cls := "java/lang/Object", name := "<init>", desc := "()V" } : Jvm.MethodName)) ∈ lw_g := k_w (List.mem_of_getElem? (i := 49) (by decide +kernel)) (by decide +kernel)
theorem tw_50 : (Jvm.Cond.instanceMethod ({ cls := "java/lang/Object", name := "<init>", desc := "()V" } : Jvm.MethodName)) ∈ lw_g := k_w (List.mem_of_getElem? (i := 50) (by decide +kernel)) (by decide +kernel)
theorem tw_51 : (Jvm.Cond.code ({ cls := "java/lang/Object", name := "<init>", desc := "()V" } : Jvm.MethodName) object_method_1_code (1 : Nat) (Option.none : Option Jvm.ClassFile.FieldType)) ∈ lw_g := k_w (List.mem_of_getElem? (i := 51) (by decide +kernel)) (by decide +kernel)
theorem tw_52 : (Jvm.Cond.classLink "PositionDesk" (13 : Nat) "PositionDesk$Asset") ∈ lw_g := k_w (List.mem_of_getElem? (i := 52) (by decide +kernel)) (by decide +kernel)
theorem tw_53 : (Jvm.Cond.arrayOver (Jvm.ClassFile.FieldType.object "PositionDesk$Asset")) ∈ lw_tbl := List.mem_of_getElem? (i := 53) (by decide +kernel)
theorem tw_54 : (Jvm.Cond.classLink "PositionDesk" (36 : Nat) "PositionDesk$PairAmounts") ∈ lw_g := k_w (List.mem_of_getElem? (i := 54) (by decide +kernel)) (by decide +kernel)
theorem tw_55 : (Jvm.Cond.instantiable "PositionDesk$PairAmounts" (3 : Nat)) ∈ lw_g := k_w (List.mem_of_getElem? (i := 55) (by decide +kernel)) (by decide +kernel)
theorem tw_56 : (Jvm.Cond.methodLink "PositionDesk" (38 : Nat) ({ cls := "PositionDesk$PairAmounts", name := "<init>", desc := "(I)V" } : Jvm.MethodName)) ∈ lw_g := k_w (List.mem_of_getElem? (i := 56) (by decide +kernel)) (by decide +kernel)
theorem tw_57 : (Jvm.Cond.instanceMethod ({ cls := "PositionDesk$PairAmounts", name := "<init>", desc := "(I)V" } : Jvm.MethodName)) ∈ lw_g := k_w (List.mem_of_getElem? (i := 57) (by decide +kernel)) (by decide +kernel)
theorem tw_58 : (Jvm.Cond.code ({ cls := "PositionDesk$PairAmounts", name := "<init>", desc := "(I)V" } : Jvm.MethodName) prog_4_method_1_code (2 : Nat) (Option.none : Option Jvm.ClassFile.FieldType)) ∈ lw_g := k_w (List.mem_of_getElem? (i := 58) (by decide +kernel)) (by decide +kernel)
theorem tw_59 : (Jvm.Cond.methodLink "PositionDesk$PairAmounts" (3 : Nat) ({ cls := "java/lang/Object", name := "<init>", desc := "()V" } : Jvm.MethodName)) ∈ lw_g := k_w (List.mem_of_getElem? (i := 59) (by decide +kernel)) (by decide +kernel)
theorem tw_60 : (Jvm.Cond.fieldLink "PositionDesk$PairAmounts" (9 : Nat) "PositionDesk$PairAmounts" "pairs" "[I") ∈ lw_g := k_w (List.mem_of_getElem? (i := 60) (by decide +kernel)) (by decide +kernel)
theorem tw_61 : (Jvm.Cond.fieldLink "PositionDesk$PairAmounts" (15 : Nat) "PositionDesk$PairAmounts" "amounts" "[J") ∈ lw_g := k_w (List.mem_of_getElem? (i := 61) (by decide +kernel)) (by decide +kernel)
theorem tw_62 : (Jvm.Cond.fieldLink "PositionDesk$PairAmounts" (19 : Nat) "PositionDesk$PairAmounts" "count" "I") ∈ lw_g := k_w (List.mem_of_getElem? (i := 62) (by decide +kernel)) (by decide +kernel)
theorem tw_70 : (Jvm.Cond.arrayClass Jvm.ClassFile.FieldType.long) ∈ lw_g := k_w (List.mem_of_getElem? (i := 70) (by decide +kernel)) (by decide +kernel)
theorem tw_71 : (Jvm.Cond.arrayClass Jvm.ClassFile.FieldType.int) ∈ lw_g := k_w (List.mem_of_getElem? (i := 71) (by decide +kernel)) (by decide +kernel)
theorem tw_72 : (Jvm.Cond.classLink "PositionDesk" (48 : Nat) "PositionDesk$Legs") ∈ lw_g := k_w (List.mem_of_getElem? (i := 72) (by decide +kernel)) (by decide +kernel)
theorem tw_73 : (Jvm.Cond.instantiable "PositionDesk$Legs" (5 : Nat)) ∈ lw_g := k_w (List.mem_of_getElem? (i := 73) (by decide +kernel)) (by decide +kernel)
theorem tw_74 : (Jvm.Cond.methodLinkNest "PositionDesk" (50 : Nat) ({ cls := "PositionDesk$Legs", name := "<init>", desc := "()V" } : Jvm.MethodName) "PositionDesk") ∈ lw_tbl := List.mem_of_getElem? (i := 74) (by decide +kernel)
theorem tw_75 : (Jvm.Cond.instanceMethod ({ cls := "PositionDesk$Legs", name := "<init>", desc := "()V" } : Jvm.MethodName)) ∈ lw_g := k_w (List.mem_of_getElem? (i := 75) (by decide +kernel)) (by decide +kernel)
theorem tw_76 : (Jvm.Cond.code ({ cls := "PositionDesk$Legs", name := "<init>", desc := "()V" } : Jvm.MethodName) prog_3_method_1_code (1 : Nat) (Option.none : Option Jvm.ClassFile.FieldType)) ∈ lw_g := k_w (List.mem_of_getElem? (i := 76) (by decide +kernel)) (by decide +kernel)
theorem tw_77 : (Jvm.Cond.methodLink "PositionDesk$Legs" (3 : Nat) ({ cls := "java/lang/Object", name := "<init>", desc := "()V" } : Jvm.MethodName)) ∈ lw_g := k_w (List.mem_of_getElem? (i := 77) (by decide +kernel)) (by decide +kernel)
theorem tw_78 : (Jvm.Cond.fieldLink "PositionDesk$Legs" (9 : Nat) "PositionDesk$Legs" "from" "[I") ∈ lw_g := k_w (List.mem_of_getElem? (i := 78) (by decide +kernel)) (by decide +kernel)
theorem tw_79 : (Jvm.Cond.fieldLink "PositionDesk" (141 : Nat) "PositionDesk$Legs" "from" "[I") ∈ lw_g := k_w (List.mem_of_getElem? (i := 79) (by decide +kernel)) (by decide +kernel)
theorem tw_80 : (Jvm.Cond.fieldLink "PositionDesk$Legs" (15 : Nat) "PositionDesk$Legs" "to" "[I") ∈ lw_g := k_w (List.mem_of_getElem? (i := 80) (by decide +kernel)) (by decide +kernel)
theorem tw_81 : (Jvm.Cond.fieldLink "PositionDesk" (224 : Nat) "PositionDesk$Legs" "to" "[I") ∈ lw_g := k_w (List.mem_of_getElem? (i := 81) (by decide +kernel)) (by decide +kernel)
theorem tw_82 : (Jvm.Cond.fieldLink "PositionDesk$Legs" (18 : Nat) "PositionDesk$Legs" "asset" "[I") ∈ lw_g := k_w (List.mem_of_getElem? (i := 82) (by decide +kernel)) (by decide +kernel)
theorem tw_83 : (Jvm.Cond.fieldLink "PositionDesk" (145 : Nat) "PositionDesk$Legs" "asset" "[I") ∈ lw_g := k_w (List.mem_of_getElem? (i := 83) (by decide +kernel)) (by decide +kernel)
theorem tw_84 : (Jvm.Cond.fieldLink "PositionDesk$Legs" (21 : Nat) "PositionDesk$Legs" "amount" "[J") ∈ lw_g := k_w (List.mem_of_getElem? (i := 84) (by decide +kernel)) (by decide +kernel)
theorem tw_85 : (Jvm.Cond.fieldLink "PositionDesk" (227 : Nat) "PositionDesk$Legs" "amount" "[J") ∈ lw_g := k_w (List.mem_of_getElem? (i := 85) (by decide +kernel)) (by decide +kernel)
theorem tw_86 : (Jvm.Cond.fieldLink "PositionDesk$Legs" (25 : Nat) "PositionDesk$Legs" "count" "I") ∈ lw_g := k_w (List.mem_of_getElem? (i := 86) (by decide +kernel)) (by decide +kernel)
theorem tw_87 : (Jvm.Cond.fieldLink "PositionDesk" (138 : Nat) "PositionDesk$Legs" "count" "I") ∈ lw_g := k_w (List.mem_of_getElem? (i := 87) (by decide +kernel)) (by decide +kernel)
theorem tw_99 : (Jvm.Cond.fieldLink "PositionDesk" (9 : Nat) "PositionDesk" "participants" "I") ∈ lw_g := k_w (List.mem_of_getElem? (i := 99) (by decide +kernel)) (by decide +kernel)
theorem tw_100 : (Jvm.Cond.fieldLink "PositionDesk" (19 : Nat) "PositionDesk" "positions" "I") ∈ lw_g := k_w (List.mem_of_getElem? (i := 100) (by decide +kernel)) (by decide +kernel)
theorem tw_101 : (Jvm.Cond.fieldLink "PositionDesk" (15 : Nat) "PositionDesk" "assets" "[LPositionDesk$Asset;") ∈ lw_g := k_w (List.mem_of_getElem? (i := 101) (by decide +kernel)) (by decide +kernel)
theorem tw_102 : (Jvm.Cond.fieldLink "PositionDesk" (22 : Nat) "PositionDesk" "made" "I") ∈ lw_g := k_w (List.mem_of_getElem? (i := 102) (by decide +kernel)) (by decide +kernel)
theorem tw_103 : (Jvm.Cond.fieldLink "PositionDesk" (25 : Nat) "PositionDesk" "money" "I") ∈ lw_g := k_w (List.mem_of_getElem? (i := 103) (by decide +kernel)) (by decide +kernel)
theorem tw_104 : (Jvm.Cond.fieldLink "PositionDesk" (28 : Nat) "PositionDesk" "credits" "[J") ∈ lw_g := k_w (List.mem_of_getElem? (i := 104) (by decide +kernel)) (by decide +kernel)
theorem tw_105 : (Jvm.Cond.fieldLink "PositionDesk" (32 : Nat) "PositionDesk" "allCredits" "J") ∈ lw_g := k_w (List.mem_of_getElem? (i := 105) (by decide +kernel)) (by decide +kernel)
theorem tw_106 : (Jvm.Cond.fieldLink "PositionDesk" (41 : Nat) "PositionDesk" "limits" "LPositionDesk$PairAmounts;") ∈ lw_g := k_w (List.mem_of_getElem? (i := 106) (by decide +kernel)) (by decide +kernel)
theorem tw_107 : (Jvm.Cond.fieldLink "PositionDesk" (45 : Nat) "PositionDesk" "paid" "LPositionDesk$PairAmounts;") ∈ lw_g := k_w (List.mem_of_getElem? (i := 107) (by decide +kernel)) (by decide +kernel)
theorem tw_108 : (Jvm.Cond.fieldLink "PositionDesk" (51 : Nat) "PositionDesk" "legs" "LPositionDesk$Legs;") ∈ lw_g := k_w (List.mem_of_getElem? (i := 108) (by decide +kernel)) (by decide +kernel)
theorem tw_130 : (Jvm.Cond.methodLink "PositionDeskLaw" (21 : Nat) ({ cls := "PositionDesk", name := "currency", desc := "()I" } : Jvm.MethodName)) ∈ lw_g := k_w (List.mem_of_getElem? (i := 130) (by decide +kernel)) (by decide +kernel)
theorem tw_131 : (Jvm.Cond.instanceMethod ({ cls := "PositionDesk", name := "currency", desc := "()I" } : Jvm.MethodName)) ∈ lw_g := k_w (List.mem_of_getElem? (i := 131) (by decide +kernel)) (by decide +kernel)
theorem tw_132 : (Jvm.Cond.selects "PositionDesk" ({ cls := "PositionDesk", name := "currency", desc := "()I" } : Jvm.MethodName) ({ cls := "PositionDesk", name := "currency", desc := "()I" } : Jvm.MethodName)) ∈ lw_g := k_w (List.mem_of_getElem? (i := 132) (by decide +kernel)) (by decide +kernel)
theorem tw_133 : (Jvm.Cond.code ({ cls := "PositionDesk", name := "currency", desc := "()I" } : Jvm.MethodName) prog_1_method_2_code (2 : Nat) (Option.some Jvm.ClassFile.FieldType.int)) ∈ lw_g := k_w (List.mem_of_getElem? (i := 133) (by decide +kernel)) (by decide +kernel)
theorem tw_134 : (Jvm.Cond.methodLink "PositionDesk" (55 : Nat) ({ cls := "PositionDesk", name := "addAsset", desc := "(ZJ)I" } : Jvm.MethodName)) ∈ lw_g := k_w (List.mem_of_getElem? (i := 134) (by decide +kernel)) (by decide +kernel)
theorem tw_136 : (Jvm.Cond.instanceMethod ({ cls := "PositionDesk", name := "addAsset", desc := "(ZJ)I" } : Jvm.MethodName)) ∈ lw_g := k_w (List.mem_of_getElem? (i := 136) (by decide +kernel)) (by decide +kernel)
theorem tw_137 : (Jvm.Cond.code ({ cls := "PositionDesk", name := "addAsset", desc := "(ZJ)I" } : Jvm.MethodName) prog_1_method_31_code (5 : Nat) (Option.some Jvm.ClassFile.FieldType.int)) ∈ lw_g := k_w (List.mem_of_getElem? (i := 137) (by decide +kernel)) (by decide +kernel)
theorem tw_138 : (Jvm.Cond.instantiable "PositionDesk$Asset" (4 : Nat)) ∈ lw_g := k_w (List.mem_of_getElem? (i := 138) (by decide +kernel)) (by decide +kernel)
theorem tw_139 : (Jvm.Cond.methodLink "PositionDesk" (191 : Nat) ({ cls := "PositionDesk$Asset", name := "<init>", desc := "(ZJI)V" } : Jvm.MethodName)) ∈ lw_g := k_w (List.mem_of_getElem? (i := 139) (by decide +kernel)) (by decide +kernel)
theorem tw_140 : (Jvm.Cond.instanceMethod ({ cls := "PositionDesk$Asset", name := "<init>", desc := "(ZJI)V" } : Jvm.MethodName)) ∈ lw_g := k_w (List.mem_of_getElem? (i := 140) (by decide +kernel)) (by decide +kernel)
theorem tw_141 : (Jvm.Cond.code ({ cls := "PositionDesk$Asset", name := "<init>", desc := "(ZJI)V" } : Jvm.MethodName) prog_2_method_1_code (5 : Nat) (Option.none : Option Jvm.ClassFile.FieldType)) ∈ lw_g := k_w (List.mem_of_getElem? (i := 141) (by decide +kernel)) (by decide +kernel)
theorem tw_142 : (Jvm.Cond.methodLink "PositionDesk$Asset" (1 : Nat) ({ cls := "java/lang/Object", name := "<init>", desc := "()V" } : Jvm.MethodName)) ∈ lw_g := k_w (List.mem_of_getElem? (i := 142) (by decide +kernel)) (by decide +kernel)
theorem tw_143 : (Jvm.Cond.fieldLink "PositionDesk$Asset" (7 : Nat) "PositionDesk$Asset" "isSecurity" "Z") ∈ lw_g := k_w (List.mem_of_getElem? (i := 143) (by decide +kernel)) (by decide +kernel)
theorem tw_144 : (Jvm.Cond.fieldLink "PositionDesk" (187 : Nat) "PositionDesk$Asset" "isSecurity" "Z") ∈ lw_g := k_w (List.mem_of_getElem? (i := 144) (by decide +kernel)) (by decide +kernel)
theorem tw_145 : (Jvm.Cond.fieldLink "PositionDesk$Asset" (17 : Nat) "PositionDesk$Asset" "held" "[J") ∈ lw_g := k_w (List.mem_of_getElem? (i := 145) (by decide +kernel)) (by decide +kernel)
theorem tw_146 : (Jvm.Cond.fieldLink "PositionDesk" (90 : Nat) "PositionDesk$Asset" "held" "[J") ∈ lw_g := k_w (List.mem_of_getElem? (i := 146) (by decide +kernel)) (by decide +kernel)
theorem tw_147 : (Jvm.Cond.fieldLink "PositionDesk$Asset" (21 : Nat) "PositionDesk$Asset" "pledged" "[J") ∈ lw_g := k_w (List.mem_of_getElem? (i := 147) (by decide +kernel)) (by decide +kernel)
theorem tw_148 : (Jvm.Cond.fieldLink "PositionDesk" (103 : Nat) "PositionDesk$Asset" "pledged" "[J") ∈ lw_g := k_w (List.mem_of_getElem? (i := 148) (by decide +kernel)) (by decide +kernel)
theorem tw_149 : (Jvm.Cond.fieldLink "PositionDesk$Asset" (13 : Nat) "PositionDesk$Asset" "rate" "J") ∈ lw_g := k_w (List.mem_of_getElem? (i := 149) (by decide +kernel)) (by decide +kernel)
theorem tw_150 : (Jvm.Cond.fieldLink "PositionDesk" (196 : Nat) "PositionDesk$Asset" "rate" "J") ∈ lw_g := k_w (List.mem_of_getElem? (i := 150) (by decide +kernel)) (by decide +kernel)
theorem tw_160 : (Jvm.Cond.methodLink "PositionDeskLaw" (28 : Nat) ({ cls := "PositionDesk", name := "security", desc := "(JI)I" } : Jvm.MethodName)) ∈ lw_g := k_w (List.mem_of_getElem? (i := 160) (by decide +kernel)) (by decide +kernel)
theorem tw_161 : (Jvm.Cond.instanceMethod ({ cls := "PositionDesk", name := "security", desc := "(JI)I" } : Jvm.MethodName)) ∈ lw_g := k_w (List.mem_of_getElem? (i := 161) (by decide +kernel)) (by decide +kernel)
theorem tw_162 : (Jvm.Cond.selects "PositionDesk" ({ cls := "PositionDesk", name := "security", desc := "(JI)I" } : Jvm.MethodName) ({ cls := "PositionDesk", name := "security", desc := "(JI)I" } : Jvm.MethodName)) ∈ lw_g := k_w (List.mem_of_getElem? (i := 162) (by decide +kernel)) (by decide +kernel)
theorem tw_163 : (Jvm.Cond.code ({ cls := "PositionDesk", name := "security", desc := "(JI)I" } : Jvm.MethodName) prog_1_method_3_code (4 : Nat) (Option.some Jvm.ClassFile.FieldType.int)) ∈ lw_g := k_w (List.mem_of_getElem? (i := 163) (by decide +kernel)) (by decide +kernel)
theorem tw_164 : (Jvm.Cond.methodLink "PositionDesk" (59 : Nat) ({ cls := "PositionDesk", name := "isPriced", desc := "(JI)Z" } : Jvm.MethodName)) ∈ lw_g := k_w (List.mem_of_getElem? (i := 164) (by decide +kernel)) (by decide +kernel)
theorem tw_165 : (Jvm.Cond.static ({ cls := "PositionDesk", name := "isPriced", desc := "(JI)Z" } : Jvm.MethodName)) ∈ lw_g := k_w (List.mem_of_getElem? (i := 165) (by decide +kernel)) (by decide +kernel)
theorem tw_166 : (Jvm.Cond.code ({ cls := "PositionDesk", name := "isPriced", desc := "(JI)Z" } : Jvm.MethodName) prog_1_method_24_code (3 : Nat) (Option.some Jvm.ClassFile.FieldType.boolean)) ∈ lw_g := k_w (List.mem_of_getElem? (i := 166) (by decide +kernel)) (by decide +kernel)
theorem tw_167 : (Jvm.Cond.constantLong "PositionDesk" (114 : Nat) (999999999999999 : Int64)) ∈ lw_g := k_w (List.mem_of_getElem? (i := 167) (by decide +kernel)) (by decide +kernel)
theorem tw_168 : (Jvm.Cond.methodLink "PositionDesk" (63 : Nat) ({ cls := "PositionDesk", name := "rateOf", desc := "(JI)J" } : Jvm.MethodName)) ∈ lw_g := k_w (List.mem_of_getElem? (i := 168) (by decide +kernel)) (by decide +kernel)
theorem tw_169 : (Jvm.Cond.static ({ cls := "PositionDesk", name := "rateOf", desc := "(JI)J" } : Jvm.MethodName)) ∈ lw_g := k_w (List.mem_of_getElem? (i := 169) (by decide +kernel)) (by decide +kernel)
theorem tw_170 : (Jvm.Cond.code ({ cls := "PositionDesk", name := "rateOf", desc := "(JI)J" } : Jvm.MethodName) prog_1_method_32_code (3 : Nat) (Option.some Jvm.ClassFile.FieldType.long)) ∈ lw_g := k_w (List.mem_of_getElem? (i := 170) (by decide +kernel)) (by decide +kernel)
theorem tw_171 : (Jvm.Cond.methodLink "PositionDeskLaw" (33 : Nat) ({ cls := "PositionDesk", name := "price", desc := "(IJI)I" } : Jvm.MethodName)) ∈ lw_g := k_w (List.mem_of_getElem? (i := 171) (by decide +kernel)) (by decide +kernel)
theorem tw_172 : (Jvm.Cond.instanceMethod ({ cls := "PositionDesk", name := "price", desc := "(IJI)I" } : Jvm.MethodName)) ∈ lw_g := k_w (List.mem_of_getElem? (i := 172) (by decide +kernel)) (by decide +kernel)
theorem tw_173 : (Jvm.Cond.selects "PositionDesk" ({ cls := "PositionDesk", name := "price", desc := "(IJI)I" } : Jvm.MethodName) ({ cls := "PositionDesk", name := "price", desc := "(IJI)I" } : Jvm.MethodName)) ∈ lw_g := k_w (List.mem_of_getElem? (i := 173) (by decide +kernel)) (by decide +kernel)
theorem tw_174 : (Jvm.Cond.code ({ cls := "PositionDesk", name := "price", desc := "(IJI)I" } : Jvm.MethodName) prog_1_method_4_code (9 : Nat) (Option.some Jvm.ClassFile.FieldType.int)) ∈ lw_g := k_w (List.mem_of_getElem? (i := 174) (by decide +kernel)) (by decide +kernel)
theorem tw_175 : (Jvm.Cond.methodLink "PositionDesk" (67 : Nat) ({ cls := "PositionDesk", name := "securityAt", desc := "(I)LPositionDesk$Asset;" } : Jvm.MethodName)) ∈ lw_g := k_w (List.mem_of_getElem? (i := 175) (by decide +kernel)) (by decide +kernel)
theorem tw_177 : (Jvm.Cond.instanceMethod ({ cls := "PositionDesk", name := "securityAt", desc := "(I)LPositionDesk$Asset;" } : Jvm.MethodName)) ∈ lw_g := k_w (List.mem_of_getElem? (i := 177) (by decide +kernel)) (by decide +kernel)
theorem tw_178 : (Jvm.Cond.code ({ cls := "PositionDesk", name := "securityAt", desc := "(I)LPositionDesk$Asset;" } : Jvm.MethodName) prog_1_method_30_code (3 : Nat) (Option.some (Jvm.ClassFile.FieldType.object "PositionDesk$Asset"))) ∈ lw_g := k_w (List.mem_of_getElem? (i := 178) (by decide +kernel)) (by decide +kernel)
theorem tw_179 : (Jvm.Cond.methodLink "PositionDesk" (79 : Nat) ({ cls := "PositionDesk", name := "assetAt", desc := "(I)LPositionDesk$Asset;" } : Jvm.MethodName)) ∈ lw_g := k_w (List.mem_of_getElem? (i := 179) (by decide +kernel)) (by decide +kernel)
theorem tw_181 : (Jvm.Cond.instanceMethod ({ cls := "PositionDesk", name := "assetAt", desc := "(I)LPositionDesk$Asset;" } : Jvm.MethodName)) ∈ lw_g := k_w (List.mem_of_getElem? (i := 181) (by decide +kernel)) (by decide +kernel)
theorem tw_182 : (Jvm.Cond.code ({ cls := "PositionDesk", name := "assetAt", desc := "(I)LPositionDesk$Asset;" } : Jvm.MethodName) prog_1_method_29_code (2 : Nat) (Option.some (Jvm.ClassFile.FieldType.object "PositionDesk$Asset"))) ∈ lw_g := k_w (List.mem_of_getElem? (i := 182) (by decide +kernel)) (by decide +kernel)
theorem tw_183 : (Jvm.Cond.methodLink "PositionDesk" (71 : Nat) ({ cls := "PositionDesk", name := "faultOfRate", desc := "(LPositionDesk$Asset;J)I" } : Jvm.MethodName)) ∈ lw_g := k_w (List.mem_of_getElem? (i := 183) (by decide +kernel)) (by decide +kernel)
theorem tw_185 : (Jvm.Cond.instanceMethod ({ cls := "PositionDesk", name := "faultOfRate", desc := "(LPositionDesk$Asset;J)I" } : Jvm.MethodName)) ∈ lw_g := k_w (List.mem_of_getElem? (i := 185) (by decide +kernel)) (by decide +kernel)
theorem tw_186 : (Jvm.Cond.code ({ cls := "PositionDesk", name := "faultOfRate", desc := "(LPositionDesk$Asset;J)I" } : Jvm.MethodName) prog_1_method_38_code (9 : Nat) (Option.some Jvm.ClassFile.FieldType.int)) ∈ lw_g := k_w (List.mem_of_getElem? (i := 186) (by decide +kernel)) (by decide +kernel)
theorem tw_187 : (Jvm.Cond.methodLink "PositionDesk" (214 : Nat) ({ cls := "PositionDesk", name := "creditWith", desc := "(LPositionDesk$Asset;IJJ)J" } : Jvm.MethodName)) ∈ lw_g := k_w (List.mem_of_getElem? (i := 187) (by decide +kernel)) (by decide +kernel)
theorem tw_189 : (Jvm.Cond.instanceMethod ({ cls := "PositionDesk", name := "creditWith", desc := "(LPositionDesk$Asset;IJJ)J" } : Jvm.MethodName)) ∈ lw_g := k_w (List.mem_of_getElem? (i := 189) (by decide +kernel)) (by decide +kernel)
theorem tw_190 : (Jvm.Cond.code ({ cls := "PositionDesk", name := "creditWith", desc := "(LPositionDesk$Asset;IJJ)J" } : Jvm.MethodName) prog_1_method_34_code (9 : Nat) (Option.some Jvm.ClassFile.FieldType.long)) ∈ lw_g := k_w (List.mem_of_getElem? (i := 190) (by decide +kernel)) (by decide +kernel)
theorem tw_191 : (Jvm.Cond.methodLink "PositionDesk" (199 : Nat) ({ cls := "PositionDesk", name := "worth", desc := "(JJ)J" } : Jvm.MethodName)) ∈ lw_g := k_w (List.mem_of_getElem? (i := 191) (by decide +kernel)) (by decide +kernel)
theorem tw_192 : (Jvm.Cond.static ({ cls := "PositionDesk", name := "worth", desc := "(JJ)J" } : Jvm.MethodName)) ∈ lw_g := k_w (List.mem_of_getElem? (i := 192) (by decide +kernel)) (by decide +kernel)
theorem tw_193 : (Jvm.Cond.code ({ cls := "PositionDesk", name := "worth", desc := "(JJ)J" } : Jvm.MethodName) prog_1_method_35_code (10 : Nat) (Option.some Jvm.ClassFile.FieldType.long)) ∈ lw_g := k_w (List.mem_of_getElem? (i := 193) (by decide +kernel)) (by decide +kernel)
theorem tw_194 : (Jvm.Cond.constantLong "PositionDesk" (210 : Nat) (100 : Int64)) ∈ lw_g := k_w (List.mem_of_getElem? (i := 194) (by decide +kernel)) (by decide +kernel)
theorem tw_195 : (Jvm.Cond.constantLong "PositionDesk" (212 : Nat) (4000000000000000000 : Int64)) ∈ lw_g := k_w (List.mem_of_getElem? (i := 195) (by decide +kernel)) (by decide +kernel)
theorem tw_196 : (Jvm.Cond.constantLong "PositionDesk" (203 : Nat) (4000000000000000001 : Int64)) ∈ lw_g := k_w (List.mem_of_getElem? (i := 196) (by decide +kernel)) (by decide +kernel)
theorem tw_197 : (Jvm.Cond.methodLink "PositionDesk" (205 : Nat) ({ cls := "java/lang/Math", name := "min", desc := "(JJ)J" } : Jvm.MethodName)) ∈ lw_g := k_w (List.mem_of_getElem? (i := 197) (by decide +kernel)) (by decide +kernel)
theorem tw_198 : (Jvm.Cond.static ({ cls := "java/lang/Math", name := "min", desc := "(JJ)J" } : Jvm.MethodName)) ∈ lw_g := k_w (List.mem_of_getElem? (i := 198) (by decide +kernel)) (by decide +kernel)
theorem tw_199 : (Jvm.Cond.code ({ cls := "java/lang/Math", name := "min", desc := "(JJ)J" } : Jvm.MethodName) prog_7_method_70_code (4 : Nat) (Option.some Jvm.ClassFile.FieldType.long)) ∈ lw_g := k_w (List.mem_of_getElem? (i := 199) (by decide +kernel)) (by decide +kernel)
theorem tw_200 : (Jvm.Cond.methodLink "PositionDesk" (218 : Nat) ({ cls := "PositionDesk", name := "isOverdrawn", desc := "(IJ)Z" } : Jvm.MethodName)) ∈ lw_g := k_w (List.mem_of_getElem? (i := 200) (by decide +kernel)) (by decide +kernel)
theorem tw_202 : (Jvm.Cond.instanceMethod ({ cls := "PositionDesk", name := "isOverdrawn", desc := "(IJ)Z" } : Jvm.MethodName)) ∈ lw_g := k_w (List.mem_of_getElem? (i := 202) (by decide +kernel)) (by decide +kernel)
theorem tw_203 : (Jvm.Cond.code ({ cls := "PositionDesk", name := "isOverdrawn", desc := "(IJ)Z" } : Jvm.MethodName) prog_1_method_36_code (5 : Nat) (Option.some Jvm.ClassFile.FieldType.boolean)) ∈ lw_g := k_w (List.mem_of_getElem? (i := 203) (by decide +kernel)) (by decide +kernel)
theorem tw_204 : (Jvm.Cond.methodLink "PositionDesk" (75 : Nat) ({ cls := "PositionDesk", name := "setRate", desc := "(LPositionDesk$Asset;J)V" } : Jvm.MethodName)) ∈ lw_g := k_w (List.mem_of_getElem? (i := 204) (by decide +kernel)) (by decide +kernel)
theorem tw_206 : (Jvm.Cond.instanceMethod ({ cls := "PositionDesk", name := "setRate", desc := "(LPositionDesk$Asset;J)V" } : Jvm.MethodName)) ∈ lw_g := k_w (List.mem_of_getElem? (i := 206) (by decide +kernel)) (by decide +kernel)
theorem tw_207 : (Jvm.Cond.code ({ cls := "PositionDesk", name := "setRate", desc := "(LPositionDesk$Asset;J)V" } : Jvm.MethodName) prog_1_method_39_code (7 : Nat) (Option.none : Option Jvm.ClassFile.FieldType)) ∈ lw_g := k_w (List.mem_of_getElem? (i := 207) (by decide +kernel)) (by decide +kernel)
theorem tw_208 : (Jvm.Cond.methodLink "PositionDeskLaw" (38 : Nat) ({ cls := "PositionDesk", name := "give", desc := "(IIJ)I" } : Jvm.MethodName)) ∈ lw_g := k_w (List.mem_of_getElem? (i := 208) (by decide +kernel)) (by decide +kernel)
theorem tw_209 : (Jvm.Cond.instanceMethod ({ cls := "PositionDesk", name := "give", desc := "(IIJ)I" } : Jvm.MethodName)) ∈ lw_g := k_w (List.mem_of_getElem? (i := 209) (by decide +kernel)) (by decide +kernel)
theorem tw_210 : (Jvm.Cond.selects "PositionDesk" ({ cls := "PositionDesk", name := "give", desc := "(IIJ)I" } : Jvm.MethodName) ({ cls := "PositionDesk", name := "give", desc := "(IIJ)I" } : Jvm.MethodName)) ∈ lw_g := k_w (List.mem_of_getElem? (i := 210) (by decide +kernel)) (by decide +kernel)
theorem tw_211 : (Jvm.Cond.code ({ cls := "PositionDesk", name := "give", desc := "(IIJ)I" } : Jvm.MethodName) prog_1_method_5_code (6 : Nat) (Option.some Jvm.ClassFile.FieldType.int)) ∈ lw_g := k_w (List.mem_of_getElem? (i := 211) (by decide +kernel)) (by decide +kernel)
theorem tw_212 : (Jvm.Cond.methodLink "PositionDesk" (82 : Nat) ({ cls := "PositionDesk", name := "isClient", desc := "(I)Z" } : Jvm.MethodName)) ∈ lw_g := k_w (List.mem_of_getElem? (i := 212) (by decide +kernel)) (by decide +kernel)
theorem tw_214 : (Jvm.Cond.instanceMethod ({ cls := "PositionDesk", name := "isClient", desc := "(I)Z" } : Jvm.MethodName)) ∈ lw_g := k_w (List.mem_of_getElem? (i := 214) (by decide +kernel)) (by decide +kernel)
theorem tw_215 : (Jvm.Cond.code ({ cls := "PositionDesk", name := "isClient", desc := "(I)Z" } : Jvm.MethodName) prog_1_method_21_code (2 : Nat) (Option.some Jvm.ClassFile.FieldType.boolean)) ∈ lw_g := k_w (List.mem_of_getElem? (i := 215) (by decide +kernel)) (by decide +kernel)
theorem tw_216 : (Jvm.Cond.methodLink "PositionDesk" (86 : Nat) ({ cls := "PositionDesk", name := "isAmount", desc := "(J)Z" } : Jvm.MethodName)) ∈ lw_g := k_w (List.mem_of_getElem? (i := 216) (by decide +kernel)) (by decide +kernel)
theorem tw_217 : (Jvm.Cond.static ({ cls := "PositionDesk", name := "isAmount", desc := "(J)Z" } : Jvm.MethodName)) ∈ lw_g := k_w (List.mem_of_getElem? (i := 217) (by decide +kernel)) (by decide +kernel)
theorem tw_218 : (Jvm.Cond.code ({ cls := "PositionDesk", name := "isAmount", desc := "(J)Z" } : Jvm.MethodName) prog_1_method_23_code (2 : Nat) (Option.some Jvm.ClassFile.FieldType.boolean)) ∈ lw_g := k_w (List.mem_of_getElem? (i := 218) (by decide +kernel)) (by decide +kernel)
theorem tw_219 : (Jvm.Cond.constantLong "PositionDesk" (93 : Nat) (-4000000000000000000 : Int64)) ∈ lw_g := k_w (List.mem_of_getElem? (i := 219) (by decide +kernel)) (by decide +kernel)
theorem tw_220 : (Jvm.Cond.methodLink "PositionDesk" (95 : Nat) ({ cls := "PositionDesk$Asset", name := "move", desc := "(IIJ)V" } : Jvm.MethodName)) ∈ lw_g := k_w (List.mem_of_getElem? (i := 220) (by decide +kernel)) (by decide +kernel)
theorem tw_221 : (Jvm.Cond.instanceMethod ({ cls := "PositionDesk$Asset", name := "move", desc := "(IIJ)V" } : Jvm.MethodName)) ∈ lw_g := k_w (List.mem_of_getElem? (i := 221) (by decide +kernel)) (by decide +kernel)
theorem tw_222 : (Jvm.Cond.selects "PositionDesk$Asset" ({ cls := "PositionDesk$Asset", name := "move", desc := "(IIJ)V" } : Jvm.MethodName) ({ cls := "PositionDesk$Asset", name := "move", desc := "(IIJ)V" } : Jvm.MethodName)) ∈ lw_g := k_w (List.mem_of_getElem? (i := 222) (by decide +kernel)) (by decide +kernel)
theorem tw_223 : (Jvm.Cond.code ({ cls := "PositionDesk$Asset", name := "move", desc := "(IIJ)V" } : Jvm.MethodName) prog_2_method_2_code (5 : Nat) (Option.none : Option Jvm.ClassFile.FieldType)) ∈ lw_g := k_w (List.mem_of_getElem? (i := 223) (by decide +kernel)) (by decide +kernel)
theorem tw_224 : (Jvm.Cond.methodLink "PositionDeskLaw" (43 : Nat) ({ cls := "PositionDesk", name := "back", desc := "(IIJ)I" } : Jvm.MethodName)) ∈ lw_g := k_w (List.mem_of_getElem? (i := 224) (by decide +kernel)) (by decide +kernel)
theorem tw_225 : (Jvm.Cond.instanceMethod ({ cls := "PositionDesk", name := "back", desc := "(IIJ)I" } : Jvm.MethodName)) ∈ lw_g := k_w (List.mem_of_getElem? (i := 225) (by decide +kernel)) (by decide +kernel)
theorem tw_226 : (Jvm.Cond.selects "PositionDesk" ({ cls := "PositionDesk", name := "back", desc := "(IIJ)I" } : Jvm.MethodName) ({ cls := "PositionDesk", name := "back", desc := "(IIJ)I" } : Jvm.MethodName)) ∈ lw_g := k_w (List.mem_of_getElem? (i := 226) (by decide +kernel)) (by decide +kernel)
theorem tw_227 : (Jvm.Cond.code ({ cls := "PositionDesk", name := "back", desc := "(IIJ)I" } : Jvm.MethodName) prog_1_method_6_code (6 : Nat) (Option.some Jvm.ClassFile.FieldType.int)) ∈ lw_g := k_w (List.mem_of_getElem? (i := 227) (by decide +kernel)) (by decide +kernel)
theorem tw_228 : (Jvm.Cond.methodLink "PositionDesk" (99 : Nat) ({ cls := "PositionDesk", name := "lowest", desc := "(LPositionDesk$Asset;I)J" } : Jvm.MethodName)) ∈ lw_g := k_w (List.mem_of_getElem? (i := 228) (by decide +kernel)) (by decide +kernel)
theorem tw_230 : (Jvm.Cond.instanceMethod ({ cls := "PositionDesk", name := "lowest", desc := "(LPositionDesk$Asset;I)J" } : Jvm.MethodName)) ∈ lw_g := k_w (List.mem_of_getElem? (i := 230) (by decide +kernel)) (by decide +kernel)
theorem tw_231 : (Jvm.Cond.code ({ cls := "PositionDesk", name := "lowest", desc := "(LPositionDesk$Asset;I)J" } : Jvm.MethodName) prog_1_method_33_code (3 : Nat) (Option.some Jvm.ClassFile.FieldType.long)) ∈ lw_g := k_w (List.mem_of_getElem? (i := 231) (by decide +kernel)) (by decide +kernel)
theorem tw_232 : (Jvm.Cond.constantLong "PositionDesk" (194 : Nat) (-9223372036854775808 : Int64)) ∈ lw_g := k_w (List.mem_of_getElem? (i := 232) (by decide +kernel)) (by decide +kernel)
theorem tw_233 : (Jvm.Cond.methodLink "PositionDeskLaw" (47 : Nat) ({ cls := "PositionDesk", name := "pledge", desc := "(IIJ)I" } : Jvm.MethodName)) ∈ lw_g := k_w (List.mem_of_getElem? (i := 233) (by decide +kernel)) (by decide +kernel)
theorem tw_234 : (Jvm.Cond.instanceMethod ({ cls := "PositionDesk", name := "pledge", desc := "(IIJ)I" } : Jvm.MethodName)) ∈ lw_g := k_w (List.mem_of_getElem? (i := 234) (by decide +kernel)) (by decide +kernel)
theorem tw_235 : (Jvm.Cond.selects "PositionDesk" ({ cls := "PositionDesk", name := "pledge", desc := "(IIJ)I" } : Jvm.MethodName) ({ cls := "PositionDesk", name := "pledge", desc := "(IIJ)I" } : Jvm.MethodName)) ∈ lw_g := k_w (List.mem_of_getElem? (i := 235) (by decide +kernel)) (by decide +kernel)
theorem tw_236 : (Jvm.Cond.code ({ cls := "PositionDesk", name := "pledge", desc := "(IIJ)I" } : Jvm.MethodName) prog_1_method_7_code (6 : Nat) (Option.some Jvm.ClassFile.FieldType.int)) ∈ lw_g := k_w (List.mem_of_getElem? (i := 236) (by decide +kernel)) (by decide +kernel)
theorem tw_237 : (Jvm.Cond.methodLink "PositionDesk" (106 : Nat) ({ cls := "PositionDesk", name := "setPledged", desc := "(LPositionDesk$Asset;IJ)I" } : Jvm.MethodName)) ∈ lw_g := k_w (List.mem_of_getElem? (i := 237) (by decide +kernel)) (by decide +kernel)
theorem tw_239 : (Jvm.Cond.instanceMethod ({ cls := "PositionDesk", name := "setPledged", desc := "(LPositionDesk$Asset;IJ)I" } : Jvm.MethodName)) ∈ lw_g := k_w (List.mem_of_getElem? (i := 239) (by decide +kernel)) (by decide +kernel)
theorem tw_240 : (Jvm.Cond.code ({ cls := "PositionDesk", name := "setPledged", desc := "(LPositionDesk$Asset;IJ)I" } : Jvm.MethodName) prog_1_method_37_code (9 : Nat) (Option.some Jvm.ClassFile.FieldType.int)) ∈ lw_g := k_w (List.mem_of_getElem? (i := 240) (by decide +kernel)) (by decide +kernel)
theorem tw_241 : (Jvm.Cond.methodLink "PositionDeskLaw" (51 : Nat) ({ cls := "PositionDesk", name := "free", desc := "(IIJ)I" } : Jvm.MethodName)) ∈ lw_g := k_w (List.mem_of_getElem? (i := 241) (by decide +kernel)) (by decide +kernel)
theorem tw_242 : (Jvm.Cond.instanceMethod ({ cls := "PositionDesk", name := "free", desc := "(IIJ)I" } : Jvm.MethodName)) ∈ lw_g := k_w (List.mem_of_getElem? (i := 242) (by decide +kernel)) (by decide +kernel)
theorem tw_243 : (Jvm.Cond.selects "PositionDesk" ({ cls := "PositionDesk", name := "free", desc := "(IIJ)I" } : Jvm.MethodName) ({ cls := "PositionDesk", name := "free", desc := "(IIJ)I" } : Jvm.MethodName)) ∈ lw_g := k_w (List.mem_of_getElem? (i := 243) (by decide +kernel)) (by decide +kernel)
theorem tw_244 : (Jvm.Cond.code ({ cls := "PositionDesk", name := "free", desc := "(IIJ)I" } : Jvm.MethodName) prog_1_method_8_code (6 : Nat) (Option.some Jvm.ClassFile.FieldType.int)) ∈ lw_g := k_w (List.mem_of_getElem? (i := 244) (by decide +kernel)) (by decide +kernel)
theorem tw_245 : (Jvm.Cond.methodLink "PositionDeskLaw" (55 : Nat) ({ cls := "PositionDesk", name := "limit", desc := "(IIJ)I" } : Jvm.MethodName)) ∈ lw_g := k_w (List.mem_of_getElem? (i := 245) (by decide +kernel)) (by decide +kernel)
theorem tw_246 : (Jvm.Cond.instanceMethod ({ cls := "PositionDesk", name := "limit", desc := "(IIJ)I" } : Jvm.MethodName)) ∈ lw_g := k_w (List.mem_of_getElem? (i := 246) (by decide +kernel)) (by decide +kernel)
theorem tw_247 : (Jvm.Cond.selects "PositionDesk" ({ cls := "PositionDesk", name := "limit", desc := "(IIJ)I" } : Jvm.MethodName) ({ cls := "PositionDesk", name := "limit", desc := "(IIJ)I" } : Jvm.MethodName)) ∈ lw_g := k_w (List.mem_of_getElem? (i := 247) (by decide +kernel)) (by decide +kernel)
theorem tw_248 : (Jvm.Cond.code ({ cls := "PositionDesk", name := "limit", desc := "(IIJ)I" } : Jvm.MethodName) prog_1_method_9_code (5 : Nat) (Option.some Jvm.ClassFile.FieldType.int)) ∈ lw_g := k_w (List.mem_of_getElem? (i := 248) (by decide +kernel)) (by decide +kernel)
theorem tw_249 : (Jvm.Cond.methodLink "PositionDesk" (110 : Nat) ({ cls := "PositionDesk", name := "areTwoClients", desc := "(II)Z" } : Jvm.MethodName)) ∈ lw_g := k_w (List.mem_of_getElem? (i := 249) (by decide +kernel)) (by decide +kernel)
theorem tw_251 : (Jvm.Cond.instanceMethod ({ cls := "PositionDesk", name := "areTwoClients", desc := "(II)Z" } : Jvm.MethodName)) ∈ lw_g := k_w (List.mem_of_getElem? (i := 251) (by decide +kernel)) (by decide +kernel)
theorem tw_252 : (Jvm.Cond.code ({ cls := "PositionDesk", name := "areTwoClients", desc := "(II)Z" } : Jvm.MethodName) prog_1_method_22_code (3 : Nat) (Option.some Jvm.ClassFile.FieldType.boolean)) ∈ lw_g := k_w (List.mem_of_getElem? (i := 252) (by decide +kernel)) (by decide +kernel)
theorem tw_253 : (Jvm.Cond.methodLink "PositionDesk" (116 : Nat) ({ cls := "PositionDesk", name := "paidFrom", desc := "(II)J" } : Jvm.MethodName)) ∈ lw_g := k_w (List.mem_of_getElem? (i := 253) (by decide +kernel)) (by decide +kernel)
theorem tw_255 : (Jvm.Cond.instanceMethod ({ cls := "PositionDesk", name := "paidFrom", desc := "(II)J" } : Jvm.MethodName)) ∈ lw_g := k_w (List.mem_of_getElem? (i := 255) (by decide +kernel)) (by decide +kernel)
theorem tw_256 : (Jvm.Cond.code ({ cls := "PositionDesk", name := "paidFrom", desc := "(II)J" } : Jvm.MethodName) prog_1_method_40_code (3 : Nat) (Option.some Jvm.ClassFile.FieldType.long)) ∈ lw_g := k_w (List.mem_of_getElem? (i := 256) (by decide +kernel)) (by decide +kernel)
theorem tw_257 : (Jvm.Cond.methodLink "PositionDesk" (120 : Nat) ({ cls := "PositionDesk", name := "pairOf", desc := "(II)I" } : Jvm.MethodName)) ∈ lw_g := k_w (List.mem_of_getElem? (i := 257) (by decide +kernel)) (by decide +kernel)
theorem tw_259 : (Jvm.Cond.instanceMethod ({ cls := "PositionDesk", name := "pairOf", desc := "(II)I" } : Jvm.MethodName)) ∈ lw_g := k_w (List.mem_of_getElem? (i := 259) (by decide +kernel)) (by decide +kernel)
theorem tw_260 : (Jvm.Cond.code ({ cls := "PositionDesk", name := "pairOf", desc := "(II)I" } : Jvm.MethodName) prog_1_method_28_code (3 : Nat) (Option.some Jvm.ClassFile.FieldType.int)) ∈ lw_g := k_w (List.mem_of_getElem? (i := 260) (by decide +kernel)) (by decide +kernel)
theorem tw_261 : (Jvm.Cond.methodLink "PositionDesk" (221 : Nat) ({ cls := "PositionDesk$PairAmounts", name := "amountOf", desc := "(I)J" } : Jvm.MethodName)) ∈ lw_g := k_w (List.mem_of_getElem? (i := 261) (by decide +kernel)) (by decide +kernel)
theorem tw_262 : (Jvm.Cond.instanceMethod ({ cls := "PositionDesk$PairAmounts", name := "amountOf", desc := "(I)J" } : Jvm.MethodName)) ∈ lw_g := k_w (List.mem_of_getElem? (i := 262) (by decide +kernel)) (by decide +kernel)
theorem tw_263 : (Jvm.Cond.selects "PositionDesk$PairAmounts" ({ cls := "PositionDesk$PairAmounts", name := "amountOf", desc := "(I)J" } : Jvm.MethodName) ({ cls := "PositionDesk$PairAmounts", name := "amountOf", desc := "(I)J" } : Jvm.MethodName)) ∈ lw_g := k_w (List.mem_of_getElem? (i := 263) (by decide +kernel)) (by decide +kernel)
theorem tw_264 : (Jvm.Cond.code ({ cls := "PositionDesk$PairAmounts", name := "amountOf", desc := "(I)J" } : Jvm.MethodName) prog_4_method_4_code (3 : Nat) (Option.some Jvm.ClassFile.FieldType.long)) ∈ lw_g := k_w (List.mem_of_getElem? (i := 264) (by decide +kernel)) (by decide +kernel)
theorem tw_265 : (Jvm.Cond.methodLink "PositionDesk$PairAmounts" (23 : Nat) ({ cls := "PositionDesk$PairAmounts", name := "indexOf", desc := "(I)I" } : Jvm.MethodName)) ∈ lw_g := k_w (List.mem_of_getElem? (i := 265) (by decide +kernel)) (by decide +kernel)
theorem tw_267 : (Jvm.Cond.instanceMethod ({ cls := "PositionDesk$PairAmounts", name := "indexOf", desc := "(I)I" } : Jvm.MethodName)) ∈ lw_g := k_w (List.mem_of_getElem? (i := 267) (by decide +kernel)) (by decide +kernel)
theorem tw_268 : (Jvm.Cond.code ({ cls := "PositionDesk$PairAmounts", name := "indexOf", desc := "(I)I" } : Jvm.MethodName) prog_4_method_2_code (3 : Nat) (Option.some Jvm.ClassFile.FieldType.int)) ∈ lw_g := k_w (List.mem_of_getElem? (i := 268) (by decide +kernel)) (by decide +kernel)
theorem tw_269 : (Jvm.Cond.methodLink "PositionDesk" (124 : Nat) ({ cls := "PositionDesk$PairAmounts", name := "put", desc := "(IJ)Z" } : Jvm.MethodName)) ∈ lw_g := k_w (List.mem_of_getElem? (i := 269) (by decide +kernel)) (by decide +kernel)
theorem tw_270 : (Jvm.Cond.instanceMethod ({ cls := "PositionDesk$PairAmounts", name := "put", desc := "(IJ)Z" } : Jvm.MethodName)) ∈ lw_g := k_w (List.mem_of_getElem? (i := 270) (by decide +kernel)) (by decide +kernel)
theorem tw_271 : (Jvm.Cond.selects "PositionDesk$PairAmounts" ({ cls := "PositionDesk$PairAmounts", name := "put", desc := "(IJ)Z" } : Jvm.MethodName) ({ cls := "PositionDesk$PairAmounts", name := "put", desc := "(IJ)Z" } : Jvm.MethodName)) ∈ lw_g := k_w (List.mem_of_getElem? (i := 271) (by decide +kernel)) (by decide +kernel)
theorem tw_272 : (Jvm.Cond.code ({ cls := "PositionDesk$PairAmounts", name := "put", desc := "(IJ)Z" } : Jvm.MethodName) prog_4_method_5_code (5 : Nat) (Option.some Jvm.ClassFile.FieldType.boolean)) ∈ lw_g := k_w (List.mem_of_getElem? (i := 272) (by decide +kernel)) (by decide +kernel)
theorem tw_273 : (Jvm.Cond.methodLink "PositionDeskLaw" (59 : Nat) ({ cls := "PositionDesk", name := "open", desc := "(II)I" } : Jvm.MethodName)) ∈ lw_g := k_w (List.mem_of_getElem? (i := 273) (by decide +kernel)) (by decide +kernel)
theorem tw_274 : (Jvm.Cond.instanceMethod ({ cls := "PositionDesk", name := "open", desc := "(II)I" } : Jvm.MethodName)) ∈ lw_g := k_w (List.mem_of_getElem? (i := 274) (by decide +kernel)) (by decide +kernel)
theorem tw_275 : (Jvm.Cond.selects "PositionDesk" ({ cls := "PositionDesk", name := "open", desc := "(II)I" } : Jvm.MethodName) ({ cls := "PositionDesk", name := "open", desc := "(II)I" } : Jvm.MethodName)) ∈ lw_g := k_w (List.mem_of_getElem? (i := 275) (by decide +kernel)) (by decide +kernel)
theorem tw_276 : (Jvm.Cond.code ({ cls := "PositionDesk", name := "open", desc := "(II)I" } : Jvm.MethodName) prog_1_method_10_code (3 : Nat) (Option.some Jvm.ClassFile.FieldType.int)) ∈ lw_g := k_w (List.mem_of_getElem? (i := 276) (by decide +kernel)) (by decide +kernel)
theorem tw_277 : (Jvm.Cond.methodLink "PositionDesk" (128 : Nat) ({ cls := "PositionDesk$PairAmounts", name := "remove", desc := "(I)Z" } : Jvm.MethodName)) ∈ lw_g := k_w (List.mem_of_getElem? (i := 277) (by decide +kernel)) (by decide +kernel)
theorem tw_278 : (Jvm.Cond.instanceMethod ({ cls := "PositionDesk$PairAmounts", name := "remove", desc := "(I)Z" } : Jvm.MethodName)) ∈ lw_g := k_w (List.mem_of_getElem? (i := 278) (by decide +kernel)) (by decide +kernel)
theorem tw_279 : (Jvm.Cond.selects "PositionDesk$PairAmounts" ({ cls := "PositionDesk$PairAmounts", name := "remove", desc := "(I)Z" } : Jvm.MethodName) ({ cls := "PositionDesk$PairAmounts", name := "remove", desc := "(I)Z" } : Jvm.MethodName)) ∈ lw_g := k_w (List.mem_of_getElem? (i := 279) (by decide +kernel)) (by decide +kernel)
theorem tw_280 : (Jvm.Cond.code ({ cls := "PositionDesk$PairAmounts", name := "remove", desc := "(I)Z" } : Jvm.MethodName) prog_4_method_6_code (3 : Nat) (Option.some Jvm.ClassFile.FieldType.boolean)) ∈ lw_g := k_w (List.mem_of_getElem? (i := 280) (by decide +kernel)) (by decide +kernel)
theorem tw_281 : (Jvm.Cond.methodLink "PositionDeskLaw" (104 : Nat) ({ cls := "PositionDesk", name := "day", desc := "()V" } : Jvm.MethodName)) ∈ lw_g := k_w (List.mem_of_getElem? (i := 281) (by decide +kernel)) (by decide +kernel)
theorem tw_282 : (Jvm.Cond.instanceMethod ({ cls := "PositionDesk", name := "day", desc := "()V" } : Jvm.MethodName)) ∈ lw_g := k_w (List.mem_of_getElem? (i := 282) (by decide +kernel)) (by decide +kernel)
theorem tw_283 : (Jvm.Cond.selects "PositionDesk" ({ cls := "PositionDesk", name := "day", desc := "()V" } : Jvm.MethodName) ({ cls := "PositionDesk", name := "day", desc := "()V" } : Jvm.MethodName)) ∈ lw_g := k_w (List.mem_of_getElem? (i := 283) (by decide +kernel)) (by decide +kernel)
theorem tw_284 : (Jvm.Cond.code ({ cls := "PositionDesk", name := "day", desc := "()V" } : Jvm.MethodName) prog_1_method_11_code (1 : Nat) (Option.none : Option Jvm.ClassFile.FieldType)) ∈ lw_g := k_w (List.mem_of_getElem? (i := 284) (by decide +kernel)) (by decide +kernel)
theorem tw_285 : (Jvm.Cond.methodLink "PositionDesk" (131 : Nat) ({ cls := "PositionDesk$PairAmounts", name := "clear", desc := "()V" } : Jvm.MethodName)) ∈ lw_g := k_w (List.mem_of_getElem? (i := 285) (by decide +kernel)) (by decide +kernel)
theorem tw_286 : (Jvm.Cond.instanceMethod ({ cls := "PositionDesk$PairAmounts", name := "clear", desc := "()V" } : Jvm.MethodName)) ∈ lw_g := k_w (List.mem_of_getElem? (i := 286) (by decide +kernel)) (by decide +kernel)
theorem tw_287 : (Jvm.Cond.selects "PositionDesk$PairAmounts" ({ cls := "PositionDesk$PairAmounts", name := "clear", desc := "()V" } : Jvm.MethodName) ({ cls := "PositionDesk$PairAmounts", name := "clear", desc := "()V" } : Jvm.MethodName)) ∈ lw_g := k_w (List.mem_of_getElem? (i := 287) (by decide +kernel)) (by decide +kernel)
theorem tw_288 : (Jvm.Cond.code ({ cls := "PositionDesk$PairAmounts", name := "clear", desc := "()V" } : Jvm.MethodName) prog_4_method_7_code (1 : Nat) (Option.none : Option Jvm.ClassFile.FieldType)) ∈ lw_g := k_w (List.mem_of_getElem? (i := 288) (by decide +kernel)) (by decide +kernel)
theorem tw_289 : (Jvm.Cond.methodLink "PositionDeskLaw" (64 : Nat) ({ cls := "PositionDesk", name := "leg", desc := "(IIIJ)I" } : Jvm.MethodName)) ∈ lw_g := k_w (List.mem_of_getElem? (i := 289) (by decide +kernel)) (by decide +kernel)
theorem tw_290 : (Jvm.Cond.instanceMethod ({ cls := "PositionDesk", name := "leg", desc := "(IIIJ)I" } : Jvm.MethodName)) ∈ lw_g := k_w (List.mem_of_getElem? (i := 290) (by decide +kernel)) (by decide +kernel)
theorem tw_291 : (Jvm.Cond.selects "PositionDesk" ({ cls := "PositionDesk", name := "leg", desc := "(IIIJ)I" } : Jvm.MethodName) ({ cls := "PositionDesk", name := "leg", desc := "(IIIJ)I" } : Jvm.MethodName)) ∈ lw_g := k_w (List.mem_of_getElem? (i := 291) (by decide +kernel)) (by decide +kernel)
theorem tw_292 : (Jvm.Cond.code ({ cls := "PositionDesk", name := "leg", desc := "(IIIJ)I" } : Jvm.MethodName) prog_1_method_12_code (6 : Nat) (Option.some Jvm.ClassFile.FieldType.int)) ∈ lw_g := k_w (List.mem_of_getElem? (i := 292) (by decide +kernel)) (by decide +kernel)
theorem tw_293 : (Jvm.Cond.methodLink "PositionDesk" (134 : Nat) ({ cls := "PositionDesk$Legs", name := "add", desc := "(IIIJ)Z" } : Jvm.MethodName)) ∈ lw_g := k_w (List.mem_of_getElem? (i := 293) (by decide +kernel)) (by decide +kernel)
theorem tw_294 : (Jvm.Cond.instanceMethod ({ cls := "PositionDesk$Legs", name := "add", desc := "(IIIJ)Z" } : Jvm.MethodName)) ∈ lw_g := k_w (List.mem_of_getElem? (i := 294) (by decide +kernel)) (by decide +kernel)
theorem tw_295 : (Jvm.Cond.selects "PositionDesk$Legs" ({ cls := "PositionDesk$Legs", name := "add", desc := "(IIIJ)Z" } : Jvm.MethodName) ({ cls := "PositionDesk$Legs", name := "add", desc := "(IIIJ)Z" } : Jvm.MethodName)) ∈ lw_g := k_w (List.mem_of_getElem? (i := 295) (by decide +kernel)) (by decide +kernel)
theorem tw_296 : (Jvm.Cond.code ({ cls := "PositionDesk$Legs", name := "add", desc := "(IIIJ)Z" } : Jvm.MethodName) prog_3_method_2_code (6 : Nat) (Option.some Jvm.ClassFile.FieldType.boolean)) ∈ lw_g := k_w (List.mem_of_getElem? (i := 296) (by decide +kernel)) (by decide +kernel)
theorem tw_297 : (Jvm.Cond.methodLink "PositionDeskLaw" (69 : Nat) ({ cls := "PositionDesk", name := "holds", desc := "()Z" } : Jvm.MethodName)) ∈ lw_g := k_w (List.mem_of_getElem? (i := 297) (by decide +kernel)) (by decide +kernel)
theorem tw_298 : (Jvm.Cond.instanceMethod ({ cls := "PositionDesk", name := "holds", desc := "()Z" } : Jvm.MethodName)) ∈ lw_g := k_w (List.mem_of_getElem? (i := 298) (by decide +kernel)) (by decide +kernel)
theorem tw_299 : (Jvm.Cond.selects "PositionDesk" ({ cls := "PositionDesk", name := "holds", desc := "()Z" } : Jvm.MethodName) ({ cls := "PositionDesk", name := "holds", desc := "()Z" } : Jvm.MethodName)) ∈ lw_g := k_w (List.mem_of_getElem? (i := 299) (by decide +kernel)) (by decide +kernel)
theorem tw_300 : (Jvm.Cond.code ({ cls := "PositionDesk", name := "holds", desc := "()Z" } : Jvm.MethodName) prog_1_method_13_code (2 : Nat) (Option.some Jvm.ClassFile.FieldType.boolean)) ∈ lw_g := k_w (List.mem_of_getElem? (i := 300) (by decide +kernel)) (by decide +kernel)
theorem tw_301 : (Jvm.Cond.methodLink "PositionDesk" (148 : Nat) ({ cls := "PositionDesk", name := "breaksFloor", desc := "(II)Z" } : Jvm.MethodName)) ∈ lw_g := k_w (List.mem_of_getElem? (i := 301) (by decide +kernel)) (by decide +kernel)
theorem tw_303 : (Jvm.Cond.instanceMethod ({ cls := "PositionDesk", name := "breaksFloor", desc := "(II)Z" } : Jvm.MethodName)) ∈ lw_g := k_w (List.mem_of_getElem? (i := 303) (by decide +kernel)) (by decide +kernel)
theorem tw_304 : (Jvm.Cond.code ({ cls := "PositionDesk", name := "breaksFloor", desc := "(II)Z" } : Jvm.MethodName) prog_1_method_43_code (6 : Nat) (Option.some Jvm.ClassFile.FieldType.boolean)) ∈ lw_g := k_w (List.mem_of_getElem? (i := 304) (by decide +kernel)) (by decide +kernel)
theorem tw_305 : (Jvm.Cond.methodLink "PositionDesk" (174 : Nat) ({ cls := "PositionDesk$Legs", name := "netOf", desc := "(II)J" } : Jvm.MethodName)) ∈ lw_g := k_w (List.mem_of_getElem? (i := 305) (by decide +kernel)) (by decide +kernel)
theorem tw_306 : (Jvm.Cond.instanceMethod ({ cls := "PositionDesk$Legs", name := "netOf", desc := "(II)J" } : Jvm.MethodName)) ∈ lw_g := k_w (List.mem_of_getElem? (i := 306) (by decide +kernel)) (by decide +kernel)
theorem tw_307 : (Jvm.Cond.selects "PositionDesk$Legs" ({ cls := "PositionDesk$Legs", name := "netOf", desc := "(II)J" } : Jvm.MethodName) ({ cls := "PositionDesk$Legs", name := "netOf", desc := "(II)J" } : Jvm.MethodName)) ∈ lw_g := k_w (List.mem_of_getElem? (i := 307) (by decide +kernel)) (by decide +kernel)
theorem tw_308 : (Jvm.Cond.code ({ cls := "PositionDesk$Legs", name := "netOf", desc := "(II)J" } : Jvm.MethodName) prog_3_method_3_code (6 : Nat) (Option.some Jvm.ClassFile.FieldType.long)) ∈ lw_g := k_w (List.mem_of_getElem? (i := 308) (by decide +kernel)) (by decide +kernel)
theorem tw_309 : (Jvm.Cond.methodLink "PositionDesk" (151 : Nat) ({ cls := "PositionDesk", name := "breaksRoom", desc := "(I)Z" } : Jvm.MethodName)) ∈ lw_g := k_w (List.mem_of_getElem? (i := 309) (by decide +kernel)) (by decide +kernel)
theorem tw_311 : (Jvm.Cond.instanceMethod ({ cls := "PositionDesk", name := "breaksRoom", desc := "(I)Z" } : Jvm.MethodName)) ∈ lw_g := k_w (List.mem_of_getElem? (i := 311) (by decide +kernel)) (by decide +kernel)
theorem tw_312 : (Jvm.Cond.code ({ cls := "PositionDesk", name := "breaksRoom", desc := "(I)Z" } : Jvm.MethodName) prog_1_method_44_code (5 : Nat) (Option.some Jvm.ClassFile.FieldType.boolean)) ∈ lw_g := k_w (List.mem_of_getElem? (i := 312) (by decide +kernel)) (by decide +kernel)
theorem tw_313 : (Jvm.Cond.methodLink "PositionDesk" (177 : Nat) ({ cls := "PositionDesk$Legs", name := "paidFrom", desc := "(III)J" } : Jvm.MethodName)) ∈ lw_g := k_w (List.mem_of_getElem? (i := 313) (by decide +kernel)) (by decide +kernel)
theorem tw_314 : (Jvm.Cond.instanceMethod ({ cls := "PositionDesk$Legs", name := "paidFrom", desc := "(III)J" } : Jvm.MethodName)) ∈ lw_g := k_w (List.mem_of_getElem? (i := 314) (by decide +kernel)) (by decide +kernel)
theorem tw_315 : (Jvm.Cond.selects "PositionDesk$Legs" ({ cls := "PositionDesk$Legs", name := "paidFrom", desc := "(III)J" } : Jvm.MethodName) ({ cls := "PositionDesk$Legs", name := "paidFrom", desc := "(III)J" } : Jvm.MethodName)) ∈ lw_g := k_w (List.mem_of_getElem? (i := 315) (by decide +kernel)) (by decide +kernel)
theorem tw_316 : (Jvm.Cond.code ({ cls := "PositionDesk$Legs", name := "paidFrom", desc := "(III)J" } : Jvm.MethodName) prog_3_method_4_code (7 : Nat) (Option.some Jvm.ClassFile.FieldType.long)) ∈ lw_g := k_w (List.mem_of_getElem? (i := 316) (by decide +kernel)) (by decide +kernel)
theorem tw_317 : (Jvm.Cond.methodLink "PositionDesk" (184 : Nat) ({ cls := "PositionDesk$PairAmounts", name := "has", desc := "(I)Z" } : Jvm.MethodName)) ∈ lw_g := k_w (List.mem_of_getElem? (i := 317) (by decide +kernel)) (by decide +kernel)
theorem tw_318 : (Jvm.Cond.instanceMethod ({ cls := "PositionDesk$PairAmounts", name := "has", desc := "(I)Z" } : Jvm.MethodName)) ∈ lw_g := k_w (List.mem_of_getElem? (i := 318) (by decide +kernel)) (by decide +kernel)
theorem tw_319 : (Jvm.Cond.selects "PositionDesk$PairAmounts" ({ cls := "PositionDesk$PairAmounts", name := "has", desc := "(I)Z" } : Jvm.MethodName) ({ cls := "PositionDesk$PairAmounts", name := "has", desc := "(I)Z" } : Jvm.MethodName)) ∈ lw_g := k_w (List.mem_of_getElem? (i := 319) (by decide +kernel)) (by decide +kernel)
theorem tw_320 : (Jvm.Cond.code ({ cls := "PositionDesk$PairAmounts", name := "has", desc := "(I)Z" } : Jvm.MethodName) prog_4_method_3_code (2 : Nat) (Option.some Jvm.ClassFile.FieldType.boolean)) ∈ lw_g := k_w (List.mem_of_getElem? (i := 320) (by decide +kernel)) (by decide +kernel)
theorem tw_321 : (Jvm.Cond.methodLink "PositionDesk" (180 : Nat) ({ cls := "PositionDesk", name := "roomOf", desc := "(I)J" } : Jvm.MethodName)) ∈ lw_g := k_w (List.mem_of_getElem? (i := 321) (by decide +kernel)) (by decide +kernel)
theorem tw_323 : (Jvm.Cond.instanceMethod ({ cls := "PositionDesk", name := "roomOf", desc := "(I)J" } : Jvm.MethodName)) ∈ lw_g := k_w (List.mem_of_getElem? (i := 323) (by decide +kernel)) (by decide +kernel)
theorem tw_324 : (Jvm.Cond.code ({ cls := "PositionDesk", name := "roomOf", desc := "(I)J" } : Jvm.MethodName) prog_1_method_42_code (2 : Nat) (Option.some Jvm.ClassFile.FieldType.long)) ∈ lw_g := k_w (List.mem_of_getElem? (i := 324) (by decide +kernel)) (by decide +kernel)
theorem tw_325 : (Jvm.Cond.methodLink "PositionDeskLaw" (74 : Nat) ({ cls := "PositionDesk", name := "post", desc := "()Z" } : Jvm.MethodName)) ∈ lw_g := k_w (List.mem_of_getElem? (i := 325) (by decide +kernel)) (by decide +kernel)
theorem tw_326 : (Jvm.Cond.instanceMethod ({ cls := "PositionDesk", name := "post", desc := "()Z" } : Jvm.MethodName)) ∈ lw_g := k_w (List.mem_of_getElem? (i := 326) (by decide +kernel)) (by decide +kernel)
theorem tw_327 : (Jvm.Cond.selects "PositionDesk" ({ cls := "PositionDesk", name := "post", desc := "()Z" } : Jvm.MethodName) ({ cls := "PositionDesk", name := "post", desc := "()Z" } : Jvm.MethodName)) ∈ lw_g := k_w (List.mem_of_getElem? (i := 327) (by decide +kernel)) (by decide +kernel)
theorem tw_328 : (Jvm.Cond.code ({ cls := "PositionDesk", name := "post", desc := "()Z" } : Jvm.MethodName) prog_1_method_14_code (2 : Nat) (Option.some Jvm.ClassFile.FieldType.boolean)) ∈ lw_g := k_w (List.mem_of_getElem? (i := 328) (by decide +kernel)) (by decide +kernel)
theorem tw_329 : (Jvm.Cond.methodLink "PositionDesk" (154 : Nat) ({ cls := "PositionDesk", name := "holds", desc := "()Z" } : Jvm.MethodName)) ∈ lw_g := k_w (List.mem_of_getElem? (i := 329) (by decide +kernel)) (by decide +kernel)
theorem tw_330 : (Jvm.Cond.methodLink "PositionDesk" (158 : Nat) ({ cls := "PositionDesk", name := "doLeg", desc := "(I)V" } : Jvm.MethodName)) ∈ lw_g := k_w (List.mem_of_getElem? (i := 330) (by decide +kernel)) (by decide +kernel)
theorem tw_332 : (Jvm.Cond.instanceMethod ({ cls := "PositionDesk", name := "doLeg", desc := "(I)V" } : Jvm.MethodName)) ∈ lw_g := k_w (List.mem_of_getElem? (i := 332) (by decide +kernel)) (by decide +kernel)
theorem tw_333 : (Jvm.Cond.code ({ cls := "PositionDesk", name := "doLeg", desc := "(I)V" } : Jvm.MethodName) prog_1_method_45_code (3 : Nat) (Option.none : Option Jvm.ClassFile.FieldType)) ∈ lw_g := k_w (List.mem_of_getElem? (i := 333) (by decide +kernel)) (by decide +kernel)
theorem tw_334 : (Jvm.Cond.methodLink "PositionDesk" (230 : Nat) ({ cls := "PositionDesk", name := "addPaid", desc := "(IIJ)V" } : Jvm.MethodName)) ∈ lw_g := k_w (List.mem_of_getElem? (i := 334) (by decide +kernel)) (by decide +kernel)
theorem tw_336 : (Jvm.Cond.instanceMethod ({ cls := "PositionDesk", name := "addPaid", desc := "(IIJ)V" } : Jvm.MethodName)) ∈ lw_g := k_w (List.mem_of_getElem? (i := 336) (by decide +kernel)) (by decide +kernel)
theorem tw_337 : (Jvm.Cond.code ({ cls := "PositionDesk", name := "addPaid", desc := "(IIJ)V" } : Jvm.MethodName) prog_1_method_41_code (6 : Nat) (Option.none : Option Jvm.ClassFile.FieldType)) ∈ lw_g := k_w (List.mem_of_getElem? (i := 337) (by decide +kernel)) (by decide +kernel)
theorem tw_338 : (Jvm.Cond.methodLink "PositionDeskLaw" (78 : Nat) ({ cls := "PositionDesk", name := "drop", desc := "()I" } : Jvm.MethodName)) ∈ lw_g := k_w (List.mem_of_getElem? (i := 338) (by decide +kernel)) (by decide +kernel)
theorem tw_339 : (Jvm.Cond.instanceMethod ({ cls := "PositionDesk", name := "drop", desc := "()I" } : Jvm.MethodName)) ∈ lw_g := k_w (List.mem_of_getElem? (i := 339) (by decide +kernel)) (by decide +kernel)
theorem tw_340 : (Jvm.Cond.selects "PositionDesk" ({ cls := "PositionDesk", name := "drop", desc := "()I" } : Jvm.MethodName) ({ cls := "PositionDesk", name := "drop", desc := "()I" } : Jvm.MethodName)) ∈ lw_g := k_w (List.mem_of_getElem? (i := 340) (by decide +kernel)) (by decide +kernel)
theorem tw_341 : (Jvm.Cond.code ({ cls := "PositionDesk", name := "drop", desc := "()I" } : Jvm.MethodName) prog_1_method_15_code (2 : Nat) (Option.some Jvm.ClassFile.FieldType.int)) ∈ lw_g := k_w (List.mem_of_getElem? (i := 341) (by decide +kernel)) (by decide +kernel)
theorem tw_342 : (Jvm.Cond.methodLink "PositionDeskLaw" (82 : Nat) ({ cls := "PositionDesk", name := "net", desc := "(I)J" } : Jvm.MethodName)) ∈ lw_g := k_w (List.mem_of_getElem? (i := 342) (by decide +kernel)) (by decide +kernel)
theorem tw_343 : (Jvm.Cond.instanceMethod ({ cls := "PositionDesk", name := "net", desc := "(I)J" } : Jvm.MethodName)) ∈ lw_g := k_w (List.mem_of_getElem? (i := 343) (by decide +kernel)) (by decide +kernel)
theorem tw_344 : (Jvm.Cond.selects "PositionDesk" ({ cls := "PositionDesk", name := "net", desc := "(I)J" } : Jvm.MethodName) ({ cls := "PositionDesk", name := "net", desc := "(I)J" } : Jvm.MethodName)) ∈ lw_g := k_w (List.mem_of_getElem? (i := 344) (by decide +kernel)) (by decide +kernel)
theorem tw_345 : (Jvm.Cond.code ({ cls := "PositionDesk", name := "net", desc := "(I)J" } : Jvm.MethodName) prog_1_method_16_code (3 : Nat) (Option.some Jvm.ClassFile.FieldType.long)) ∈ lw_g := k_w (List.mem_of_getElem? (i := 345) (by decide +kernel)) (by decide +kernel)
theorem tw_346 : (Jvm.Cond.methodLink "PositionDesk" (161 : Nat) ({ cls := "PositionDesk", name := "isThere", desc := "(I)Z" } : Jvm.MethodName)) ∈ lw_g := k_w (List.mem_of_getElem? (i := 346) (by decide +kernel)) (by decide +kernel)
theorem tw_347 : (Jvm.Cond.instanceMethod ({ cls := "PositionDesk", name := "isThere", desc := "(I)Z" } : Jvm.MethodName)) ∈ lw_g := k_w (List.mem_of_getElem? (i := 347) (by decide +kernel)) (by decide +kernel)
theorem tw_348 : (Jvm.Cond.selects "PositionDesk" ({ cls := "PositionDesk", name := "isThere", desc := "(I)Z" } : Jvm.MethodName) ({ cls := "PositionDesk", name := "isThere", desc := "(I)Z" } : Jvm.MethodName)) ∈ lw_g := k_w (List.mem_of_getElem? (i := 348) (by decide +kernel)) (by decide +kernel)
theorem tw_349 : (Jvm.Cond.code ({ cls := "PositionDesk", name := "isThere", desc := "(I)Z" } : Jvm.MethodName) prog_1_method_19_code (2 : Nat) (Option.some Jvm.ClassFile.FieldType.boolean)) ∈ lw_g := k_w (List.mem_of_getElem? (i := 349) (by decide +kernel)) (by decide +kernel)
theorem tw_350 : (Jvm.Cond.methodLink "PositionDesk" (164 : Nat) ({ cls := "PositionDesk", name := "isPosition", desc := "(I)Z" } : Jvm.MethodName)) ∈ lw_g := k_w (List.mem_of_getElem? (i := 350) (by decide +kernel)) (by decide +kernel)
theorem tw_352 : (Jvm.Cond.instanceMethod ({ cls := "PositionDesk", name := "isPosition", desc := "(I)Z" } : Jvm.MethodName)) ∈ lw_g := k_w (List.mem_of_getElem? (i := 352) (by decide +kernel)) (by decide +kernel)
theorem tw_353 : (Jvm.Cond.code ({ cls := "PositionDesk", name := "isPosition", desc := "(I)Z" } : Jvm.MethodName) prog_1_method_25_code (2 : Nat) (Option.some Jvm.ClassFile.FieldType.boolean)) ∈ lw_g := k_w (List.mem_of_getElem? (i := 353) (by decide +kernel)) (by decide +kernel)
theorem tw_354 : (Jvm.Cond.methodLink "PositionDesk" (171 : Nat) ({ cls := "PositionDesk", name := "assetOf", desc := "(I)I" } : Jvm.MethodName)) ∈ lw_g := k_w (List.mem_of_getElem? (i := 354) (by decide +kernel)) (by decide +kernel)
theorem tw_356 : (Jvm.Cond.instanceMethod ({ cls := "PositionDesk", name := "assetOf", desc := "(I)I" } : Jvm.MethodName)) ∈ lw_g := k_w (List.mem_of_getElem? (i := 356) (by decide +kernel)) (by decide +kernel)
theorem tw_357 : (Jvm.Cond.code ({ cls := "PositionDesk", name := "assetOf", desc := "(I)I" } : Jvm.MethodName) prog_1_method_27_code (2 : Nat) (Option.some Jvm.ClassFile.FieldType.int)) ∈ lw_g := k_w (List.mem_of_getElem? (i := 357) (by decide +kernel)) (by decide +kernel)
theorem tw_358 : (Jvm.Cond.methodLink "PositionDesk" (167 : Nat) ({ cls := "PositionDesk", name := "ownerOf", desc := "(I)I" } : Jvm.MethodName)) ∈ lw_g := k_w (List.mem_of_getElem? (i := 358) (by decide +kernel)) (by decide +kernel)
theorem tw_360 : (Jvm.Cond.instanceMethod ({ cls := "PositionDesk", name := "ownerOf", desc := "(I)I" } : Jvm.MethodName)) ∈ lw_g := k_w (List.mem_of_getElem? (i := 360) (by decide +kernel)) (by decide +kernel)
theorem tw_361 : (Jvm.Cond.code ({ cls := "PositionDesk", name := "ownerOf", desc := "(I)I" } : Jvm.MethodName) prog_1_method_26_code (2 : Nat) (Option.some Jvm.ClassFile.FieldType.int)) ∈ lw_g := k_w (List.mem_of_getElem? (i := 361) (by decide +kernel)) (by decide +kernel)
theorem tw_362 : (Jvm.Cond.methodLink "PositionDeskLaw" (87 : Nat) ({ cls := "PositionDesk", name := "value", desc := "(I)J" } : Jvm.MethodName)) ∈ lw_g := k_w (List.mem_of_getElem? (i := 362) (by decide +kernel)) (by decide +kernel)
theorem tw_363 : (Jvm.Cond.instanceMethod ({ cls := "PositionDesk", name := "value", desc := "(I)J" } : Jvm.MethodName)) ∈ lw_g := k_w (List.mem_of_getElem? (i := 363) (by decide +kernel)) (by decide +kernel)
theorem tw_364 : (Jvm.Cond.selects "PositionDesk" ({ cls := "PositionDesk", name := "value", desc := "(I)J" } : Jvm.MethodName) ({ cls := "PositionDesk", name := "value", desc := "(I)J" } : Jvm.MethodName)) ∈ lw_g := k_w (List.mem_of_getElem? (i := 364) (by decide +kernel)) (by decide +kernel)
theorem tw_365 : (Jvm.Cond.code ({ cls := "PositionDesk", name := "value", desc := "(I)J" } : Jvm.MethodName) prog_1_method_17_code (3 : Nat) (Option.some Jvm.ClassFile.FieldType.long)) ∈ lw_g := k_w (List.mem_of_getElem? (i := 365) (by decide +kernel)) (by decide +kernel)
theorem tw_366 : (Jvm.Cond.methodLink "PositionDeskLaw" (91 : Nat) ({ cls := "PositionDesk", name := "floor", desc := "(I)J" } : Jvm.MethodName)) ∈ lw_g := k_w (List.mem_of_getElem? (i := 366) (by decide +kernel)) (by decide +kernel)
theorem tw_367 : (Jvm.Cond.instanceMethod ({ cls := "PositionDesk", name := "floor", desc := "(I)J" } : Jvm.MethodName)) ∈ lw_g := k_w (List.mem_of_getElem? (i := 367) (by decide +kernel)) (by decide +kernel)
theorem tw_368 : (Jvm.Cond.selects "PositionDesk" ({ cls := "PositionDesk", name := "floor", desc := "(I)J" } : Jvm.MethodName) ({ cls := "PositionDesk", name := "floor", desc := "(I)J" } : Jvm.MethodName)) ∈ lw_g := k_w (List.mem_of_getElem? (i := 368) (by decide +kernel)) (by decide +kernel)
theorem tw_369 : (Jvm.Cond.code ({ cls := "PositionDesk", name := "floor", desc := "(I)J" } : Jvm.MethodName) prog_1_method_18_code (3 : Nat) (Option.some Jvm.ClassFile.FieldType.long)) ∈ lw_g := k_w (List.mem_of_getElem? (i := 369) (by decide +kernel)) (by decide +kernel)
theorem tw_370 : (Jvm.Cond.methodLink "PositionDeskLaw" (95 : Nat) ({ cls := "PositionDesk", name := "isThere", desc := "(I)Z" } : Jvm.MethodName)) ∈ lw_g := k_w (List.mem_of_getElem? (i := 370) (by decide +kernel)) (by decide +kernel)
theorem tw_371 : (Jvm.Cond.methodLink "PositionDeskLaw" (100 : Nat) ({ cls := "PositionDesk", name := "credit", desc := "(I)J" } : Jvm.MethodName)) ∈ lw_g := k_w (List.mem_of_getElem? (i := 371) (by decide +kernel)) (by decide +kernel)
theorem tw_372 : (Jvm.Cond.instanceMethod ({ cls := "PositionDesk", name := "credit", desc := "(I)J" } : Jvm.MethodName)) ∈ lw_g := k_w (List.mem_of_getElem? (i := 372) (by decide +kernel)) (by decide +kernel)
theorem tw_373 : (Jvm.Cond.selects "PositionDesk" ({ cls := "PositionDesk", name := "credit", desc := "(I)J" } : Jvm.MethodName) ({ cls := "PositionDesk", name := "credit", desc := "(I)J" } : Jvm.MethodName)) ∈ lw_g := k_w (List.mem_of_getElem? (i := 373) (by decide +kernel)) (by decide +kernel)
theorem tw_374 : (Jvm.Cond.code ({ cls := "PositionDesk", name := "credit", desc := "(I)J" } : Jvm.MethodName) prog_1_method_20_code (2 : Nat) (Option.some Jvm.ClassFile.FieldType.long)) ∈ lw_g := k_w (List.mem_of_getElem? (i := 374) (by decide +kernel)) (by decide +kernel)
theorem tw_375 : (Jvm.Cond.methodLink "PositionDeskLaw" (9 : Nat) ({ cls := "PositionDeskLaw", name := "cell", desc := "([II)I" } : Jvm.MethodName)) ∈ lw_g := k_w (List.mem_of_getElem? (i := 375) (by decide +kernel)) (by decide +kernel)
theorem tw_376 : (Jvm.Cond.static ({ cls := "PositionDeskLaw", name := "cell", desc := "([II)I" } : Jvm.MethodName)) ∈ lw_g := k_w (List.mem_of_getElem? (i := 376) (by decide +kernel)) (by decide +kernel)
theorem tw_377 : (Jvm.Cond.code ({ cls := "PositionDeskLaw", name := "cell", desc := "([II)I" } : Jvm.MethodName) method_2_code (2 : Nat) (Option.some Jvm.ClassFile.FieldType.int)) ∈ lw_g := k_w (List.mem_of_getElem? (i := 377) (by decide +kernel)) (by decide +kernel)
theorem tw_378 : (Jvm.Cond.classLink "PositionDeskLaw" (18 : Nat) "PositionDeskModel") ∈ lw_g := k_w (List.mem_of_getElem? (i := 378) (by decide +kernel)) (by decide +kernel)
theorem tw_379 : (Jvm.Cond.instantiable "PositionDeskModel" (26 : Nat)) ∈ lw_g := k_w (List.mem_of_getElem? (i := 379) (by decide +kernel)) (by decide +kernel)
theorem tw_380 : (Jvm.Cond.methodLink "PositionDeskLaw" (20 : Nat) ({ cls := "PositionDeskModel", name := "<init>", desc := "(II)V" } : Jvm.MethodName)) ∈ lw_g := k_w (List.mem_of_getElem? (i := 380) (by decide +kernel)) (by decide +kernel)
theorem tw_381 : (Jvm.Cond.instanceMethod ({ cls := "PositionDeskModel", name := "<init>", desc := "(II)V" } : Jvm.MethodName)) ∈ lw_g := k_w (List.mem_of_getElem? (i := 381) (by decide +kernel)) (by decide +kernel)
theorem tw_382 : (Jvm.Cond.code ({ cls := "PositionDeskModel", name := "<init>", desc := "(II)V" } : Jvm.MethodName) prog_6_method_1_code (5 : Nat) (Option.none : Option Jvm.ClassFile.FieldType)) ∈ lw_g := k_w (List.mem_of_getElem? (i := 382) (by decide +kernel)) (by decide +kernel)
theorem tw_383 : (Jvm.Cond.methodLink "PositionDeskModel" (1 : Nat) ({ cls := "java/lang/Object", name := "<init>", desc := "()V" } : Jvm.MethodName)) ∈ lw_g := k_w (List.mem_of_getElem? (i := 383) (by decide +kernel)) (by decide +kernel)
theorem tw_384 : (Jvm.Cond.fieldLink "PositionDeskModel" (66 : Nat) "PositionDeskModel" "participants" "I") ∈ lw_g := k_w (List.mem_of_getElem? (i := 384) (by decide +kernel)) (by decide +kernel)
theorem tw_385 : (Jvm.Cond.fieldLink "PositionDeskModel" (69 : Nat) "PositionDeskModel" "width" "I") ∈ lw_g := k_w (List.mem_of_getElem? (i := 385) (by decide +kernel)) (by decide +kernel)
theorem tw_386 : (Jvm.Cond.fieldLink "PositionDeskModel" (85 : Nat) "PositionDeskModel" "assets" "I") ∈ lw_g := k_w (List.mem_of_getElem? (i := 386) (by decide +kernel)) (by decide +kernel)
theorem tw_387 : (Jvm.Cond.fieldLink "PositionDeskModel" (7 : Nat) "PositionDeskModel" "money" "I") ∈ lw_g := k_w (List.mem_of_getElem? (i := 387) (by decide +kernel)) (by decide +kernel)
theorem tw_388 : (Jvm.Cond.fieldLink "PositionDeskModel" (13 : Nat) "PositionDeskModel" "sort" "[I") ∈ lw_g := k_w (List.mem_of_getElem? (i := 388) (by decide +kernel)) (by decide +kernel)
theorem tw_389 : (Jvm.Cond.fieldLink "PositionDeskModel" (17 : Nat) "PositionDeskModel" "price" "[J") ∈ lw_g := k_w (List.mem_of_getElem? (i := 389) (by decide +kernel)) (by decide +kernel)
theorem tw_390 : (Jvm.Cond.fieldLink "PositionDeskModel" (21 : Nat) "PositionDeskModel" "haircut" "[I") ∈ lw_g := k_w (List.mem_of_getElem? (i := 390) (by decide +kernel)) (by decide +kernel)
theorem tw_391 : (Jvm.Cond.fieldLink "PositionDeskModel" (72 : Nat) "PositionDeskModel" "moves" "I") ∈ lw_g := k_w (List.mem_of_getElem? (i := 391) (by decide +kernel)) (by decide +kernel)
theorem tw_392 : (Jvm.Cond.fieldLink "PositionDeskModel" (24 : Nat) "PositionDeskModel" "moveAt" "[I") ∈ lw_g := k_w (List.mem_of_getElem? (i := 392) (by decide +kernel)) (by decide +kernel)
theorem tw_393 : (Jvm.Cond.fieldLink "PositionDeskModel" (27 : Nat) "PositionDeskModel" "moveBy" "[J") ∈ lw_g := k_w (List.mem_of_getElem? (i := 393) (by decide +kernel)) (by decide +kernel)
theorem tw_394 : (Jvm.Cond.fieldLink "PositionDeskModel" (78 : Nat) "PositionDeskModel" "payments" "I") ∈ lw_g := k_w (List.mem_of_getElem? (i := 394) (by decide +kernel)) (by decide +kernel)
theorem tw_395 : (Jvm.Cond.fieldLink "PositionDeskModel" (30 : Nat) "PositionDeskModel" "payer" "[I") ∈ lw_g := k_w (List.mem_of_getElem? (i := 395) (by decide +kernel)) (by decide +kernel)
theorem tw_396 : (Jvm.Cond.fieldLink "PositionDeskModel" (33 : Nat) "PositionDeskModel" "payee" "[I") ∈ lw_g := k_w (List.mem_of_getElem? (i := 396) (by decide +kernel)) (by decide +kernel)
theorem tw_397 : (Jvm.Cond.fieldLink "PositionDeskModel" (36 : Nat) "PositionDeskModel" "paid" "[J") ∈ lw_g := k_w (List.mem_of_getElem? (i := 397) (by decide +kernel)) (by decide +kernel)
theorem tw_398 : (Jvm.Cond.fieldLink "PositionDeskModel" (75 : Nat) "PositionDeskModel" "pledges" "I") ∈ lw_g := k_w (List.mem_of_getElem? (i := 398) (by decide +kernel)) (by decide +kernel)
theorem tw_399 : (Jvm.Cond.fieldLink "PositionDeskModel" (39 : Nat) "PositionDeskModel" "pledgeAt" "[I") ∈ lw_g := k_w (List.mem_of_getElem? (i := 399) (by decide +kernel)) (by decide +kernel)
theorem tw_400 : (Jvm.Cond.fieldLink "PositionDeskModel" (42 : Nat) "PositionDeskModel" "pledgeBy" "[J") ∈ lw_g := k_w (List.mem_of_getElem? (i := 400) (by decide +kernel)) (by decide +kernel)
theorem tw_401 : (Jvm.Cond.fieldLink "PositionDeskModel" (109 : Nat) "PositionDeskModel" "limits" "I") ∈ lw_g := k_w (List.mem_of_getElem? (i := 401) (by decide +kernel)) (by decide +kernel)
theorem tw_402 : (Jvm.Cond.fieldLink "PositionDeskModel" (45 : Nat) "PositionDeskModel" "limitFrom" "[I") ∈ lw_g := k_w (List.mem_of_getElem? (i := 402) (by decide +kernel)) (by decide +kernel)
theorem tw_403 : (Jvm.Cond.fieldLink "PositionDeskModel" (48 : Nat) "PositionDeskModel" "limitTo" "[I") ∈ lw_g := k_w (List.mem_of_getElem? (i := 403) (by decide +kernel)) (by decide +kernel)
theorem tw_404 : (Jvm.Cond.fieldLink "PositionDeskModel" (51 : Nat) "PositionDeskModel" "limitOf" "[J") ∈ lw_g := k_w (List.mem_of_getElem? (i := 404) (by decide +kernel)) (by decide +kernel)
theorem tw_405 : (Jvm.Cond.fieldLink "PositionDeskModel" (160 : Nat) "PositionDeskModel" "legs" "I") ∈ lw_g := k_w (List.mem_of_getElem? (i := 405) (by decide +kernel)) (by decide +kernel)
theorem tw_406 : (Jvm.Cond.fieldLink "PositionDeskModel" (54 : Nat) "PositionDeskModel" "legFrom" "[I") ∈ lw_g := k_w (List.mem_of_getElem? (i := 406) (by decide +kernel)) (by decide +kernel)
theorem tw_407 : (Jvm.Cond.fieldLink "PositionDeskModel" (57 : Nat) "PositionDeskModel" "legTo" "[I") ∈ lw_g := k_w (List.mem_of_getElem? (i := 407) (by decide +kernel)) (by decide +kernel)
theorem tw_408 : (Jvm.Cond.fieldLink "PositionDeskModel" (60 : Nat) "PositionDeskModel" "legAsset" "[I") ∈ lw_g := k_w (List.mem_of_getElem? (i := 408) (by decide +kernel)) (by decide +kernel)
theorem tw_409 : (Jvm.Cond.fieldLink "PositionDeskModel" (63 : Nat) "PositionDeskModel" "legBy" "[J") ∈ lw_g := k_w (List.mem_of_getElem? (i := 409) (by decide +kernel)) (by decide +kernel)
theorem tw_463 : (Jvm.Cond.methodLink "PositionDeskLaw" (99 : Nat) ({ cls := "PositionDeskModel", name := "isThere", desc := "(I)Z" } : Jvm.MethodName)) ∈ lw_g := k_w (List.mem_of_getElem? (i := 463) (by decide +kernel)) (by decide +kernel)
theorem tw_464 : (Jvm.Cond.instanceMethod ({ cls := "PositionDeskModel", name := "isThere", desc := "(I)Z" } : Jvm.MethodName)) ∈ lw_g := k_w (List.mem_of_getElem? (i := 464) (by decide +kernel)) (by decide +kernel)
theorem tw_465 : (Jvm.Cond.selects "PositionDeskModel" ({ cls := "PositionDeskModel", name := "isThere", desc := "(I)Z" } : Jvm.MethodName) ({ cls := "PositionDeskModel", name := "isThere", desc := "(I)Z" } : Jvm.MethodName)) ∈ lw_g := k_w (List.mem_of_getElem? (i := 465) (by decide +kernel)) (by decide +kernel)
theorem tw_466 : (Jvm.Cond.code ({ cls := "PositionDeskModel", name := "isThere", desc := "(I)Z" } : Jvm.MethodName) prog_6_method_16_code (2 : Nat) (Option.some Jvm.ClassFile.FieldType.boolean)) ∈ lw_g := k_w (List.mem_of_getElem? (i := 466) (by decide +kernel)) (by decide +kernel)
theorem tw_467 : (Jvm.Cond.methodLink "PositionDeskModel" (120 : Nat) ({ cls := "PositionDeskModel", name := "isRoom", desc := "(I)Z" } : Jvm.MethodName)) ∈ lw_g := k_w (List.mem_of_getElem? (i := 467) (by decide +kernel)) (by decide +kernel)
theorem tw_469 : (Jvm.Cond.instanceMethod ({ cls := "PositionDeskModel", name := "isRoom", desc := "(I)Z" } : Jvm.MethodName)) ∈ lw_g := k_w (List.mem_of_getElem? (i := 469) (by decide +kernel)) (by decide +kernel)
theorem tw_470 : (Jvm.Cond.code ({ cls := "PositionDeskModel", name := "isRoom", desc := "(I)Z" } : Jvm.MethodName) prog_6_method_15_code (2 : Nat) (Option.some Jvm.ClassFile.FieldType.boolean)) ∈ lw_g := k_w (List.mem_of_getElem? (i := 470) (by decide +kernel)) (by decide +kernel)
theorem tw_471 : (Jvm.Cond.methodLink "PositionDeskModel" (112 : Nat) ({ cls := "PositionDeskModel", name := "pair", desc := "(I)I" } : Jvm.MethodName)) ∈ lw_g := k_w (List.mem_of_getElem? (i := 471) (by decide +kernel)) (by decide +kernel)
theorem tw_473 : (Jvm.Cond.instanceMethod ({ cls := "PositionDeskModel", name := "pair", desc := "(I)I" } : Jvm.MethodName)) ∈ lw_g := k_w (List.mem_of_getElem? (i := 473) (by decide +kernel)) (by decide +kernel)
theorem tw_474 : (Jvm.Cond.code ({ cls := "PositionDeskModel", name := "pair", desc := "(I)I" } : Jvm.MethodName) prog_6_method_14_code (2 : Nat) (Option.some Jvm.ClassFile.FieldType.int)) ∈ lw_g := k_w (List.mem_of_getElem? (i := 474) (by decide +kernel)) (by decide +kernel)
theorem tw_475 : (Jvm.Cond.methodLink "PositionDeskModel" (116 : Nat) ({ cls := "PositionDeskModel", name := "limitAt", desc := "(II)I" } : Jvm.MethodName)) ∈ lw_g := k_w (List.mem_of_getElem? (i := 475) (by decide +kernel)) (by decide +kernel)
theorem tw_477 : (Jvm.Cond.instanceMethod ({ cls := "PositionDeskModel", name := "limitAt", desc := "(II)I" } : Jvm.MethodName)) ∈ lw_g := k_w (List.mem_of_getElem? (i := 477) (by decide +kernel)) (by decide +kernel)
theorem tw_478 : (Jvm.Cond.code ({ cls := "PositionDeskModel", name := "limitAt", desc := "(II)I" } : Jvm.MethodName) prog_6_method_13_code (5 : Nat) (Option.some Jvm.ClassFile.FieldType.int)) ∈ lw_g := k_w (List.mem_of_getElem? (i := 478) (by decide +kernel)) (by decide +kernel)
theorem tw_479 : (Jvm.Cond.methodLink "PositionDeskLaw" (25 : Nat) ({ cls := "PositionDeskModel", name := "currency", desc := "()I" } : Jvm.MethodName)) ∈ lw_g := k_w (List.mem_of_getElem? (i := 479) (by decide +kernel)) (by decide +kernel)
theorem tw_480 : (Jvm.Cond.instanceMethod ({ cls := "PositionDeskModel", name := "currency", desc := "()I" } : Jvm.MethodName)) ∈ lw_g := k_w (List.mem_of_getElem? (i := 480) (by decide +kernel)) (by decide +kernel)
theorem tw_481 : (Jvm.Cond.selects "PositionDeskModel" ({ cls := "PositionDeskModel", name := "currency", desc := "()I" } : Jvm.MethodName) ({ cls := "PositionDeskModel", name := "currency", desc := "()I" } : Jvm.MethodName)) ∈ lw_g := k_w (List.mem_of_getElem? (i := 481) (by decide +kernel)) (by decide +kernel)
theorem tw_482 : (Jvm.Cond.code ({ cls := "PositionDeskModel", name := "currency", desc := "()I" } : Jvm.MethodName) prog_6_method_17_code (1 : Nat) (Option.some Jvm.ClassFile.FieldType.int)) ∈ lw_g := k_w (List.mem_of_getElem? (i := 482) (by decide +kernel)) (by decide +kernel)
theorem tw_483 : (Jvm.Cond.methodLink "PositionDeskLaw" (32 : Nat) ({ cls := "PositionDeskModel", name := "security", desc := "(JI)I" } : Jvm.MethodName)) ∈ lw_g := k_w (List.mem_of_getElem? (i := 483) (by decide +kernel)) (by decide +kernel)
theorem tw_484 : (Jvm.Cond.instanceMethod ({ cls := "PositionDeskModel", name := "security", desc := "(JI)I" } : Jvm.MethodName)) ∈ lw_g := k_w (List.mem_of_getElem? (i := 484) (by decide +kernel)) (by decide +kernel)
theorem tw_485 : (Jvm.Cond.selects "PositionDeskModel" ({ cls := "PositionDeskModel", name := "security", desc := "(JI)I" } : Jvm.MethodName) ({ cls := "PositionDeskModel", name := "security", desc := "(JI)I" } : Jvm.MethodName)) ∈ lw_g := k_w (List.mem_of_getElem? (i := 485) (by decide +kernel)) (by decide +kernel)
theorem tw_486 : (Jvm.Cond.code ({ cls := "PositionDeskModel", name := "security", desc := "(JI)I" } : Jvm.MethodName) prog_6_method_19_code (4 : Nat) (Option.some Jvm.ClassFile.FieldType.int)) ∈ lw_g := k_w (List.mem_of_getElem? (i := 486) (by decide +kernel)) (by decide +kernel)
theorem tw_487 : (Jvm.Cond.methodLink "PositionDeskModel" (124 : Nat) ({ cls := "PositionDeskModel", name := "isPrice", desc := "(JI)Z" } : Jvm.MethodName)) ∈ lw_g := k_w (List.mem_of_getElem? (i := 487) (by decide +kernel)) (by decide +kernel)
theorem tw_488 : (Jvm.Cond.static ({ cls := "PositionDeskModel", name := "isPrice", desc := "(JI)Z" } : Jvm.MethodName)) ∈ lw_g := k_w (List.mem_of_getElem? (i := 488) (by decide +kernel)) (by decide +kernel)
theorem tw_489 : (Jvm.Cond.code ({ cls := "PositionDeskModel", name := "isPrice", desc := "(JI)Z" } : Jvm.MethodName) prog_6_method_18_code (3 : Nat) (Option.some Jvm.ClassFile.FieldType.boolean)) ∈ lw_g := k_w (List.mem_of_getElem? (i := 489) (by decide +kernel)) (by decide +kernel)
theorem tw_490 : (Jvm.Cond.constantLong "PositionDeskModel" (107 : Nat) (999999999999999 : Int64)) ∈ lw_g := k_w (List.mem_of_getElem? (i := 490) (by decide +kernel)) (by decide +kernel)
theorem tw_491 : (Jvm.Cond.methodLink "PositionDeskLaw" (37 : Nat) ({ cls := "PositionDeskModel", name := "price", desc := "(IJI)I" } : Jvm.MethodName)) ∈ lw_g := k_w (List.mem_of_getElem? (i := 491) (by decide +kernel)) (by decide +kernel)
theorem tw_492 : (Jvm.Cond.instanceMethod ({ cls := "PositionDeskModel", name := "price", desc := "(IJI)I" } : Jvm.MethodName)) ∈ lw_g := k_w (List.mem_of_getElem? (i := 492) (by decide +kernel)) (by decide +kernel)
theorem tw_493 : (Jvm.Cond.selects "PositionDeskModel" ({ cls := "PositionDeskModel", name := "price", desc := "(IJI)I" } : Jvm.MethodName) ({ cls := "PositionDeskModel", name := "price", desc := "(IJI)I" } : Jvm.MethodName)) ∈ lw_g := k_w (List.mem_of_getElem? (i := 493) (by decide +kernel)) (by decide +kernel)
theorem tw_494 : (Jvm.Cond.code ({ cls := "PositionDeskModel", name := "price", desc := "(IJI)I" } : Jvm.MethodName) prog_6_method_20_code (10 : Nat) (Option.some Jvm.ClassFile.FieldType.int)) ∈ lw_g := k_w (List.mem_of_getElem? (i := 494) (by decide +kernel)) (by decide +kernel)
theorem tw_495 : (Jvm.Cond.methodLink "PositionDeskModel" (128 : Nat) ({ cls := "PositionDeskModel", name := "isAsset", desc := "(I)Z" } : Jvm.MethodName)) ∈ lw_g := k_w (List.mem_of_getElem? (i := 495) (by decide +kernel)) (by decide +kernel)
theorem tw_497 : (Jvm.Cond.instanceMethod ({ cls := "PositionDeskModel", name := "isAsset", desc := "(I)Z" } : Jvm.MethodName)) ∈ lw_g := k_w (List.mem_of_getElem? (i := 497) (by decide +kernel)) (by decide +kernel)
theorem tw_498 : (Jvm.Cond.code ({ cls := "PositionDeskModel", name := "isAsset", desc := "(I)Z" } : Jvm.MethodName) prog_6_method_11_code (2 : Nat) (Option.some Jvm.ClassFile.FieldType.boolean)) ∈ lw_g := k_w (List.mem_of_getElem? (i := 498) (by decide +kernel)) (by decide +kernel)
theorem tw_499 : (Jvm.Cond.methodLink "PositionDeskModel" (131 : Nat) ({ cls := "PositionDeskModel", name := "isShort", desc := "(I)Z" } : Jvm.MethodName)) ∈ lw_g := k_w (List.mem_of_getElem? (i := 499) (by decide +kernel)) (by decide +kernel)
theorem tw_501 : (Jvm.Cond.instanceMethod ({ cls := "PositionDeskModel", name := "isShort", desc := "(I)Z" } : Jvm.MethodName)) ∈ lw_g := k_w (List.mem_of_getElem? (i := 501) (by decide +kernel)) (by decide +kernel)
theorem tw_502 : (Jvm.Cond.code ({ cls := "PositionDeskModel", name := "isShort", desc := "(I)Z" } : Jvm.MethodName) prog_6_method_8_code (2 : Nat) (Option.some Jvm.ClassFile.FieldType.boolean)) ∈ lw_g := k_w (List.mem_of_getElem? (i := 502) (by decide +kernel)) (by decide +kernel)
theorem tw_503 : (Jvm.Cond.methodLink "PositionDeskModel" (102 : Nat) ({ cls := "PositionDeskModel", name := "position", desc := "(II)J" } : Jvm.MethodName)) ∈ lw_g := k_w (List.mem_of_getElem? (i := 503) (by decide +kernel)) (by decide +kernel)
theorem tw_505 : (Jvm.Cond.instanceMethod ({ cls := "PositionDeskModel", name := "position", desc := "(II)J" } : Jvm.MethodName)) ∈ lw_g := k_w (List.mem_of_getElem? (i := 505) (by decide +kernel)) (by decide +kernel)
theorem tw_506 : (Jvm.Cond.code ({ cls := "PositionDeskModel", name := "position", desc := "(II)J" } : Jvm.MethodName) prog_6_method_2_code (6 : Nat) (Option.some Jvm.ClassFile.FieldType.long)) ∈ lw_g := k_w (List.mem_of_getElem? (i := 506) (by decide +kernel)) (by decide +kernel)
theorem tw_507 : (Jvm.Cond.methodLink "PositionDeskModel" (96 : Nat) ({ cls := "PositionDeskModel", name := "creditOf", desc := "(I)J" } : Jvm.MethodName)) ∈ lw_g := k_w (List.mem_of_getElem? (i := 507) (by decide +kernel)) (by decide +kernel)
theorem tw_509 : (Jvm.Cond.instanceMethod ({ cls := "PositionDeskModel", name := "creditOf", desc := "(I)J" } : Jvm.MethodName)) ∈ lw_g := k_w (List.mem_of_getElem? (i := 509) (by decide +kernel)) (by decide +kernel)
theorem tw_510 : (Jvm.Cond.code ({ cls := "PositionDeskModel", name := "creditOf", desc := "(I)J" } : Jvm.MethodName) prog_6_method_6_code (5 : Nat) (Option.some Jvm.ClassFile.FieldType.long)) ∈ lw_g := k_w (List.mem_of_getElem? (i := 510) (by decide +kernel)) (by decide +kernel)
theorem tw_511 : (Jvm.Cond.methodLink "PositionDeskModel" (88 : Nat) ({ cls := "PositionDeskModel", name := "pledged", desc := "(II)J" } : Jvm.MethodName)) ∈ lw_g := k_w (List.mem_of_getElem? (i := 511) (by decide +kernel)) (by decide +kernel)
theorem tw_513 : (Jvm.Cond.instanceMethod ({ cls := "PositionDeskModel", name := "pledged", desc := "(II)J" } : Jvm.MethodName)) ∈ lw_g := k_w (List.mem_of_getElem? (i := 513) (by decide +kernel)) (by decide +kernel)
theorem tw_514 : (Jvm.Cond.code ({ cls := "PositionDeskModel", name := "pledged", desc := "(II)J" } : Jvm.MethodName) prog_6_method_3_code (6 : Nat) (Option.some Jvm.ClassFile.FieldType.long)) ∈ lw_g := k_w (List.mem_of_getElem? (i := 514) (by decide +kernel)) (by decide +kernel)
theorem tw_515 : (Jvm.Cond.methodLink "PositionDeskModel" (92 : Nat) ({ cls := "PositionDeskModel", name := "worth", desc := "(JJI)J" } : Jvm.MethodName)) ∈ lw_g := k_w (List.mem_of_getElem? (i := 515) (by decide +kernel)) (by decide +kernel)
theorem tw_516 : (Jvm.Cond.static ({ cls := "PositionDeskModel", name := "worth", desc := "(JJI)J" } : Jvm.MethodName)) ∈ lw_g := k_w (List.mem_of_getElem? (i := 516) (by decide +kernel)) (by decide +kernel)
theorem tw_517 : (Jvm.Cond.code ({ cls := "PositionDeskModel", name := "worth", desc := "(JJI)J" } : Jvm.MethodName) prog_6_method_5_code (13 : Nat) (Option.some Jvm.ClassFile.FieldType.long)) ∈ lw_g := k_w (List.mem_of_getElem? (i := 517) (by decide +kernel)) (by decide +kernel)
theorem tw_518 : (Jvm.Cond.constantLong "PositionDeskModel" (81 : Nat) (100 : Int64)) ∈ lw_g := k_w (List.mem_of_getElem? (i := 518) (by decide +kernel)) (by decide +kernel)
theorem tw_519 : (Jvm.Cond.constantLong "PositionDeskModel" (83 : Nat) (4100000000000000000 : Int64)) ∈ lw_g := k_w (List.mem_of_getElem? (i := 519) (by decide +kernel)) (by decide +kernel)
theorem tw_520 : (Jvm.Cond.methodLink "PositionDeskModel" (134 : Nat) ({ cls := "PositionDeskModel", name := "isOwed", desc := "()Z" } : Jvm.MethodName)) ∈ lw_g := k_w (List.mem_of_getElem? (i := 520) (by decide +kernel)) (by decide +kernel)
theorem tw_522 : (Jvm.Cond.instanceMethod ({ cls := "PositionDeskModel", name := "isOwed", desc := "()Z" } : Jvm.MethodName)) ∈ lw_g := k_w (List.mem_of_getElem? (i := 522) (by decide +kernel)) (by decide +kernel)
theorem tw_523 : (Jvm.Cond.code ({ cls := "PositionDeskModel", name := "isOwed", desc := "()Z" } : Jvm.MethodName) prog_6_method_7_code (4 : Nat) (Option.some Jvm.ClassFile.FieldType.boolean)) ∈ lw_g := k_w (List.mem_of_getElem? (i := 523) (by decide +kernel)) (by decide +kernel)
theorem tw_524 : (Jvm.Cond.constantLong "PositionDeskModel" (100 : Nat) (4000000000000000000 : Int64)) ∈ lw_g := k_w (List.mem_of_getElem? (i := 524) (by decide +kernel)) (by decide +kernel)
theorem tw_525 : (Jvm.Cond.methodLink "PositionDeskLaw" (42 : Nat) ({ cls := "PositionDeskModel", name := "give", desc := "(IIJ)I" } : Jvm.MethodName)) ∈ lw_g := k_w (List.mem_of_getElem? (i := 525) (by decide +kernel)) (by decide +kernel)
theorem tw_526 : (Jvm.Cond.instanceMethod ({ cls := "PositionDeskModel", name := "give", desc := "(IIJ)I" } : Jvm.MethodName)) ∈ lw_g := k_w (List.mem_of_getElem? (i := 526) (by decide +kernel)) (by decide +kernel)
theorem tw_527 : (Jvm.Cond.selects "PositionDeskModel" ({ cls := "PositionDeskModel", name := "give", desc := "(IIJ)I" } : Jvm.MethodName) ({ cls := "PositionDeskModel", name := "give", desc := "(IIJ)I" } : Jvm.MethodName)) ∈ lw_g := k_w (List.mem_of_getElem? (i := 527) (by decide +kernel)) (by decide +kernel)
theorem tw_528 : (Jvm.Cond.code ({ cls := "PositionDeskModel", name := "give", desc := "(IIJ)I" } : Jvm.MethodName) prog_6_method_22_code (5 : Nat) (Option.some Jvm.ClassFile.FieldType.int)) ∈ lw_g := k_w (List.mem_of_getElem? (i := 528) (by decide +kernel)) (by decide +kernel)
theorem tw_529 : (Jvm.Cond.methodLink "PositionDeskModel" (138 : Nat) ({ cls := "PositionDeskModel", name := "isParticipant", desc := "(I)Z" } : Jvm.MethodName)) ∈ lw_g := k_w (List.mem_of_getElem? (i := 529) (by decide +kernel)) (by decide +kernel)
theorem tw_531 : (Jvm.Cond.instanceMethod ({ cls := "PositionDeskModel", name := "isParticipant", desc := "(I)Z" } : Jvm.MethodName)) ∈ lw_g := k_w (List.mem_of_getElem? (i := 531) (by decide +kernel)) (by decide +kernel)
theorem tw_532 : (Jvm.Cond.code ({ cls := "PositionDeskModel", name := "isParticipant", desc := "(I)Z" } : Jvm.MethodName) prog_6_method_10_code (2 : Nat) (Option.some Jvm.ClassFile.FieldType.boolean)) ∈ lw_g := k_w (List.mem_of_getElem? (i := 532) (by decide +kernel)) (by decide +kernel)
theorem tw_533 : (Jvm.Cond.methodLink "PositionDeskModel" (141 : Nat) ({ cls := "PositionDeskModel", name := "isAmount", desc := "(J)Z" } : Jvm.MethodName)) ∈ lw_g := k_w (List.mem_of_getElem? (i := 533) (by decide +kernel)) (by decide +kernel)
theorem tw_534 : (Jvm.Cond.static ({ cls := "PositionDeskModel", name := "isAmount", desc := "(J)Z" } : Jvm.MethodName)) ∈ lw_g := k_w (List.mem_of_getElem? (i := 534) (by decide +kernel)) (by decide +kernel)
theorem tw_535 : (Jvm.Cond.code ({ cls := "PositionDeskModel", name := "isAmount", desc := "(J)Z" } : Jvm.MethodName) prog_6_method_12_code (2 : Nat) (Option.some Jvm.ClassFile.FieldType.boolean)) ∈ lw_g := k_w (List.mem_of_getElem? (i := 535) (by decide +kernel)) (by decide +kernel)
theorem tw_536 : (Jvm.Cond.constantLong "PositionDeskModel" (145 : Nat) (-4000000000000000000 : Int64)) ∈ lw_g := k_w (List.mem_of_getElem? (i := 536) (by decide +kernel)) (by decide +kernel)
theorem tw_537 : (Jvm.Cond.methodLink "PositionDeskModel" (147 : Nat) ({ cls := "PositionDeskModel", name := "move", desc := "(IIJ)V" } : Jvm.MethodName)) ∈ lw_g := k_w (List.mem_of_getElem? (i := 537) (by decide +kernel)) (by decide +kernel)
theorem tw_539 : (Jvm.Cond.instanceMethod ({ cls := "PositionDeskModel", name := "move", desc := "(IIJ)V" } : Jvm.MethodName)) ∈ lw_g := k_w (List.mem_of_getElem? (i := 539) (by decide +kernel)) (by decide +kernel)
theorem tw_540 : (Jvm.Cond.code ({ cls := "PositionDeskModel", name := "move", desc := "(IIJ)V" } : Jvm.MethodName) prog_6_method_21_code (5 : Nat) (Option.none : Option Jvm.ClassFile.FieldType)) ∈ lw_g := k_w (List.mem_of_getElem? (i := 540) (by decide +kernel)) (by decide +kernel)
theorem tw_541 : (Jvm.Cond.methodLink "PositionDeskLaw" (46 : Nat) ({ cls := "PositionDeskModel", name := "back", desc := "(IIJ)I" } : Jvm.MethodName)) ∈ lw_g := k_w (List.mem_of_getElem? (i := 541) (by decide +kernel)) (by decide +kernel)
theorem tw_542 : (Jvm.Cond.instanceMethod ({ cls := "PositionDeskModel", name := "back", desc := "(IIJ)I" } : Jvm.MethodName)) ∈ lw_g := k_w (List.mem_of_getElem? (i := 542) (by decide +kernel)) (by decide +kernel)
theorem tw_543 : (Jvm.Cond.selects "PositionDeskModel" ({ cls := "PositionDeskModel", name := "back", desc := "(IIJ)I" } : Jvm.MethodName) ({ cls := "PositionDeskModel", name := "back", desc := "(IIJ)I" } : Jvm.MethodName)) ∈ lw_g := k_w (List.mem_of_getElem? (i := 543) (by decide +kernel)) (by decide +kernel)
theorem tw_544 : (Jvm.Cond.code ({ cls := "PositionDeskModel", name := "back", desc := "(IIJ)I" } : Jvm.MethodName) prog_6_method_23_code (5 : Nat) (Option.some Jvm.ClassFile.FieldType.int)) ∈ lw_g := k_w (List.mem_of_getElem? (i := 544) (by decide +kernel)) (by decide +kernel)
theorem tw_545 : (Jvm.Cond.methodLink "PositionDeskModel" (151 : Nat) ({ cls := "PositionDeskModel", name := "floorOf", desc := "(II)J" } : Jvm.MethodName)) ∈ lw_g := k_w (List.mem_of_getElem? (i := 545) (by decide +kernel)) (by decide +kernel)
theorem tw_547 : (Jvm.Cond.instanceMethod ({ cls := "PositionDeskModel", name := "floorOf", desc := "(II)J" } : Jvm.MethodName)) ∈ lw_g := k_w (List.mem_of_getElem? (i := 547) (by decide +kernel)) (by decide +kernel)
theorem tw_548 : (Jvm.Cond.code ({ cls := "PositionDeskModel", name := "floorOf", desc := "(II)J" } : Jvm.MethodName) prog_6_method_9_code (3 : Nat) (Option.some Jvm.ClassFile.FieldType.long)) ∈ lw_g := k_w (List.mem_of_getElem? (i := 548) (by decide +kernel)) (by decide +kernel)
theorem tw_549 : (Jvm.Cond.constantLong "PositionDeskModel" (105 : Nat) (-9223372036854775808 : Int64)) ∈ lw_g := k_w (List.mem_of_getElem? (i := 549) (by decide +kernel)) (by decide +kernel)
theorem tw_550 : (Jvm.Cond.methodLink "PositionDeskLaw" (50 : Nat) ({ cls := "PositionDeskModel", name := "pledge", desc := "(IIJ)I" } : Jvm.MethodName)) ∈ lw_g := k_w (List.mem_of_getElem? (i := 550) (by decide +kernel)) (by decide +kernel)
theorem tw_551 : (Jvm.Cond.instanceMethod ({ cls := "PositionDeskModel", name := "pledge", desc := "(IIJ)I" } : Jvm.MethodName)) ∈ lw_g := k_w (List.mem_of_getElem? (i := 551) (by decide +kernel)) (by decide +kernel)
theorem tw_552 : (Jvm.Cond.selects "PositionDeskModel" ({ cls := "PositionDeskModel", name := "pledge", desc := "(IIJ)I" } : Jvm.MethodName) ({ cls := "PositionDeskModel", name := "pledge", desc := "(IIJ)I" } : Jvm.MethodName)) ∈ lw_g := k_w (List.mem_of_getElem? (i := 552) (by decide +kernel)) (by decide +kernel)
theorem tw_553 : (Jvm.Cond.code ({ cls := "PositionDeskModel", name := "pledge", desc := "(IIJ)I" } : Jvm.MethodName) prog_6_method_25_code (6 : Nat) (Option.some Jvm.ClassFile.FieldType.int)) ∈ lw_g := k_w (List.mem_of_getElem? (i := 553) (by decide +kernel)) (by decide +kernel)
theorem tw_554 : (Jvm.Cond.methodLink "PositionDeskModel" (154 : Nat) ({ cls := "PositionDeskModel", name := "pledgeMore", desc := "(IIJ)V" } : Jvm.MethodName)) ∈ lw_g := k_w (List.mem_of_getElem? (i := 554) (by decide +kernel)) (by decide +kernel)
theorem tw_556 : (Jvm.Cond.instanceMethod ({ cls := "PositionDeskModel", name := "pledgeMore", desc := "(IIJ)V" } : Jvm.MethodName)) ∈ lw_g := k_w (List.mem_of_getElem? (i := 556) (by decide +kernel)) (by decide +kernel)
theorem tw_557 : (Jvm.Cond.code ({ cls := "PositionDeskModel", name := "pledgeMore", desc := "(IIJ)V" } : Jvm.MethodName) prog_6_method_24_code (5 : Nat) (Option.none : Option Jvm.ClassFile.FieldType)) ∈ lw_g := k_w (List.mem_of_getElem? (i := 557) (by decide +kernel)) (by decide +kernel)
theorem tw_558 : (Jvm.Cond.methodLink "PositionDeskLaw" (54 : Nat) ({ cls := "PositionDeskModel", name := "free", desc := "(IIJ)I" } : Jvm.MethodName)) ∈ lw_g := k_w (List.mem_of_getElem? (i := 558) (by decide +kernel)) (by decide +kernel)
theorem tw_559 : (Jvm.Cond.instanceMethod ({ cls := "PositionDeskModel", name := "free", desc := "(IIJ)I" } : Jvm.MethodName)) ∈ lw_g := k_w (List.mem_of_getElem? (i := 559) (by decide +kernel)) (by decide +kernel)
theorem tw_560 : (Jvm.Cond.selects "PositionDeskModel" ({ cls := "PositionDeskModel", name := "free", desc := "(IIJ)I" } : Jvm.MethodName) ({ cls := "PositionDeskModel", name := "free", desc := "(IIJ)I" } : Jvm.MethodName)) ∈ lw_g := k_w (List.mem_of_getElem? (i := 560) (by decide +kernel)) (by decide +kernel)
theorem tw_561 : (Jvm.Cond.code ({ cls := "PositionDeskModel", name := "free", desc := "(IIJ)I" } : Jvm.MethodName) prog_6_method_26_code (6 : Nat) (Option.some Jvm.ClassFile.FieldType.int)) ∈ lw_g := k_w (List.mem_of_getElem? (i := 561) (by decide +kernel)) (by decide +kernel)
theorem tw_562 : (Jvm.Cond.methodLink "PositionDeskLaw" (58 : Nat) ({ cls := "PositionDeskModel", name := "limit", desc := "(IIJ)I" } : Jvm.MethodName)) ∈ lw_g := k_w (List.mem_of_getElem? (i := 562) (by decide +kernel)) (by decide +kernel)
theorem tw_563 : (Jvm.Cond.instanceMethod ({ cls := "PositionDeskModel", name := "limit", desc := "(IIJ)I" } : Jvm.MethodName)) ∈ lw_g := k_w (List.mem_of_getElem? (i := 563) (by decide +kernel)) (by decide +kernel)
theorem tw_564 : (Jvm.Cond.selects "PositionDeskModel" ({ cls := "PositionDeskModel", name := "limit", desc := "(IIJ)I" } : Jvm.MethodName) ({ cls := "PositionDeskModel", name := "limit", desc := "(IIJ)I" } : Jvm.MethodName)) ∈ lw_g := k_w (List.mem_of_getElem? (i := 564) (by decide +kernel)) (by decide +kernel)
theorem tw_565 : (Jvm.Cond.code ({ cls := "PositionDeskModel", name := "limit", desc := "(IIJ)I" } : Jvm.MethodName) prog_6_method_27_code (6 : Nat) (Option.some Jvm.ClassFile.FieldType.int)) ∈ lw_g := k_w (List.mem_of_getElem? (i := 565) (by decide +kernel)) (by decide +kernel)
theorem tw_566 : (Jvm.Cond.methodLink "PositionDeskModel" (157 : Nat) ({ cls := "PositionDeskModel", name := "netPaid", desc := "(II)J" } : Jvm.MethodName)) ∈ lw_g := k_w (List.mem_of_getElem? (i := 566) (by decide +kernel)) (by decide +kernel)
theorem tw_568 : (Jvm.Cond.instanceMethod ({ cls := "PositionDeskModel", name := "netPaid", desc := "(II)J" } : Jvm.MethodName)) ∈ lw_g := k_w (List.mem_of_getElem? (i := 568) (by decide +kernel)) (by decide +kernel)
theorem tw_569 : (Jvm.Cond.code ({ cls := "PositionDeskModel", name := "netPaid", desc := "(II)J" } : Jvm.MethodName) prog_6_method_4_code (6 : Nat) (Option.some Jvm.ClassFile.FieldType.long)) ∈ lw_g := k_w (List.mem_of_getElem? (i := 569) (by decide +kernel)) (by decide +kernel)
theorem tw_570 : (Jvm.Cond.methodLink "PositionDeskLaw" (63 : Nat) ({ cls := "PositionDeskModel", name := "open", desc := "(II)I" } : Jvm.MethodName)) ∈ lw_g := k_w (List.mem_of_getElem? (i := 570) (by decide +kernel)) (by decide +kernel)
theorem tw_571 : (Jvm.Cond.instanceMethod ({ cls := "PositionDeskModel", name := "open", desc := "(II)I" } : Jvm.MethodName)) ∈ lw_g := k_w (List.mem_of_getElem? (i := 571) (by decide +kernel)) (by decide +kernel)
theorem tw_572 : (Jvm.Cond.selects "PositionDeskModel" ({ cls := "PositionDeskModel", name := "open", desc := "(II)I" } : Jvm.MethodName) ({ cls := "PositionDeskModel", name := "open", desc := "(II)I" } : Jvm.MethodName)) ∈ lw_g := k_w (List.mem_of_getElem? (i := 572) (by decide +kernel)) (by decide +kernel)
theorem tw_573 : (Jvm.Cond.code ({ cls := "PositionDeskModel", name := "open", desc := "(II)I" } : Jvm.MethodName) prog_6_method_28_code (4 : Nat) (Option.some Jvm.ClassFile.FieldType.int)) ∈ lw_g := k_w (List.mem_of_getElem? (i := 573) (by decide +kernel)) (by decide +kernel)
theorem tw_574 : (Jvm.Cond.methodLink "PositionDeskLaw" (107 : Nat) ({ cls := "PositionDeskModel", name := "day", desc := "()V" } : Jvm.MethodName)) ∈ lw_g := k_w (List.mem_of_getElem? (i := 574) (by decide +kernel)) (by decide +kernel)
theorem tw_575 : (Jvm.Cond.instanceMethod ({ cls := "PositionDeskModel", name := "day", desc := "()V" } : Jvm.MethodName)) ∈ lw_g := k_w (List.mem_of_getElem? (i := 575) (by decide +kernel)) (by decide +kernel)
theorem tw_576 : (Jvm.Cond.selects "PositionDeskModel" ({ cls := "PositionDeskModel", name := "day", desc := "()V" } : Jvm.MethodName) ({ cls := "PositionDeskModel", name := "day", desc := "()V" } : Jvm.MethodName)) ∈ lw_g := k_w (List.mem_of_getElem? (i := 576) (by decide +kernel)) (by decide +kernel)
theorem tw_577 : (Jvm.Cond.code ({ cls := "PositionDeskModel", name := "day", desc := "()V" } : Jvm.MethodName) prog_6_method_29_code (1 : Nat) (Option.none : Option Jvm.ClassFile.FieldType)) ∈ lw_g := k_w (List.mem_of_getElem? (i := 577) (by decide +kernel)) (by decide +kernel)
theorem tw_578 : (Jvm.Cond.methodLink "PositionDeskLaw" (68 : Nat) ({ cls := "PositionDeskModel", name := "leg", desc := "(IIIJ)I" } : Jvm.MethodName)) ∈ lw_g := k_w (List.mem_of_getElem? (i := 578) (by decide +kernel)) (by decide +kernel)
theorem tw_579 : (Jvm.Cond.instanceMethod ({ cls := "PositionDeskModel", name := "leg", desc := "(IIIJ)I" } : Jvm.MethodName)) ∈ lw_g := k_w (List.mem_of_getElem? (i := 579) (by decide +kernel)) (by decide +kernel)
theorem tw_580 : (Jvm.Cond.selects "PositionDeskModel" ({ cls := "PositionDeskModel", name := "leg", desc := "(IIIJ)I" } : Jvm.MethodName) ({ cls := "PositionDeskModel", name := "leg", desc := "(IIIJ)I" } : Jvm.MethodName)) ∈ lw_g := k_w (List.mem_of_getElem? (i := 580) (by decide +kernel)) (by decide +kernel)
theorem tw_581 : (Jvm.Cond.code ({ cls := "PositionDeskModel", name := "leg", desc := "(IIIJ)I" } : Jvm.MethodName) prog_6_method_30_code (6 : Nat) (Option.some Jvm.ClassFile.FieldType.int)) ∈ lw_g := k_w (List.mem_of_getElem? (i := 581) (by decide +kernel)) (by decide +kernel)
theorem tw_582 : (Jvm.Cond.methodLink "PositionDeskLaw" (81 : Nat) ({ cls := "PositionDeskModel", name := "drop", desc := "()I" } : Jvm.MethodName)) ∈ lw_g := k_w (List.mem_of_getElem? (i := 582) (by decide +kernel)) (by decide +kernel)
theorem tw_583 : (Jvm.Cond.instanceMethod ({ cls := "PositionDeskModel", name := "drop", desc := "()I" } : Jvm.MethodName)) ∈ lw_g := k_w (List.mem_of_getElem? (i := 583) (by decide +kernel)) (by decide +kernel)
theorem tw_584 : (Jvm.Cond.selects "PositionDeskModel" ({ cls := "PositionDeskModel", name := "drop", desc := "()I" } : Jvm.MethodName) ({ cls := "PositionDeskModel", name := "drop", desc := "()I" } : Jvm.MethodName)) ∈ lw_g := k_w (List.mem_of_getElem? (i := 584) (by decide +kernel)) (by decide +kernel)
theorem tw_585 : (Jvm.Cond.code ({ cls := "PositionDeskModel", name := "drop", desc := "()I" } : Jvm.MethodName) prog_6_method_31_code (2 : Nat) (Option.some Jvm.ClassFile.FieldType.int)) ∈ lw_g := k_w (List.mem_of_getElem? (i := 585) (by decide +kernel)) (by decide +kernel)
theorem tw_586 : (Jvm.Cond.methodLink "PositionDeskLaw" (86 : Nat) ({ cls := "PositionDeskModel", name := "net", desc := "(I)J" } : Jvm.MethodName)) ∈ lw_g := k_w (List.mem_of_getElem? (i := 586) (by decide +kernel)) (by decide +kernel)
theorem tw_587 : (Jvm.Cond.instanceMethod ({ cls := "PositionDeskModel", name := "net", desc := "(I)J" } : Jvm.MethodName)) ∈ lw_g := k_w (List.mem_of_getElem? (i := 587) (by decide +kernel)) (by decide +kernel)
theorem tw_588 : (Jvm.Cond.selects "PositionDeskModel" ({ cls := "PositionDeskModel", name := "net", desc := "(I)J" } : Jvm.MethodName) ({ cls := "PositionDeskModel", name := "net", desc := "(I)J" } : Jvm.MethodName)) ∈ lw_g := k_w (List.mem_of_getElem? (i := 588) (by decide +kernel)) (by decide +kernel)
theorem tw_589 : (Jvm.Cond.code ({ cls := "PositionDeskModel", name := "net", desc := "(I)J" } : Jvm.MethodName) prog_6_method_32_code (9 : Nat) (Option.some Jvm.ClassFile.FieldType.long)) ∈ lw_g := k_w (List.mem_of_getElem? (i := 589) (by decide +kernel)) (by decide +kernel)
theorem tw_590 : (Jvm.Cond.methodLink "PositionDeskModel" (163 : Nat) ({ cls := "PositionDeskModel", name := "isThere", desc := "(I)Z" } : Jvm.MethodName)) ∈ lw_g := k_w (List.mem_of_getElem? (i := 590) (by decide +kernel)) (by decide +kernel)
theorem tw_591 : (Jvm.Cond.methodLink "PositionDeskLaw" (73 : Nat) ({ cls := "PositionDeskModel", name := "holds", desc := "()Z" } : Jvm.MethodName)) ∈ lw_g := k_w (List.mem_of_getElem? (i := 591) (by decide +kernel)) (by decide +kernel)
theorem tw_592 : (Jvm.Cond.instanceMethod ({ cls := "PositionDeskModel", name := "holds", desc := "()Z" } : Jvm.MethodName)) ∈ lw_g := k_w (List.mem_of_getElem? (i := 592) (by decide +kernel)) (by decide +kernel)
theorem tw_593 : (Jvm.Cond.selects "PositionDeskModel" ({ cls := "PositionDeskModel", name := "holds", desc := "()Z" } : Jvm.MethodName) ({ cls := "PositionDeskModel", name := "holds", desc := "()Z" } : Jvm.MethodName)) ∈ lw_g := k_w (List.mem_of_getElem? (i := 593) (by decide +kernel)) (by decide +kernel)
theorem tw_594 : (Jvm.Cond.code ({ cls := "PositionDeskModel", name := "holds", desc := "()Z" } : Jvm.MethodName) prog_6_method_34_code (4 : Nat) (Option.some Jvm.ClassFile.FieldType.boolean)) ∈ lw_g := k_w (List.mem_of_getElem? (i := 594) (by decide +kernel)) (by decide +kernel)
theorem tw_595 : (Jvm.Cond.methodLink "PositionDeskModel" (175 : Nat) ({ cls := "PositionDeskModel", name := "fits", desc := "(I)Z" } : Jvm.MethodName)) ∈ lw_g := k_w (List.mem_of_getElem? (i := 595) (by decide +kernel)) (by decide +kernel)
theorem tw_597 : (Jvm.Cond.instanceMethod ({ cls := "PositionDeskModel", name := "fits", desc := "(I)Z" } : Jvm.MethodName)) ∈ lw_g := k_w (List.mem_of_getElem? (i := 597) (by decide +kernel)) (by decide +kernel)
theorem tw_598 : (Jvm.Cond.code ({ cls := "PositionDeskModel", name := "fits", desc := "(I)Z" } : Jvm.MethodName) prog_6_method_33_code (2 : Nat) (Option.some Jvm.ClassFile.FieldType.boolean)) ∈ lw_g := k_w (List.mem_of_getElem? (i := 598) (by decide +kernel)) (by decide +kernel)
theorem tw_599 : (Jvm.Cond.methodLink "PositionDeskModel" (166 : Nat) ({ cls := "PositionDeskModel", name := "net", desc := "(I)J" } : Jvm.MethodName)) ∈ lw_g := k_w (List.mem_of_getElem? (i := 599) (by decide +kernel)) (by decide +kernel)
theorem tw_600 : (Jvm.Cond.methodLink "PositionDeskModel" (169 : Nat) ({ cls := "PositionDeskModel", name := "value", desc := "(I)J" } : Jvm.MethodName)) ∈ lw_g := k_w (List.mem_of_getElem? (i := 600) (by decide +kernel)) (by decide +kernel)
theorem tw_601 : (Jvm.Cond.instanceMethod ({ cls := "PositionDeskModel", name := "value", desc := "(I)J" } : Jvm.MethodName)) ∈ lw_g := k_w (List.mem_of_getElem? (i := 601) (by decide +kernel)) (by decide +kernel)
theorem tw_602 : (Jvm.Cond.selects "PositionDeskModel" ({ cls := "PositionDeskModel", name := "value", desc := "(I)J" } : Jvm.MethodName) ({ cls := "PositionDeskModel", name := "value", desc := "(I)J" } : Jvm.MethodName)) ∈ lw_g := k_w (List.mem_of_getElem? (i := 602) (by decide +kernel)) (by decide +kernel)
theorem tw_603 : (Jvm.Cond.code ({ cls := "PositionDeskModel", name := "value", desc := "(I)J" } : Jvm.MethodName) prog_6_method_36_code (4 : Nat) (Option.some Jvm.ClassFile.FieldType.long)) ∈ lw_g := k_w (List.mem_of_getElem? (i := 603) (by decide +kernel)) (by decide +kernel)
theorem tw_604 : (Jvm.Cond.methodLink "PositionDeskModel" (172 : Nat) ({ cls := "PositionDeskModel", name := "floor", desc := "(I)J" } : Jvm.MethodName)) ∈ lw_g := k_w (List.mem_of_getElem? (i := 604) (by decide +kernel)) (by decide +kernel)
theorem tw_605 : (Jvm.Cond.instanceMethod ({ cls := "PositionDeskModel", name := "floor", desc := "(I)J" } : Jvm.MethodName)) ∈ lw_g := k_w (List.mem_of_getElem? (i := 605) (by decide +kernel)) (by decide +kernel)
theorem tw_606 : (Jvm.Cond.selects "PositionDeskModel" ({ cls := "PositionDeskModel", name := "floor", desc := "(I)J" } : Jvm.MethodName) ({ cls := "PositionDeskModel", name := "floor", desc := "(I)J" } : Jvm.MethodName)) ∈ lw_g := k_w (List.mem_of_getElem? (i := 606) (by decide +kernel)) (by decide +kernel)
theorem tw_607 : (Jvm.Cond.code ({ cls := "PositionDeskModel", name := "floor", desc := "(I)J" } : Jvm.MethodName) prog_6_method_37_code (2 : Nat) (Option.some Jvm.ClassFile.FieldType.long)) ∈ lw_g := k_w (List.mem_of_getElem? (i := 607) (by decide +kernel)) (by decide +kernel)
theorem tw_608 : (Jvm.Cond.methodLink "PositionDeskLaw" (77 : Nat) ({ cls := "PositionDeskModel", name := "post", desc := "()Z" } : Jvm.MethodName)) ∈ lw_g := k_w (List.mem_of_getElem? (i := 608) (by decide +kernel)) (by decide +kernel)
theorem tw_609 : (Jvm.Cond.instanceMethod ({ cls := "PositionDeskModel", name := "post", desc := "()Z" } : Jvm.MethodName)) ∈ lw_g := k_w (List.mem_of_getElem? (i := 609) (by decide +kernel)) (by decide +kernel)
theorem tw_610 : (Jvm.Cond.selects "PositionDeskModel" ({ cls := "PositionDeskModel", name := "post", desc := "()Z" } : Jvm.MethodName) ({ cls := "PositionDeskModel", name := "post", desc := "()Z" } : Jvm.MethodName)) ∈ lw_g := k_w (List.mem_of_getElem? (i := 610) (by decide +kernel)) (by decide +kernel)
theorem tw_611 : (Jvm.Cond.code ({ cls := "PositionDeskModel", name := "post", desc := "()Z" } : Jvm.MethodName) prog_6_method_35_code (2 : Nat) (Option.some Jvm.ClassFile.FieldType.boolean)) ∈ lw_g := k_w (List.mem_of_getElem? (i := 611) (by decide +kernel)) (by decide +kernel)
theorem tw_612 : (Jvm.Cond.methodLink "PositionDeskModel" (178 : Nat) ({ cls := "PositionDeskModel", name := "holds", desc := "()Z" } : Jvm.MethodName)) ∈ lw_g := k_w (List.mem_of_getElem? (i := 612) (by decide +kernel)) (by decide +kernel)
theorem tw_613 : (Jvm.Cond.methodLink "PositionDeskLaw" (90 : Nat) ({ cls := "PositionDeskModel", name := "value", desc := "(I)J" } : Jvm.MethodName)) ∈ lw_g := k_w (List.mem_of_getElem? (i := 613) (by decide +kernel)) (by decide +kernel)
theorem tw_614 : (Jvm.Cond.methodLink "PositionDeskLaw" (94 : Nat) ({ cls := "PositionDeskModel", name := "floor", desc := "(I)J" } : Jvm.MethodName)) ∈ lw_g := k_w (List.mem_of_getElem? (i := 614) (by decide +kernel)) (by decide +kernel)
theorem tw_615 : (Jvm.Cond.methodLink "PositionDeskLaw" (103 : Nat) ({ cls := "PositionDeskModel", name := "credit", desc := "(I)J" } : Jvm.MethodName)) ∈ lw_g := k_w (List.mem_of_getElem? (i := 615) (by decide +kernel)) (by decide +kernel)
theorem tw_616 : (Jvm.Cond.instanceMethod ({ cls := "PositionDeskModel", name := "credit", desc := "(I)J" } : Jvm.MethodName)) ∈ lw_g := k_w (List.mem_of_getElem? (i := 616) (by decide +kernel)) (by decide +kernel)
theorem tw_617 : (Jvm.Cond.selects "PositionDeskModel" ({ cls := "PositionDeskModel", name := "credit", desc := "(I)J" } : Jvm.MethodName) ({ cls := "PositionDeskModel", name := "credit", desc := "(I)J" } : Jvm.MethodName)) ∈ lw_g := k_w (List.mem_of_getElem? (i := 617) (by decide +kernel)) (by decide +kernel)
theorem tw_618 : (Jvm.Cond.code ({ cls := "PositionDeskModel", name := "credit", desc := "(I)J" } : Jvm.MethodName) prog_6_method_38_code (2 : Nat) (Option.some Jvm.ClassFile.FieldType.long)) ∈ lw_g := k_w (List.mem_of_getElem? (i := 618) (by decide +kernel)) (by decide +kernel)
theorem tw_619 : (Jvm.Cond.constantLong "PositionDeskLaw" (26 : Nat) (4294967295 : Int64)) ∈ lw_g := k_w (List.mem_of_getElem? (i := 619) (by decide +kernel)) (by decide +kernel)
theorem tw_0 : (Cond.selects "PositionDesk" ⟨"PositionDesk", "addAsset", "(ZJ)I"⟩ ⟨"PositionDesk", "addAsset", "(ZJ)I"⟩) ∈ lw_g := k_w (List.mem_of_getElem? (i := 0) (by decide +kernel)) (by decide +kernel)
theorem tw_1 : (Cond.selects "PositionDesk" ⟨"PositionDesk", "securityAt", "(I)LPositionDesk$Asset;"⟩ ⟨"PositionDesk", "securityAt", "(I)LPositionDesk$Asset;"⟩) ∈ lw_g := k_w (List.mem_of_getElem? (i := 1) (by decide +kernel)) (by decide +kernel)
theorem tw_2 : (Cond.selects "PositionDesk" ⟨"PositionDesk", "assetAt", "(I)LPositionDesk$Asset;"⟩ ⟨"PositionDesk", "assetAt", "(I)LPositionDesk$Asset;"⟩) ∈ lw_g := k_w (List.mem_of_getElem? (i := 2) (by decide +kernel)) (by decide +kernel)
theorem tw_3 : (Cond.selects "PositionDesk" ⟨"PositionDesk", "faultOfRate", "(LPositionDesk$Asset;J)I"⟩ ⟨"PositionDesk", "faultOfRate", "(LPositionDesk$Asset;J)I"⟩) ∈ lw_g := k_w (List.mem_of_getElem? (i := 3) (by decide +kernel)) (by decide +kernel)
theorem tw_4 : (Cond.selects "PositionDesk" ⟨"PositionDesk", "creditWith", "(LPositionDesk$Asset;IJJ)J"⟩ ⟨"PositionDesk", "creditWith", "(LPositionDesk$Asset;IJJ)J"⟩) ∈ lw_g := k_w (List.mem_of_getElem? (i := 4) (by decide +kernel)) (by decide +kernel)
theorem tw_5 : (Cond.selects "PositionDesk" ⟨"PositionDesk", "isOverdrawn", "(IJ)Z"⟩ ⟨"PositionDesk", "isOverdrawn", "(IJ)Z"⟩) ∈ lw_g := k_w (List.mem_of_getElem? (i := 5) (by decide +kernel)) (by decide +kernel)
theorem tw_6 : (Cond.selects "PositionDesk" ⟨"PositionDesk", "setRate", "(LPositionDesk$Asset;J)V"⟩ ⟨"PositionDesk", "setRate", "(LPositionDesk$Asset;J)V"⟩) ∈ lw_g := k_w (List.mem_of_getElem? (i := 6) (by decide +kernel)) (by decide +kernel)
theorem tw_7 : (Cond.selects "PositionDesk" ⟨"PositionDesk", "isClient", "(I)Z"⟩ ⟨"PositionDesk", "isClient", "(I)Z"⟩) ∈ lw_g := k_w (List.mem_of_getElem? (i := 7) (by decide +kernel)) (by decide +kernel)
theorem tw_8 : (Cond.selects "PositionDesk" ⟨"PositionDesk", "lowest", "(LPositionDesk$Asset;I)J"⟩ ⟨"PositionDesk", "lowest", "(LPositionDesk$Asset;I)J"⟩) ∈ lw_g := k_w (List.mem_of_getElem? (i := 8) (by decide +kernel)) (by decide +kernel)
theorem tw_9 : (Cond.selects "PositionDesk" ⟨"PositionDesk", "setPledged", "(LPositionDesk$Asset;IJ)I"⟩ ⟨"PositionDesk", "setPledged", "(LPositionDesk$Asset;IJ)I"⟩) ∈ lw_g := k_w (List.mem_of_getElem? (i := 9) (by decide +kernel)) (by decide +kernel)
theorem tw_10 : (Cond.selects "PositionDesk" ⟨"PositionDesk", "areTwoClients", "(II)Z"⟩ ⟨"PositionDesk", "areTwoClients", "(II)Z"⟩) ∈ lw_g := k_w (List.mem_of_getElem? (i := 10) (by decide +kernel)) (by decide +kernel)
theorem tw_11 : (Cond.selects "PositionDesk" ⟨"PositionDesk", "paidFrom", "(II)J"⟩ ⟨"PositionDesk", "paidFrom", "(II)J"⟩) ∈ lw_g := k_w (List.mem_of_getElem? (i := 11) (by decide +kernel)) (by decide +kernel)
theorem tw_12 : (Cond.selects "PositionDesk" ⟨"PositionDesk", "pairOf", "(II)I"⟩ ⟨"PositionDesk", "pairOf", "(II)I"⟩) ∈ lw_g := k_w (List.mem_of_getElem? (i := 12) (by decide +kernel)) (by decide +kernel)
theorem tw_13 : (Cond.selects "PositionDesk$PairAmounts" ⟨"PositionDesk$PairAmounts", "indexOf", "(I)I"⟩ ⟨"PositionDesk$PairAmounts", "indexOf", "(I)I"⟩) ∈ lw_g := k_w (List.mem_of_getElem? (i := 13) (by decide +kernel)) (by decide +kernel)
theorem tw_14 : (Cond.selects "PositionDesk" ⟨"PositionDesk", "breaksFloor", "(II)Z"⟩ ⟨"PositionDesk", "breaksFloor", "(II)Z"⟩) ∈ lw_g := k_w (List.mem_of_getElem? (i := 14) (by decide +kernel)) (by decide +kernel)
theorem tw_15 : (Cond.selects "PositionDesk" ⟨"PositionDesk", "breaksRoom", "(I)Z"⟩ ⟨"PositionDesk", "breaksRoom", "(I)Z"⟩) ∈ lw_g := k_w (List.mem_of_getElem? (i := 15) (by decide +kernel)) (by decide +kernel)
theorem tw_16 : (Cond.selects "PositionDesk" ⟨"PositionDesk", "roomOf", "(I)J"⟩ ⟨"PositionDesk", "roomOf", "(I)J"⟩) ∈ lw_g := k_w (List.mem_of_getElem? (i := 16) (by decide +kernel)) (by decide +kernel)
theorem tw_17 : (Cond.selects "PositionDesk" ⟨"PositionDesk", "doLeg", "(I)V"⟩ ⟨"PositionDesk", "doLeg", "(I)V"⟩) ∈ lw_g := k_w (List.mem_of_getElem? (i := 17) (by decide +kernel)) (by decide +kernel)
theorem tw_18 : (Cond.selects "PositionDesk" ⟨"PositionDesk", "addPaid", "(IIJ)V"⟩ ⟨"PositionDesk", "addPaid", "(IIJ)V"⟩) ∈ lw_g := k_w (List.mem_of_getElem? (i := 18) (by decide +kernel)) (by decide +kernel)
theorem tw_19 : (Cond.selects "PositionDesk" ⟨"PositionDesk", "isPosition", "(I)Z"⟩ ⟨"PositionDesk", "isPosition", "(I)Z"⟩) ∈ lw_g := k_w (List.mem_of_getElem? (i := 19) (by decide +kernel)) (by decide +kernel)
theorem tw_20 : (Cond.selects "PositionDesk" ⟨"PositionDesk", "assetOf", "(I)I"⟩ ⟨"PositionDesk", "assetOf", "(I)I"⟩) ∈ lw_g := k_w (List.mem_of_getElem? (i := 20) (by decide +kernel)) (by decide +kernel)
theorem tw_21 : (Cond.selects "PositionDesk" ⟨"PositionDesk", "ownerOf", "(I)I"⟩ ⟨"PositionDesk", "ownerOf", "(I)I"⟩) ∈ lw_g := k_w (List.mem_of_getElem? (i := 21) (by decide +kernel)) (by decide +kernel)
theorem tw_22 : (Cond.selects "PositionDeskModel" ⟨"PositionDeskModel", "isRoom", "(I)Z"⟩ ⟨"PositionDeskModel", "isRoom", "(I)Z"⟩) ∈ lw_g := k_w (List.mem_of_getElem? (i := 22) (by decide +kernel)) (by decide +kernel)
theorem tw_23 : (Cond.selects "PositionDeskModel" ⟨"PositionDeskModel", "pair", "(I)I"⟩ ⟨"PositionDeskModel", "pair", "(I)I"⟩) ∈ lw_g := k_w (List.mem_of_getElem? (i := 23) (by decide +kernel)) (by decide +kernel)
theorem tw_24 : (Cond.selects "PositionDeskModel" ⟨"PositionDeskModel", "limitAt", "(II)I"⟩ ⟨"PositionDeskModel", "limitAt", "(II)I"⟩) ∈ lw_g := k_w (List.mem_of_getElem? (i := 24) (by decide +kernel)) (by decide +kernel)
theorem tw_25 : (Cond.selects "PositionDeskModel" ⟨"PositionDeskModel", "isAsset", "(I)Z"⟩ ⟨"PositionDeskModel", "isAsset", "(I)Z"⟩) ∈ lw_g := k_w (List.mem_of_getElem? (i := 25) (by decide +kernel)) (by decide +kernel)
theorem tw_26 : (Cond.selects "PositionDeskModel" ⟨"PositionDeskModel", "isShort", "(I)Z"⟩ ⟨"PositionDeskModel", "isShort", "(I)Z"⟩) ∈ lw_g := k_w (List.mem_of_getElem? (i := 26) (by decide +kernel)) (by decide +kernel)
theorem tw_27 : (Cond.selects "PositionDeskModel" ⟨"PositionDeskModel", "position", "(II)J"⟩ ⟨"PositionDeskModel", "position", "(II)J"⟩) ∈ lw_g := k_w (List.mem_of_getElem? (i := 27) (by decide +kernel)) (by decide +kernel)
theorem tw_28 : (Cond.selects "PositionDeskModel" ⟨"PositionDeskModel", "creditOf", "(I)J"⟩ ⟨"PositionDeskModel", "creditOf", "(I)J"⟩) ∈ lw_g := k_w (List.mem_of_getElem? (i := 28) (by decide +kernel)) (by decide +kernel)
theorem tw_29 : (Cond.selects "PositionDeskModel" ⟨"PositionDeskModel", "pledged", "(II)J"⟩ ⟨"PositionDeskModel", "pledged", "(II)J"⟩) ∈ lw_g := k_w (List.mem_of_getElem? (i := 29) (by decide +kernel)) (by decide +kernel)
theorem tw_30 : (Cond.selects "PositionDeskModel" ⟨"PositionDeskModel", "isOwed", "()Z"⟩ ⟨"PositionDeskModel", "isOwed", "()Z"⟩) ∈ lw_g := k_w (List.mem_of_getElem? (i := 30) (by decide +kernel)) (by decide +kernel)
theorem tw_31 : (Cond.selects "PositionDeskModel" ⟨"PositionDeskModel", "isParticipant", "(I)Z"⟩ ⟨"PositionDeskModel", "isParticipant", "(I)Z"⟩) ∈ lw_g := k_w (List.mem_of_getElem? (i := 31) (by decide +kernel)) (by decide +kernel)
theorem tw_32 : (Cond.selects "PositionDeskModel" ⟨"PositionDeskModel", "move", "(IIJ)V"⟩ ⟨"PositionDeskModel", "move", "(IIJ)V"⟩) ∈ lw_g := k_w (List.mem_of_getElem? (i := 32) (by decide +kernel)) (by decide +kernel)
theorem tw_33 : (Cond.selects "PositionDeskModel" ⟨"PositionDeskModel", "floorOf", "(II)J"⟩ ⟨"PositionDeskModel", "floorOf", "(II)J"⟩) ∈ lw_g := k_w (List.mem_of_getElem? (i := 33) (by decide +kernel)) (by decide +kernel)
theorem tw_34 : (Cond.selects "PositionDeskModel" ⟨"PositionDeskModel", "pledgeMore", "(IIJ)V"⟩ ⟨"PositionDeskModel", "pledgeMore", "(IIJ)V"⟩) ∈ lw_g := k_w (List.mem_of_getElem? (i := 34) (by decide +kernel)) (by decide +kernel)
theorem tw_35 : (Cond.selects "PositionDeskModel" ⟨"PositionDeskModel", "netPaid", "(II)J"⟩ ⟨"PositionDeskModel", "netPaid", "(II)J"⟩) ∈ lw_g := k_w (List.mem_of_getElem? (i := 35) (by decide +kernel)) (by decide +kernel)
theorem tw_36 : (Cond.selects "PositionDeskModel" ⟨"PositionDeskModel", "fits", "(I)Z"⟩ ⟨"PositionDeskModel", "fits", "(I)Z"⟩) ∈ lw_g := k_w (List.mem_of_getElem? (i := 36) (by decide +kernel)) (by decide +kernel)
abbrev yX_init : MethodName := ⟨"PositionDesk", "<init>", "(II)V"⟩
abbrev wX_init : List Cond := Cond.code yX_init prog_1_method_1_code 5 ((Option.none : Option Jvm.ClassFile.FieldType)) :: lw_g
abbrev yX_currency : MethodName := ⟨"PositionDesk", "currency", "()I"⟩
abbrev wX_currency : List Cond := Cond.code yX_currency prog_1_method_2_code 2 (Option.some Jvm.ClassFile.FieldType.int) :: lw_g
abbrev yX_security : MethodName := ⟨"PositionDesk", "security", "(JI)I"⟩
abbrev wX_security : List Cond := Cond.code yX_security prog_1_method_3_code 4 (Option.some Jvm.ClassFile.FieldType.int) :: lw_g
abbrev yX_price : MethodName := ⟨"PositionDesk", "price", "(IJI)I"⟩
abbrev wX_price : List Cond := Cond.code yX_price prog_1_method_4_code 9 (Option.some Jvm.ClassFile.FieldType.int) :: lw_g
abbrev yX_give : MethodName := ⟨"PositionDesk", "give", "(IIJ)I"⟩
abbrev wX_give : List Cond := Cond.code yX_give prog_1_method_5_code 6 (Option.some Jvm.ClassFile.FieldType.int) :: lw_g
abbrev yX_back : MethodName := ⟨"PositionDesk", "back", "(IIJ)I"⟩
abbrev wX_back : List Cond := Cond.code yX_back prog_1_method_6_code 6 (Option.some Jvm.ClassFile.FieldType.int) :: lw_g
abbrev yX_pledge : MethodName := ⟨"PositionDesk", "pledge", "(IIJ)I"⟩
abbrev wX_pledge : List Cond := Cond.code yX_pledge prog_1_method_7_code 6 (Option.some Jvm.ClassFile.FieldType.int) :: lw_g
abbrev yX_free : MethodName := ⟨"PositionDesk", "free", "(IIJ)I"⟩
abbrev wX_free : List Cond := Cond.code yX_free prog_1_method_8_code 6 (Option.some Jvm.ClassFile.FieldType.int) :: lw_g
abbrev yX_limit : MethodName := ⟨"PositionDesk", "limit", "(IIJ)I"⟩
abbrev wX_limit : List Cond := Cond.code yX_limit prog_1_method_9_code 5 (Option.some Jvm.ClassFile.FieldType.int) :: lw_g
abbrev yX_open : MethodName := ⟨"PositionDesk", "open", "(II)I"⟩
abbrev wX_open : List Cond := Cond.code yX_open prog_1_method_10_code 3 (Option.some Jvm.ClassFile.FieldType.int) :: lw_g
abbrev yX_day : MethodName := ⟨"PositionDesk", "day", "()V"⟩
abbrev wX_day : List Cond := Cond.code yX_day prog_1_method_11_code 1 ((Option.none : Option Jvm.ClassFile.FieldType)) :: lw_g
abbrev yX_leg : MethodName := ⟨"PositionDesk", "leg", "(IIIJ)I"⟩
abbrev wX_leg : List Cond := Cond.code yX_leg prog_1_method_12_code 6 (Option.some Jvm.ClassFile.FieldType.int) :: lw_g
abbrev yX_holds : MethodName := ⟨"PositionDesk", "holds", "()Z"⟩
abbrev wX_holds : List Cond := Cond.code yX_holds prog_1_method_13_code 2 (Option.some Jvm.ClassFile.FieldType.boolean) :: lw_g
abbrev yX_post : MethodName := ⟨"PositionDesk", "post", "()Z"⟩
abbrev wX_post : List Cond := Cond.code yX_post prog_1_method_14_code 2 (Option.some Jvm.ClassFile.FieldType.boolean) :: lw_g
abbrev yX_drop : MethodName := ⟨"PositionDesk", "drop", "()I"⟩
abbrev wX_drop : List Cond := Cond.code yX_drop prog_1_method_15_code 2 (Option.some Jvm.ClassFile.FieldType.int) :: lw_g
abbrev yX_net : MethodName := ⟨"PositionDesk", "net", "(I)J"⟩
abbrev wX_net : List Cond := Cond.code yX_net prog_1_method_16_code 3 (Option.some Jvm.ClassFile.FieldType.long) :: lw_g
abbrev yX_value : MethodName := ⟨"PositionDesk", "value", "(I)J"⟩
abbrev wX_value : List Cond := Cond.code yX_value prog_1_method_17_code 3 (Option.some Jvm.ClassFile.FieldType.long) :: lw_g
abbrev yX_floor : MethodName := ⟨"PositionDesk", "floor", "(I)J"⟩
abbrev wX_floor : List Cond := Cond.code yX_floor prog_1_method_18_code 3 (Option.some Jvm.ClassFile.FieldType.long) :: lw_g
abbrev yX_isThere : MethodName := ⟨"PositionDesk", "isThere", "(I)Z"⟩
abbrev wX_isThere : List Cond := Cond.code yX_isThere prog_1_method_19_code 2 (Option.some Jvm.ClassFile.FieldType.boolean) :: lw_g
abbrev yX_credit : MethodName := ⟨"PositionDesk", "credit", "(I)J"⟩
abbrev wX_credit : List Cond := Cond.code yX_credit prog_1_method_20_code 2 (Option.some Jvm.ClassFile.FieldType.long) :: lw_g
abbrev yX_isClient : MethodName := ⟨"PositionDesk", "isClient", "(I)Z"⟩
abbrev wX_isClient : List Cond := Cond.code yX_isClient prog_1_method_21_code 2 (Option.some Jvm.ClassFile.FieldType.boolean) :: lw_g
abbrev yX_areTwoClients : MethodName := ⟨"PositionDesk", "areTwoClients", "(II)Z"⟩
abbrev wX_areTwoClients : List Cond := Cond.code yX_areTwoClients prog_1_method_22_code 3 (Option.some Jvm.ClassFile.FieldType.boolean) :: lw_g
abbrev yX_isAmount : MethodName := ⟨"PositionDesk", "isAmount", "(J)Z"⟩
abbrev wX_isAmount : List Cond := Cond.code yX_isAmount prog_1_method_23_code 2 (Option.some Jvm.ClassFile.FieldType.boolean) :: lw_g
abbrev yX_isPriced : MethodName := ⟨"PositionDesk", "isPriced", "(JI)Z"⟩
abbrev wX_isPriced : List Cond := Cond.code yX_isPriced prog_1_method_24_code 3 (Option.some Jvm.ClassFile.FieldType.boolean) :: lw_g
abbrev yX_isPosition : MethodName := ⟨"PositionDesk", "isPosition", "(I)Z"⟩
abbrev wX_isPosition : List Cond := Cond.code yX_isPosition prog_1_method_25_code 2 (Option.some Jvm.ClassFile.FieldType.boolean) :: lw_g
abbrev yX_ownerOf : MethodName := ⟨"PositionDesk", "ownerOf", "(I)I"⟩
abbrev wX_ownerOf : List Cond := Cond.code yX_ownerOf prog_1_method_26_code 2 (Option.some Jvm.ClassFile.FieldType.int) :: lw_g
abbrev yX_assetOf : MethodName := ⟨"PositionDesk", "assetOf", "(I)I"⟩
abbrev wX_assetOf : List Cond := Cond.code yX_assetOf prog_1_method_27_code 2 (Option.some Jvm.ClassFile.FieldType.int) :: lw_g
abbrev yX_pairOf : MethodName := ⟨"PositionDesk", "pairOf", "(II)I"⟩
abbrev wX_pairOf : List Cond := Cond.code yX_pairOf prog_1_method_28_code 3 (Option.some Jvm.ClassFile.FieldType.int) :: lw_g
abbrev yX_assetAt : MethodName := ⟨"PositionDesk", "assetAt", "(I)LPositionDesk$Asset;"⟩
abbrev wX_assetAt : List Cond := Cond.code yX_assetAt prog_1_method_29_code 2 (Option.some (Jvm.ClassFile.FieldType.object "PositionDesk$Asset")) :: lw_g
abbrev yX_securityAt : MethodName := ⟨"PositionDesk", "securityAt", "(I)LPositionDesk$Asset;"⟩
abbrev wX_securityAt : List Cond := Cond.code yX_securityAt prog_1_method_30_code 3 (Option.some (Jvm.ClassFile.FieldType.object "PositionDesk$Asset")) :: lw_g
abbrev yX_addAsset : MethodName := ⟨"PositionDesk", "addAsset", "(ZJ)I"⟩
abbrev wX_addAsset : List Cond := Cond.code yX_addAsset prog_1_method_31_code 5 (Option.some Jvm.ClassFile.FieldType.int) :: lw_g
abbrev yX_rateOf : MethodName := ⟨"PositionDesk", "rateOf", "(JI)J"⟩
abbrev wX_rateOf : List Cond := Cond.code yX_rateOf prog_1_method_32_code 3 (Option.some Jvm.ClassFile.FieldType.long) :: lw_g
abbrev yX_lowest : MethodName := ⟨"PositionDesk", "lowest", "(LPositionDesk$Asset;I)J"⟩
abbrev wX_lowest : List Cond := Cond.code yX_lowest prog_1_method_33_code 3 (Option.some Jvm.ClassFile.FieldType.long) :: lw_g
abbrev yX_creditWith : MethodName := ⟨"PositionDesk", "creditWith", "(LPositionDesk$Asset;IJJ)J"⟩
abbrev wX_creditWith : List Cond := Cond.code yX_creditWith prog_1_method_34_code 9 (Option.some Jvm.ClassFile.FieldType.long) :: lw_g
abbrev yX_worth : MethodName := ⟨"PositionDesk", "worth", "(JJ)J"⟩
abbrev wX_worth : List Cond := Cond.code yX_worth prog_1_method_35_code 10 (Option.some Jvm.ClassFile.FieldType.long) :: lw_g
abbrev yX_isOverdrawn : MethodName := ⟨"PositionDesk", "isOverdrawn", "(IJ)Z"⟩
abbrev wX_isOverdrawn : List Cond := Cond.code yX_isOverdrawn prog_1_method_36_code 5 (Option.some Jvm.ClassFile.FieldType.boolean) :: lw_g
abbrev yX_setPledged : MethodName := ⟨"PositionDesk", "setPledged", "(LPositionDesk$Asset;IJ)I"⟩
abbrev wX_setPledged : List Cond := Cond.code yX_setPledged prog_1_method_37_code 9 (Option.some Jvm.ClassFile.FieldType.int) :: lw_g
abbrev yX_faultOfRate : MethodName := ⟨"PositionDesk", "faultOfRate", "(LPositionDesk$Asset;J)I"⟩
abbrev wX_faultOfRate : List Cond := Cond.code yX_faultOfRate prog_1_method_38_code 9 (Option.some Jvm.ClassFile.FieldType.int) :: lw_g
abbrev yX_setRate : MethodName := ⟨"PositionDesk", "setRate", "(LPositionDesk$Asset;J)V"⟩
abbrev wX_setRate : List Cond := Cond.code yX_setRate prog_1_method_39_code 7 ((Option.none : Option Jvm.ClassFile.FieldType)) :: lw_g
abbrev yX_paidFrom : MethodName := ⟨"PositionDesk", "paidFrom", "(II)J"⟩
abbrev wX_paidFrom : List Cond := Cond.code yX_paidFrom prog_1_method_40_code 3 (Option.some Jvm.ClassFile.FieldType.long) :: lw_g
abbrev yX_addPaid : MethodName := ⟨"PositionDesk", "addPaid", "(IIJ)V"⟩
abbrev wX_addPaid : List Cond := Cond.code yX_addPaid prog_1_method_41_code 6 ((Option.none : Option Jvm.ClassFile.FieldType)) :: lw_g
abbrev yX_roomOf : MethodName := ⟨"PositionDesk", "roomOf", "(I)J"⟩
abbrev wX_roomOf : List Cond := Cond.code yX_roomOf prog_1_method_42_code 2 (Option.some Jvm.ClassFile.FieldType.long) :: lw_g
abbrev yX_breaksFloor : MethodName := ⟨"PositionDesk", "breaksFloor", "(II)Z"⟩
abbrev wX_breaksFloor : List Cond := Cond.code yX_breaksFloor prog_1_method_43_code 6 (Option.some Jvm.ClassFile.FieldType.boolean) :: lw_g
abbrev yX_breaksRoom : MethodName := ⟨"PositionDesk", "breaksRoom", "(I)Z"⟩
abbrev wX_breaksRoom : List Cond := Cond.code yX_breaksRoom prog_1_method_44_code 5 (Option.some Jvm.ClassFile.FieldType.boolean) :: lw_g
abbrev yX_doLeg : MethodName := ⟨"PositionDesk", "doLeg", "(I)V"⟩
abbrev wX_doLeg : List Cond := Cond.code yX_doLeg prog_1_method_45_code 3 ((Option.none : Option Jvm.ClassFile.FieldType)) :: lw_g
abbrev yA_init : MethodName := ⟨"PositionDesk$Asset", "<init>", "(ZJI)V"⟩
abbrev wA_init : List Cond := Cond.code yA_init prog_2_method_1_code 5 ((Option.none : Option Jvm.ClassFile.FieldType)) :: lw_g
abbrev yA_move : MethodName := ⟨"PositionDesk$Asset", "move", "(IIJ)V"⟩
abbrev wA_move : List Cond := Cond.code yA_move prog_2_method_2_code 5 ((Option.none : Option Jvm.ClassFile.FieldType)) :: lw_g
abbrev yG_init : MethodName := ⟨"PositionDesk$Legs", "<init>", "()V"⟩
abbrev wG_init : List Cond := Cond.code yG_init prog_3_method_1_code 1 ((Option.none : Option Jvm.ClassFile.FieldType)) :: lw_g
abbrev yG_add : MethodName := ⟨"PositionDesk$Legs", "add", "(IIIJ)Z"⟩
abbrev wG_add : List Cond := Cond.code yG_add prog_3_method_2_code 6 (Option.some Jvm.ClassFile.FieldType.boolean) :: lw_g
abbrev yG_netOf : MethodName := ⟨"PositionDesk$Legs", "netOf", "(II)J"⟩
abbrev wG_netOf : List Cond := Cond.code yG_netOf prog_3_method_3_code 6 (Option.some Jvm.ClassFile.FieldType.long) :: lw_g
abbrev yG_paidFrom : MethodName := ⟨"PositionDesk$Legs", "paidFrom", "(III)J"⟩
abbrev wG_paidFrom : List Cond := Cond.code yG_paidFrom prog_3_method_4_code 7 (Option.some Jvm.ClassFile.FieldType.long) :: lw_g
abbrev yP_init : MethodName := ⟨"PositionDesk$PairAmounts", "<init>", "(I)V"⟩
abbrev wP_init : List Cond := Cond.code yP_init prog_4_method_1_code 2 ((Option.none : Option Jvm.ClassFile.FieldType)) :: lw_g
abbrev yP_indexOf : MethodName := ⟨"PositionDesk$PairAmounts", "indexOf", "(I)I"⟩
abbrev wP_indexOf : List Cond := Cond.code yP_indexOf prog_4_method_2_code 3 (Option.some Jvm.ClassFile.FieldType.int) :: lw_g
abbrev yP_has : MethodName := ⟨"PositionDesk$PairAmounts", "has", "(I)Z"⟩
abbrev wP_has : List Cond := Cond.code yP_has prog_4_method_3_code 2 (Option.some Jvm.ClassFile.FieldType.boolean) :: lw_g
abbrev yP_amountOf : MethodName := ⟨"PositionDesk$PairAmounts", "amountOf", "(I)J"⟩
abbrev wP_amountOf : List Cond := Cond.code yP_amountOf prog_4_method_4_code 3 (Option.some Jvm.ClassFile.FieldType.long) :: lw_g
abbrev yP_put : MethodName := ⟨"PositionDesk$PairAmounts", "put", "(IJ)Z"⟩
abbrev wP_put : List Cond := Cond.code yP_put prog_4_method_5_code 5 (Option.some Jvm.ClassFile.FieldType.boolean) :: lw_g
abbrev yP_remove : MethodName := ⟨"PositionDesk$PairAmounts", "remove", "(I)Z"⟩
abbrev wP_remove : List Cond := Cond.code yP_remove prog_4_method_6_code 3 (Option.some Jvm.ClassFile.FieldType.boolean) :: lw_g
abbrev yP_clear : MethodName := ⟨"PositionDesk$PairAmounts", "clear", "()V"⟩
abbrev wP_clear : List Cond := Cond.code yP_clear prog_4_method_7_code 1 ((Option.none : Option Jvm.ClassFile.FieldType)) :: lw_g
abbrev yM_init : MethodName := ⟨"PositionDeskModel", "<init>", "(II)V"⟩
abbrev wM_init : List Cond := Cond.code yM_init prog_6_method_1_code 5 ((Option.none : Option Jvm.ClassFile.FieldType)) :: lw_g
abbrev yM_position : MethodName := ⟨"PositionDeskModel", "position", "(II)J"⟩
abbrev wM_position : List Cond := Cond.code yM_position prog_6_method_2_code 6 (Option.some Jvm.ClassFile.FieldType.long) :: lw_g
abbrev yM_pledged : MethodName := ⟨"PositionDeskModel", "pledged", "(II)J"⟩
abbrev wM_pledged : List Cond := Cond.code yM_pledged prog_6_method_3_code 6 (Option.some Jvm.ClassFile.FieldType.long) :: lw_g
abbrev yM_netPaid : MethodName := ⟨"PositionDeskModel", "netPaid", "(II)J"⟩
abbrev wM_netPaid : List Cond := Cond.code yM_netPaid prog_6_method_4_code 6 (Option.some Jvm.ClassFile.FieldType.long) :: lw_g
abbrev yM_worth : MethodName := ⟨"PositionDeskModel", "worth", "(JJI)J"⟩
abbrev wM_worth : List Cond := Cond.code yM_worth prog_6_method_5_code 13 (Option.some Jvm.ClassFile.FieldType.long) :: lw_g
abbrev yM_creditOf : MethodName := ⟨"PositionDeskModel", "creditOf", "(I)J"⟩
abbrev wM_creditOf : List Cond := Cond.code yM_creditOf prog_6_method_6_code 5 (Option.some Jvm.ClassFile.FieldType.long) :: lw_g
abbrev yM_isOwed : MethodName := ⟨"PositionDeskModel", "isOwed", "()Z"⟩
abbrev wM_isOwed : List Cond := Cond.code yM_isOwed prog_6_method_7_code 4 (Option.some Jvm.ClassFile.FieldType.boolean) :: lw_g
abbrev yM_isShort : MethodName := ⟨"PositionDeskModel", "isShort", "(I)Z"⟩
abbrev wM_isShort : List Cond := Cond.code yM_isShort prog_6_method_8_code 2 (Option.some Jvm.ClassFile.FieldType.boolean) :: lw_g
abbrev yM_floorOf : MethodName := ⟨"PositionDeskModel", "floorOf", "(II)J"⟩
abbrev wM_floorOf : List Cond := Cond.code yM_floorOf prog_6_method_9_code 3 (Option.some Jvm.ClassFile.FieldType.long) :: lw_g
abbrev yM_isParticipant : MethodName := ⟨"PositionDeskModel", "isParticipant", "(I)Z"⟩
abbrev wM_isParticipant : List Cond := Cond.code yM_isParticipant prog_6_method_10_code 2 (Option.some Jvm.ClassFile.FieldType.boolean) :: lw_g
abbrev yM_isAsset : MethodName := ⟨"PositionDeskModel", "isAsset", "(I)Z"⟩
abbrev wM_isAsset : List Cond := Cond.code yM_isAsset prog_6_method_11_code 2 (Option.some Jvm.ClassFile.FieldType.boolean) :: lw_g
abbrev yM_isAmount : MethodName := ⟨"PositionDeskModel", "isAmount", "(J)Z"⟩
abbrev wM_isAmount : List Cond := Cond.code yM_isAmount prog_6_method_12_code 2 (Option.some Jvm.ClassFile.FieldType.boolean) :: lw_g
abbrev yM_limitAt : MethodName := ⟨"PositionDeskModel", "limitAt", "(II)I"⟩
abbrev wM_limitAt : List Cond := Cond.code yM_limitAt prog_6_method_13_code 5 (Option.some Jvm.ClassFile.FieldType.int) :: lw_g
abbrev yM_pair : MethodName := ⟨"PositionDeskModel", "pair", "(I)I"⟩
abbrev wM_pair : List Cond := Cond.code yM_pair prog_6_method_14_code 2 (Option.some Jvm.ClassFile.FieldType.int) :: lw_g
abbrev yM_isRoom : MethodName := ⟨"PositionDeskModel", "isRoom", "(I)Z"⟩
abbrev wM_isRoom : List Cond := Cond.code yM_isRoom prog_6_method_15_code 2 (Option.some Jvm.ClassFile.FieldType.boolean) :: lw_g
abbrev yM_isThere : MethodName := ⟨"PositionDeskModel", "isThere", "(I)Z"⟩
abbrev wM_isThere : List Cond := Cond.code yM_isThere prog_6_method_16_code 2 (Option.some Jvm.ClassFile.FieldType.boolean) :: lw_g
abbrev yM_currency : MethodName := ⟨"PositionDeskModel", "currency", "()I"⟩
abbrev wM_currency : List Cond := Cond.code yM_currency prog_6_method_17_code 1 (Option.some Jvm.ClassFile.FieldType.int) :: lw_g
abbrev yM_isPrice : MethodName := ⟨"PositionDeskModel", "isPrice", "(JI)Z"⟩
abbrev wM_isPrice : List Cond := Cond.code yM_isPrice prog_6_method_18_code 3 (Option.some Jvm.ClassFile.FieldType.boolean) :: lw_g
abbrev yM_security : MethodName := ⟨"PositionDeskModel", "security", "(JI)I"⟩
abbrev wM_security : List Cond := Cond.code yM_security prog_6_method_19_code 4 (Option.some Jvm.ClassFile.FieldType.int) :: lw_g
abbrev yM_price : MethodName := ⟨"PositionDeskModel", "price", "(IJI)I"⟩
abbrev wM_price : List Cond := Cond.code yM_price prog_6_method_20_code 10 (Option.some Jvm.ClassFile.FieldType.int) :: lw_g
abbrev yM_move : MethodName := ⟨"PositionDeskModel", "move", "(IIJ)V"⟩
abbrev wM_move : List Cond := Cond.code yM_move prog_6_method_21_code 5 ((Option.none : Option Jvm.ClassFile.FieldType)) :: lw_g
abbrev yM_give : MethodName := ⟨"PositionDeskModel", "give", "(IIJ)I"⟩
abbrev wM_give : List Cond := Cond.code yM_give prog_6_method_22_code 5 (Option.some Jvm.ClassFile.FieldType.int) :: lw_g
abbrev yM_back : MethodName := ⟨"PositionDeskModel", "back", "(IIJ)I"⟩
abbrev wM_back : List Cond := Cond.code yM_back prog_6_method_23_code 5 (Option.some Jvm.ClassFile.FieldType.int) :: lw_g
abbrev yM_pledgeMore : MethodName := ⟨"PositionDeskModel", "pledgeMore", "(IIJ)V"⟩
abbrev wM_pledgeMore : List Cond := Cond.code yM_pledgeMore prog_6_method_24_code 5 ((Option.none : Option Jvm.ClassFile.FieldType)) :: lw_g
abbrev yM_pledge : MethodName := ⟨"PositionDeskModel", "pledge", "(IIJ)I"⟩
abbrev wM_pledge : List Cond := Cond.code yM_pledge prog_6_method_25_code 6 (Option.some Jvm.ClassFile.FieldType.int) :: lw_g
abbrev yM_free : MethodName := ⟨"PositionDeskModel", "free", "(IIJ)I"⟩
abbrev wM_free : List Cond := Cond.code yM_free prog_6_method_26_code 6 (Option.some Jvm.ClassFile.FieldType.int) :: lw_g
abbrev yM_limit : MethodName := ⟨"PositionDeskModel", "limit", "(IIJ)I"⟩
abbrev wM_limit : List Cond := Cond.code yM_limit prog_6_method_27_code 6 (Option.some Jvm.ClassFile.FieldType.int) :: lw_g
abbrev yM_open : MethodName := ⟨"PositionDeskModel", "open", "(II)I"⟩
abbrev wM_open : List Cond := Cond.code yM_open prog_6_method_28_code 4 (Option.some Jvm.ClassFile.FieldType.int) :: lw_g
abbrev yM_day : MethodName := ⟨"PositionDeskModel", "day", "()V"⟩
abbrev wM_day : List Cond := Cond.code yM_day prog_6_method_29_code 1 ((Option.none : Option Jvm.ClassFile.FieldType)) :: lw_g
abbrev yM_leg : MethodName := ⟨"PositionDeskModel", "leg", "(IIIJ)I"⟩
abbrev wM_leg : List Cond := Cond.code yM_leg prog_6_method_30_code 6 (Option.some Jvm.ClassFile.FieldType.int) :: lw_g
abbrev yM_drop : MethodName := ⟨"PositionDeskModel", "drop", "()I"⟩
abbrev wM_drop : List Cond := Cond.code yM_drop prog_6_method_31_code 2 (Option.some Jvm.ClassFile.FieldType.int) :: lw_g
abbrev yM_net : MethodName := ⟨"PositionDeskModel", "net", "(I)J"⟩
abbrev wM_net : List Cond := Cond.code yM_net prog_6_method_32_code 9 (Option.some Jvm.ClassFile.FieldType.long) :: lw_g
abbrev yM_fits : MethodName := ⟨"PositionDeskModel", "fits", "(I)Z"⟩
abbrev wM_fits : List Cond := Cond.code yM_fits prog_6_method_33_code 2 (Option.some Jvm.ClassFile.FieldType.boolean) :: lw_g
abbrev yM_holds : MethodName := ⟨"PositionDeskModel", "holds", "()Z"⟩
abbrev wM_holds : List Cond := Cond.code yM_holds prog_6_method_34_code 4 (Option.some Jvm.ClassFile.FieldType.boolean) :: lw_g
abbrev yM_post : MethodName := ⟨"PositionDeskModel", "post", "()Z"⟩
abbrev wM_post : List Cond := Cond.code yM_post prog_6_method_35_code 2 (Option.some Jvm.ClassFile.FieldType.boolean) :: lw_g
abbrev yM_value : MethodName := ⟨"PositionDeskModel", "value", "(I)J"⟩
abbrev wM_value : List Cond := Cond.code yM_value prog_6_method_36_code 4 (Option.some Jvm.ClassFile.FieldType.long) :: lw_g
abbrev yM_floor : MethodName := ⟨"PositionDeskModel", "floor", "(I)J"⟩
abbrev wM_floor : List Cond := Cond.code yM_floor prog_6_method_37_code 2 (Option.some Jvm.ClassFile.FieldType.long) :: lw_g
abbrev yM_credit : MethodName := ⟨"PositionDeskModel", "credit", "(I)J"⟩
abbrev wM_credit : List Cond := Cond.code yM_credit prog_6_method_38_code 2 (Option.some Jvm.ClassFile.FieldType.long) :: lw_g
abbrev yL_cell : MethodName := ⟨"PositionDeskLaw", "cell", "([II)I"⟩
abbrev wL_cell : List Cond := Cond.code yL_cell method_2_code 2 (Option.some Jvm.ClassFile.FieldType.int) :: lw_g
theorem k_gC {y : MethodName} {cc : ByteArray} {n : Nat} {r : Option FieldType} (h : Cond.code y cc n r ∈ lw_g) : GoodIn lw_g (Cond.code y cc n r :: lw_g) := by
  intro w hw
  rcases List.mem_cons.mp hw with rfl | hw
  · exact k_in h
  · exact k_in hw
theorem k_gV {own C : String} {idx : Nat} {y : MethodName} {cc : ByteArray} {n : Nat} {r : Option FieldType} (h1 : Cond.methodLink own idx y ∈ lw_g) (h2 : Cond.instanceMethod y ∈ lw_g) (h3 : Cond.selects C y y ∈ lw_g) (h4 : Cond.initialized C ∈ lw_g) (h5 : Cond.code y cc n r ∈ lw_g) : GoodIn lw_g (wsV own idx C y (Cond.code y cc n r :: lw_g)) := by
  intro w hw
  unfold wsV at hw
  rcases List.mem_append.mp hw with hw | hw
  · rcases List.mem_cons.mp hw with rfl | hw
    · exact k_in h1
    rcases List.mem_cons.mp hw with rfl | hw
    · exact k_in h2
    rcases List.mem_cons.mp hw with rfl | hw
    · exact k_in h3
    rcases List.mem_cons.mp hw with rfl | hw
    · exact k_in h4
    · cases hw
  · exact k_gC h5 w hw
theorem k_gS {own : String} {idx : Nat} {y : MethodName} {cc : ByteArray} {n : Nat} {r : Option FieldType} (h1 : Cond.methodLink own idx y ∈ lw_g) (h2 : Cond.static y ∈ lw_g) (h4 : Cond.initialized own ∈ lw_g) (h5 : Cond.code y cc n r ∈ lw_g) : GoodIn lw_g (wsS own idx y (Cond.code y cc n r :: lw_g)) := by
  intro w hw
  unfold wsS at hw
  rcases List.mem_append.mp hw with hw | hw
  · rcases List.mem_cons.mp hw with rfl | hw
    · exact k_in h1
    rcases List.mem_cons.mp hw with rfl | hw
    · exact k_in h2
    rcases List.mem_cons.mp hw with rfl | hw
    · exact k_in h4
    · cases hw
  · exact k_gC h5 w hw
end
section
/-! THE WORLD BY KEYS: κ says what lies at key k, d at which address; all that is known of the heap is one such map, a write is an update at a key -/
def kH (D : va_G) (cl : List vw_C) (d : Nat → Nat) (κ : Nat → Option va_E) (H : Heap) : Prop := (∀ (k : Nat) (e : va_E), κ k = some e → va_at D cl (d k, e) H) ∧ ∀ (i j : Nat) (e f : va_E), κ i = some e → κ j = some f → d i = d j → i = j
def kW (D : va_G) (cl : List vw_C) (d : Nat → Nat) (κ : Nat → Option va_E) (A : Nat → Prop) (H0 H : Heap) (locs : List Loc) : Prop := kH D cl d κ H ∧ (∀ (k : Nat) (e : va_E), κ k = some e → A (d k)) ∧ va_S A H0 H locs
/-- which cells a writer may change: those of its world, and new ones -/
def kA (d : Nat → Nat) (κ : Nat → Option va_E) (sz : Nat) : Nat → Prop := fun q => (∃ (k : Nat) (e : va_E), κ k = some e ∧ d k = q) ∨ sz ≤ q
def kC (D : va_G) (cl : List vw_C) (tys : List (ClassId × FieldType)) (d : Nat → Nat) (κ : Nat → Option va_E) (sz : Nat) (U : State) : Prop := U.heap.size = sz ∧ kH D cl d κ U.heap ∧ va_K D cl tys U
section KB
variable {D : va_G} {cl : List vw_C} {tys : List (ClassId × FieldType)} {d : Nat → Nat} {κ : Nat → Option va_E} {A : Nat → Prop} {H0 H H1 : Heap} {locs : List Loc}
theorem kH.one (h : kH D cl d κ H) {q : Nat} {e : va_E} (he : κ q = some e) : va_P D cl [(d q, e)] H := by
  intro k x hx
  have hz : k < 1 := (List.getElem?_eq_some_iff.mp hx).1
  rw [show k = 0 by omega] at hx
  cases hx
  exact h.1 q e he
theorem kH.set (h : kH D cl d κ H) {q : Nat} {e0 e : va_E} (hq : κ q = some e0) (he : va_at D cl (d q, e) H1) (oq : ∀ x : Nat, x ≠ d q → H1[x]? = H[x]?) : kH D cl d (va_up κ q (some e)) H1 := by
  have key : ∀ (i : Nat) (e1 : va_E), va_up κ q (some e) i = some e1 → ∃ e2, κ i = some e2 := by
    intro i e1 hi
    by_cases hiq : i = q
    · exact ⟨e0, by rw [hiq]; exact hq⟩
    · exact ⟨e1, by rw [va_up_ne _ _ hiq] at hi; exact hi⟩
  refine ⟨fun k e' hk => ?_, fun i j e1 e2 hi hj hij => ?_⟩
  · by_cases hkq : k = q
    · subst hkq
      rw [va_up_self] at hk
      cases hk
      exact he
    · rw [va_up_ne _ _ hkq] at hk
      exact (h.1 k e' hk).kept (oq (d k) (fun z => hkq (h.2 k q e' e0 hk hq z)))
  · obtain ⟨a1, ha1⟩ := key i e1 hi
    obtain ⟨a2, ha2⟩ := key j e2 hj
    exact h.2 i j a1 a2 ha1 ha2 hij
theorem kW.set (h : kW D cl d κ A H0 H locs) {q i : Nat} {e0 e : va_E} (hq : κ q = some e0) (he : va_at D cl (d q, e) H1) (z : H1.size = H.size) (oq : ∀ x : Nat, x ≠ d q → H1[x]? = H[x]?) : kW D cl d (va_up κ q (some e)) A H0 H1 (locs ++ [⟨d q, i⟩]) := by
  refine ⟨h.1.set hq he oq, fun k e' hk => ?_, h.2.2.put z oq (h.2.1 q e0 hq)⟩
  by_cases hkq : k = q
  · rw [hkq]; exact h.2.1 q e0 hq
  · rw [va_up_ne _ _ hkq] at hk
    exact h.2.1 k e' hk
/-- a new cell at the heap's end, under a key that was free -/
theorem kH.new (h : kH D cl d κ H) {q : Nat} {e : va_E} (hq : κ q = none) (he : va_at D cl (H.size, e) H1) (o1 : ∀ x : Nat, x < H.size → H1[x]? = H[x]?) : kH D cl (va_up d q H.size) (va_up κ q (some e)) H1 := by
  have lt : ∀ (k : Nat) (e : va_E), κ k = some e → d k < H.size := fun k e hk => (h.1 k e hk).lt
  refine ⟨fun k e' hk => ?_, fun i j e1 e2 hi hj hij => ?_⟩
  · by_cases hkq : k = q
    · subst hkq
      rw [va_up_self] at hk
      cases hk
      rw [va_up_self]
      exact he
    · rw [va_up_ne _ _ hkq] at hk
      rw [va_up_ne _ _ hkq]
      exact (h.1 k e' hk).kept (o1 _ (lt k e' hk))
  · by_cases hiq : i = q
    · by_cases hjq : j = q
      · rw [hiq, hjq]
      · rw [va_up_ne _ _ hjq] at hj
        rw [hiq, va_up_self, va_up_ne _ _ hjq] at hij
        have := lt j e2 hj
        omega
    · rw [va_up_ne _ _ hiq] at hi
      by_cases hjq : j = q
      · rw [hjq, va_up_self, va_up_ne _ _ hiq] at hij
        have := lt i e1 hi
        omega
      · rw [va_up_ne _ _ hjq] at hj
        rw [va_up_ne _ _ hiq, va_up_ne _ _ hjq] at hij
        exact h.2 i j e1 e2 hi hj hij
theorem kW.new (h : kW D cl d κ A H0 H locs) (hA : ∀ x, H0.size ≤ x → A x) {q : Nat} {e : va_E} (hq : κ q = none) (he : va_at D cl (H.size, e) H1) (z : H.size ≤ H1.size) (o1 : ∀ x : Nat, x < H.size → H1[x]? = H[x]?) : kW D cl (va_up d q H.size) (va_up κ q (some e)) A H0 H1 locs := by
  refine ⟨h.1.new hq he o1, fun k e' hk => ?_, Nat.le_trans h.2.2.1 z, fun x h1 h2 => (o1 x (Nat.lt_of_lt_of_le h1 h.2.2.1)).trans (h.2.2.2.1 x h1 h2), h.2.2.2.2⟩
  by_cases hkq : k = q
  · rw [hkq, va_up_self]; exact hA _ h.2.2.1
  · rw [va_up_ne _ _ hkq] at hk
    rw [va_up_ne _ _ hkq]
    exact h.2.1 k e' hk
theorem kA.hi {sz : Nat} : ∀ x, sz ≤ x → kA d κ sz x := fun _ h => Or.inr h
theorem kW.start {s : State} (h : kH D cl d κ s.heap) : kW D cl d κ (kA d κ s.heap.size) s.heap s.heap [] := ⟨h, fun k e hk => Or.inl ⟨k, e, hk, rfl⟩, va_S.rf⟩
theorem kC_blind {av : List Value} {sz : Nat} : FrameBlind (va_Pc av (kC D cl tys d κ sz)) := fun a U g mk q => ⟨q.1, q.2.1, q.2.2.1, va_K.moved (u := U) (U := U.calling g mk a) (Vm.Alike.refl U.vm) q.2.2.2⟩
theorem kPreV {s : State} {As : List Value} (hP : kH D cl d κ H) (hK : va_K D cl tys s) {q ci : Nat} {fs : List Value} {r : vw_C} (he : κ q = some (.inr (ci, fs))) (hc : cl[ci]? = some r) : PreV s H r.1 (d q) (va_Pc (.ref (d q) :: As) (kC D cl tys d κ H.size)) As :=
  ⟨kC_blind, va_recv hK (hP.one he) hc (q0 := 0) rfl, fun U hU hW => ⟨rfl, by rw [hU], by rw [hU]; exact hP, va_K.moved hW.alike hK⟩⟩
theorem kPreS {s : State} {As : List Value} (hP : kH D cl d κ H) (hK : va_K D cl tys s) : PreS s H (va_Pc As (kC D cl tys d κ H.size)) As :=
  ⟨kC_blind, fun U hU hW => ⟨rfl, by rw [hU], by rw [hU]; exact hP, va_K.moved hW.alike hK⟩⟩
end KB
section KM
variable {l : Launch} {D : va_G} {cl : List vw_C} {tys : List (ClassId × FieldType)} {d : Nat → Nat} {κ : Nat → Option va_E}
/-- the head of every method -/
theorem kMet {y : MethodName} {rm : Room} {av : List Value} {sz : Nat} {Qc : Array Value → State → Outcome → State → Prop} {mc ms : Nat} {free : Addr → Prop} {cc : ByteArray} {maxL : Nat} {ret : Option FieldType} (hy : plainName y.cls = true) (hlen : (lg_sl av).length ≤ maxL)
    (body : ∀ (p : Program) (e : Env) (s : State) (m : MethodId) (below : List Frame) (meth : Method) (c : Code), p.tables.exec = Jvm.exec → c.code = cc → meth.sig.returnType = ret → c.maxLocals = maxL → s.vm.findClass y.cls = some m.cls → meth.locks = false → meth.name = y.name → (∀ w ∈ lw_g, w.before av.toArray s = true) → s.heap.size = sz → kH D cl d κ s.heap → va_K D cl tys s → ∀ ls : Array Slot, lv_has ls maxL (lv_args 0 av) →
      W p l e rm s m av.toArray below meth c s.heap [] 0 0 (MQ below Qc av.toArray s mc ms free) (F0 m 0 ls [])) : Met l y (Cond.code y cc maxL ret :: lw_g) rm (va_Pc av (kC D cl tys d κ sz)) Qc mc ms free := by
  refine Met.ofW (cc := cc) (maxL := maxL) (ret := ret) (ws' := lw_g) hy rfl ?_
  intro p e s m args below meth c s₁ B hml hv
  obtain ⟨rfl, hsz, hP, hK⟩ := hv
  have hl := lv_entry av (n := maxL) hlen
  rw [lg_entry_eq]
  exact body p e s m below meth c B.exec B.bytes B.returns hml (findClass_of_methodNamed B.named) B.notSynchronized (name_of_methodNamed B.named B.method).1 (fun w h => atoms_spec (ws := Cond.code y cc maxL ret :: lw_g) B.pre w (List.mem_cons_of_mem _ h)) hsz hP hK _ hl
end KM
section KR
variable {p : Program} {l : Launch} {e : Env} {R : Room} {s : State} {m : MethodId} {args : Array Value} {below : List Frame} {meth : Method} {c : Code} {H : Heap} {locs : List Loc} {cells slots : Nat} {Q : State → Prop}
variable {cc : ByteArray} {pc : Nat} {ls : Array Slot} {rest : List Value} {D : va_G} {cl : List vw_C} {d : Nat → Nat} {κ : Nat → Option va_E} {A : Nat → Prop} {tys : List (ClassId × FieldType)} {H0 : Heap}
theorem ka_get (hexec : p.tables.exec = Jvm.exec) (hb : c.code = cc) {own ref C : String} {T : u_T} {N ci index : Nat} {Ts : List Cond} (hts : ∀ w ∈ Ts, w.before args s = true) (hin : ∀ w ∈ u_ws C T N, w ∈ Ts) (hown : s.vm.findClass own = some m.cls) (hK : va_K D cl tys s) (hP : kH D cl d κ H) {q : Nat} {fs : List Value} (he : κ q = some (.inr (ci, fs))) (hc : cl[ci]? = some (C, T, N)) (k : Nat) (hk : k < N) (hlink : (Cond.fieldLink own index ref (T k).2.1 (T k).2.2.1).before args s = true) (hsame : ∀ x, s.fieldFound? (T k).1 (T k).2.1 (T k).2.2.1 = some x → s.fieldFound? ref (T k).2.1 (T k).2.2.1 = some x) {v : Value} (hv : fs[k]? = some v) (hdg : decode cc pc = .ok (.getfield index, 3))
    (kk : W p l e R s m args below meth c H locs cells slots Q (F0 m (pc + 3) ls (v :: rest))) : W p l e R s m args below meth c H locs cells slots Q (F0 m pc ls (.ref (d q) :: rest)) :=
  va_get hexec hb hts hin hown hK (hP.one he) 0 rfl hc k hk hlink hsame hv hdg kk
theorem ka_iald (hexec : p.tables.exec = Jvm.exec) (hb : c.code = cc) (hK : va_K D cl tys s) (hP : kH D cl d κ H) (t0 : Nat) {q : Nat} {cA : ClassId} {n : Nat} {f : Nat → Int32} (ha : κ q = some (.inl (cA, n, .inl f))) (ht : tys[t0]? = some (cA, .int)) {i : Int32} (hin : vp_in i n) (hdg : decode cc pc = .ok (.iaload, 1))
    (kk : W p l e R s m args below meth c H locs cells slots Q (F0 m (pc + 1) ls (.int (f i.toNatClampNeg) :: rest))) : W p l e R s m args below meth c H locs cells slots Q (F0 m pc ls (.int i :: .ref (d q) :: rest)) :=
  va_iald hexec hb hK (hP.one ha) 0 t0 rfl ht hin hdg kk
theorem ka_lald (hexec : p.tables.exec = Jvm.exec) (hb : c.code = cc) (hK : va_K D cl tys s) (hP : kH D cl d κ H) (t0 : Nat) {q : Nat} {cA : ClassId} {n : Nat} {f : Nat → Int64} (ha : κ q = some (.inl (cA, n, .inr (.inl f)))) (ht : tys[t0]? = some (cA, .long)) {i : Int32} (hin : vp_in i n) (hdg : decode cc pc = .ok (.laload, 1))
    (kk : W p l e R s m args below meth c H locs cells slots Q (F0 m (pc + 1) ls (.long (f i.toNatClampNeg) :: rest))) : W p l e R s m args below meth c H locs cells slots Q (F0 m pc ls (.int i :: .ref (d q) :: rest)) :=
  va_lald hexec hb hK (hP.one ha) 0 t0 rfl ht hin hdg kk
theorem ka_aldq (hexec : p.tables.exec = Jvm.exec) (hb : c.code = cc) (hK : va_K D cl tys s) (hP : kH D cl d κ H) (t0 : Nat) {q : Nat} {cA : ClassId} {C : String} {n : Nat} {f : Nat → Option Nat} (ha : κ q = some (.inl (cA, n, .inr (.inr (.inr (.inr f)))))) (ht : tys[t0]? = some (cA, .object C)) {i : Int32} (hin : vp_in i n) (hdg : decode cc pc = .ok (.aaload, 1))
    (kk : W p l e R s m args below meth c H locs cells slots Q (F0 m (pc + 1) ls (va_rf (f i.toNatClampNeg) :: rest))) : W p l e R s m args below meth c H locs cells slots Q (F0 m pc ls (.int i :: .ref (d q) :: rest)) :=
  va_aldq hexec hb hK (hP.one ha) 0 t0 rfl ht hin hdg kk
theorem ka_alen (hexec : p.tables.exec = Jvm.exec) (hb : c.code = cc) (hK : va_K D cl tys s) (hP : kH D cl d κ H) (t0 : Nat) {q : Nat} {cA : ClassId} {x : vp_A} (ha : κ q = some (.inl (cA, x))) {ty : FieldType} (ht : tys[t0]? = some (cA, ty)) {v : Int32} (hv : Int32.ofNat x.1 = v) (hdg : decode cc pc = .ok (.arraylength, 1))
    (kk : W p l e R s m args below meth c H locs cells slots Q (F0 m (pc + 1) ls (.int v :: rest))) : W p l e R s m args below meth c H locs cells slots Q (F0 m pc ls (.ref (d q) :: rest)) :=
  va_alen hexec hb hK (hP.one ha) 0 t0 rfl ht hv hdg kk
theorem ka_put (hexec : p.tables.exec = Jvm.exec) (hb : c.code = cc) {own ref C : String} {T : u_T} {N ci index : Nat} {Ts : List Cond} (hts : ∀ w ∈ Ts, w.before args s = true) (hin : ∀ w ∈ u_ws C T N, w ∈ Ts) (ty0 : Nat → FieldType) (hty : ∀ k, k < N → parseFieldDescriptor (T k).2.2.1 = some (ty0 k)) (hnm : ∀ a, a < N → ∀ b, b < N → a ≠ b → (T a).2.1 ≠ (T b).2.1) (hown : s.vm.findClass own = some m.cls) (hK : va_K D cl tys s) (hM : kW D cl d κ A H0 H locs) {q : Nat} {fs : List Value} (he : κ q = some (.inr (ci, fs))) (hc : cl[ci]? = some (C, T, N)) (k : Nat) (hk : k < N) (hlink : (Cond.fieldLink own index ref (T k).2.1 (T k).2.2.1).before args s = true) (hsame : ∀ x, s.fieldFound? (T k).1 (T k).2.1 (T k).2.2.1 = some x → s.fieldFound? ref (T k).2.1 (T k).2.2.1 = some x) (hfin : (T k).2.2.2 = false) {ty : FieldType} {v : Value} (hd : parseFieldDescriptor (T k).2.2.1 = some ty) (hn : narrow ty v = v) (hfit : fits ty v = true) (hl : k < fs.length)
    (hdg : decode cc pc = .ok (.putfield index, 3)) (kk : ∀ (H1 : Heap) (locs1 : List Loc), kW D cl d (va_up κ q (some (.inr (ci, fs.set k v)))) A H0 H1 locs1 → W p l e R s m args below meth c H1 locs1 cells slots Q (F0 m (pc + 3) ls rest)) : W p l e R s m args below meth c H locs cells slots Q (F0 m pc ls (v :: .ref (d q) :: rest)) := by
  have hap := va_apart (own := own) hts hin ty0 hty hnm hK hc
  obtain ⟨r, h1, cell, q1, q2, q3, q4⟩ := hM.1.1 q _ he
  have hr : r = (C, T, N) := Option.some.inj (h1.symm.trans hc)
  subst hr
  obtain ⟨hS, hfc, kC, hkC, hkind⟩ := hK.1 ci _ hc
  obtain ⟨cf, kf, fi, f, hi, hsl⟩ := hS k hk
  have hlay := hts _ (hin _ (u_in_lay hk))
  unfold u_lay at hlay
  rw [if_neg (by rw [hfin]; decide)] at hlay
  have hst := (u_facts hfc hkC (u_lays hts hin hk) hi).1
  have h6 := u_store hfc hkC hkind hlay hi hd hn hfit
  refine W.putK hexec hb (f := f) ⟨hown, hlink, ⟨_, _, _, hsame _ hi⟩, hst⟩ (by rw [q2]; exact h6) q1 q3 (by rw [hsl]; exact k2_hasslot (q4 k hk)) rfl rfl hdg fun H' e1 e2 e3 => ?_
  rw [hsl] at e1 ⊢
  exact kk H' _ (hM.set he ⟨_, hc, t_OB.to (V := updV (vp_V fs) k v) ⟨_, e1, q2, q3, t_set q4 hap hk v⟩ (fun j _ => vp_updV_set hl v j)⟩ e2 e3)
theorem ka_putF (hexec : p.tables.exec = Jvm.exec) (hb : c.code = cc) {own ref C : String} {T : u_T} {N ci index : Nat} {Ts : List Cond} (hts : ∀ w ∈ Ts, w.before args s = true) (hin : ∀ w ∈ u_ws C T N, w ∈ Ts) (ty0 : Nat → FieldType) (hty : ∀ k, k < N → parseFieldDescriptor (T k).2.2.1 = some (ty0 k)) (hnm : ∀ a, a < N → ∀ b, b < N → a ≠ b → (T a).2.1 ≠ (T b).2.1) (hown : s.vm.findClass own = some m.cls) (hK : va_K D cl tys s) (hM : kW D cl d κ A H0 H locs) {q : Nat} {fs : List Value} (he : κ q = some (.inr (ci, fs))) (hc : cl[ci]? = some (C, T, N)) (k : Nat) (hk : k < N) (hlink : (Cond.fieldLink own index ref (T k).2.1 (T k).2.2.1).before args s = true) (hsame : ∀ x, s.fieldFound? (T k).1 (T k).2.1 (T k).2.2.1 = some x → s.fieldFound? ref (T k).2.1 (T k).2.2.1 = some x) (hfin : (T k).2.2.2 = true) (hin2 : meth.name = "<init>") (hdecl : (T k).1 = own) {ty : FieldType} {v : Value} (hd : parseFieldDescriptor (T k).2.2.1 = some ty) (hn : narrow ty v = v) (hfit : fits ty v = true) (hl : k < fs.length)
    (hdg : decode cc pc = .ok (.putfield index, 3)) (kk : ∀ (H1 : Heap) (locs1 : List Loc), kW D cl d (va_up κ q (some (.inr (ci, fs.set k v)))) A H0 H1 locs1 → W p l e R s m args below meth c H1 locs1 cells slots Q (F0 m (pc + 3) ls rest)) : W p l e R s m args below meth c H locs cells slots Q (F0 m pc ls (v :: .ref (d q) :: rest)) := by
  have hap := va_apart (own := own) hts hin ty0 hty hnm hK hc
  obtain ⟨r, h1, cell, q1, q2, q3, q4⟩ := hM.1.1 q _ he
  have hr : r = (C, T, N) := Option.some.inj (h1.symm.trans hc)
  subst hr
  obtain ⟨hS, hfc, kC, hkC, hkind⟩ := hK.1 ci _ hc
  obtain ⟨cf, kf, fi, f, hi, hsl⟩ := hS k hk
  have hlay := hts _ (hin _ (u_in_lay hk))
  unfold u_lay at hlay
  rw [if_pos hfin] at hlay
  have hst := (u_facts hfc hkC (u_lays hts hin hk) hi).1
  have hcf : m.cls = cf := by
    obtain ⟨_, _, c', _, _, _, -, -, hf', -, -, -, hown2, -⟩ := Cond.laysFinal_spec hlay
    have e1 : c' = cf := by have := hi.symm.trans hf'; simp at this; exact this.1.symm
    rw [hdecl] at hown2
    rw [← e1]; exact Option.some.inj (hown.symm.trans hown2)
  have h6 := u_fits hfc hkC hkind (Or.inr hlay) hi hd hn hfit
  refine W.putFinK hexec hb hown hlink (hsame _ hi) hst hcf hin2 (by rw [q2]; exact h6) q1 q3 (by rw [hsl]; exact k2_hasslot (q4 k hk)) rfl rfl hdg fun H' e1 e2 e3 => ?_
  rw [hsl] at e1 ⊢
  exact kk H' _ (hM.set he ⟨_, hc, t_OB.to (V := updV (vp_V fs) k v) ⟨_, e1, q2, q3, t_set q4 hap hk v⟩ (fun j _ => vp_updV_set hl v j)⟩ e2 e3)
theorem ka_iast (hexec : p.tables.exec = Jvm.exec) (hb : c.code = cc) (hK : va_K D cl tys s) (hM : kW D cl d κ A H0 H locs) (t0 : Nat) {q : Nat} {cA : ClassId} {n : Nat} {f : Nat → Int32} (ha : κ q = some (.inl (cA, n, .inl f))) (ht : tys[t0]? = some (cA, .int)) {i : Int32} {x : Int32} (hin : vp_in i n) (hdg : decode cc pc = .ok (.iastore, 1))
    (kk : ∀ (H1 : Heap) (locs1 : List Loc), kW D cl d (va_up κ q (some (.inl (cA, n, .inl (va_up f i.toNatClampNeg x))))) A H0 H1 locs1 → W p l e R s m args below meth c H1 locs1 cells slots Q (F0 m (pc + 1) ls rest)) : W p l e R s m args below meth c H locs cells slots Q (F0 m pc ls (.int x :: .int i :: .ref (d q) :: rest)) := by
  refine W.iast hexec hb (hM.1.1 q _ ha) ((hK.2 t0 _ ht).1 n (fun j => .int (f j))) (fun q => by cases q) (by show ¬ (i < 0 ∨ (arrV _ _ _).slots.size ≤ _); rw [arrV_size]; exact hin) rfl rfl hdg fun H1 e z oq => ?_
  refine kk H1 _ (hM.set ha ?_ z oq)
  show H1[d q]? = some (vp_cell _ _)
  rw [e]
  rw [vp_cell_i, vp_cell_i, arrV_store]
  congr 2
  funext q
  by_cases hq : q = i.toNatClampNeg
  · subst hq
    simp [updV, va_up]
  · simp [updV, va_up, hq]
theorem ka_last (hexec : p.tables.exec = Jvm.exec) (hb : c.code = cc) (hK : va_K D cl tys s) (hM : kW D cl d κ A H0 H locs) (t0 : Nat) {q : Nat} {cA : ClassId} {n : Nat} {f : Nat → Int64} (ha : κ q = some (.inl (cA, n, .inr (.inl f)))) (ht : tys[t0]? = some (cA, .long)) {i : Int32} {x : Int64} (hin : vp_in i n) (hdg : decode cc pc = .ok (.lastore, 1))
    (kk : ∀ (H1 : Heap) (locs1 : List Loc), kW D cl d (va_up κ q (some (.inl (cA, n, .inr (.inl (va_up f i.toNatClampNeg x)))))) A H0 H1 locs1 → W p l e R s m args below meth c H1 locs1 cells slots Q (F0 m (pc + 1) ls rest)) : W p l e R s m args below meth c H locs cells slots Q (F0 m pc ls (.long x :: .int i :: .ref (d q) :: rest)) := by
  refine W.last hexec hb (hM.1.1 q _ ha) ((hK.2 t0 _ ht).1 n (fun j => .long (f j))) (fun q => by cases q) (by show ¬ (i < 0 ∨ (arrV _ _ _).slots.size ≤ _); rw [arrV_size]; exact hin) rfl rfl hdg fun H1 e z oq => ?_
  refine kk H1 _ (hM.set ha ?_ z oq)
  show H1[d q]? = some (vp_cell _ _)
  rw [e]
  rw [vp_cell_l, vp_cell_l, arrV_store]
  congr 2
  funext q
  by_cases hq : q = i.toNatClampNeg
  · subst hq
    simp [updV, va_up]
  · simp [updV, va_up, hq]
theorem ka_astq (hexec : p.tables.exec = Jvm.exec) (hb : c.code = cc) (hK : va_K D cl tys s) (hM : kW D cl d κ A H0 H locs) (t0 ci : Nat) {q qk : Nat} {cA : ClassId} {r : vw_C} {n : Nat} {vs : List Value} {f : Nat → Option Nat} (ha : κ q = some (.inl (cA, n, .inr (.inr (.inr (.inr f)))))) (ht : tys[t0]? = some (cA, .object r.1)) (hv : κ qk = some (.inr (ci, vs))) (hc : cl[ci]? = some r) {i : Int32} (hin : vp_in i n) (hdg : decode cc pc = .ok (.aastore, 1))
    (kk : ∀ (H1 : Heap) (locs1 : List Loc), kW D cl d (va_up κ q (some (.inl (cA, n, .inr (.inr (.inr (.inr (va_up f i.toNatClampNeg (some (d qk)))))))))) A H0 H1 locs1 → W p l e R s m args below meth c H1 locs1 cells slots Q (F0 m (pc + 1) ls rest)) : W p l e R s m args below meth c H locs cells slots Q (F0 m pc ls (.ref (d qk) :: .int i :: .ref (d q) :: rest)) := by
  have hlt : i.toNatClampNeg < n := Nat.not_le.mp fun q => hin (Or.inr q)
  have h0 : ¬ i < 0 := fun q => hin (Or.inl q)
  obtain ⟨r', hr', cellV, g1, g2, g3, -⟩ := hM.1.1 qk _ hv
  have hcls := (hK.1 ci r hc).2
  obtain ⟨kA, comp, k1, k2, k3, -⟩ := (hK.2 t0 _ ht).2
  have hcomp : comp = D.1 ci := Option.some.inj (k3.symm.trans hcls.1)
  subst hcomp
  obtain ⟨kC, hkC, -⟩ := hcls.2
  refine W.aast hexec hb (hM.1.1 q _ ha) (fun q h => by cases h) (fun h => by cases h) k1 k2 rfl hkC ⟨h0, by show _ < (arrV _ _ _).slots.size; rw [arrV_size]; exact hlt⟩ g1 (fun q h => by rw [g3] at h; cases h) (by rw [g2]; exact hkC) (by rw [g2]; exact va_assign hcls) rfl rfl hdg fun H1 e z oq => ?_
  refine kk H1 _ (hM.set ha ?_ z oq)
  show H1[d q]? = some (vp_cell _ _)
  rw [e]
  rw [vp_cell_q, vp_cell_q, arrV_store]
  congr 2
  funext q
  by_cases hq : q = i.toNatClampNeg
  · subst hq
    simp [updV, va_up, va_rf]
  · simp [updV, va_up, hq]
/-- a new object under the key q -/
theorem ka_new {c0 : Code} (hexec : p.tables.exec = Jvm.exec) (hb : c0.code = cc) {own C : String} {T : u_T} {N ci index : Nat} {Ts : List Cond} (hts : ∀ w ∈ Ts, w.before args s = true) (hin : ∀ w ∈ u_ws C T N, w ∈ Ts) (ty : Nat → FieldType) (hty : ∀ k, k < N → parseFieldDescriptor (T k).2.2.1 = some (ty k)) (hown : s.vm.findClass own = some m.cls) (hcl : (Cond.classLink own index C).before args s = true) (hinst : (Cond.instantiable C N).before args s = true) (hini : (Cond.initialized C).before args s = true)
    (hK : va_K D cl tys s) (hM : kW D cl d κ A H0 H locs) (hA : ∀ q, H0.size ≤ q → A q) (q : Nat) (hq : κ q = none) (hc : cl[ci]? = some (C, T, N)) {fs : List Value} (hfs : ∀ j, j < N → defaultValue (ty j) = vp_V fs j) (hcells : cells + 1 ≤ R.cells) (hslots : slots + N ≤ R.slots) (hdg : decode cc pc = .ok (.new index, 3))
    (kk : ∀ (a : Nat) (H1 : Heap), kW D cl (va_up d q a) (va_up κ q (some (.inr (ci, fs)))) A H0 H1 locs →
      W p l e R s m args below meth c0 H1 locs (cells + 1) (slots + N) Q (F0 m (pc + 3) ls (.ref a :: rest))) : W p l e R s m args below meth c0 H locs cells slots Q (F0 m pc ls rest) := by
  have hKn := hK.1 ci _ hc
  refine W.newcK hexec hb hown hcl hinst hini rfl hdg hcells hslots hKn.2.1 rfl fun H1 kC hkC e1 z1 o1 => ?_
  exact kk H.size H1 (hM.new hA hq ⟨_, hc, (u_born ty hts hin hKn hkC e1 hty).to hfs⟩ (by omega) o1)
/-- a new array of longs or ints under the key q; its class is the one that the table has -/
theorem ka_newa (hexec : p.tables.exec = Jvm.exec) (hb : c.code = cc) {atype : ArrayType} (harr : (Cond.arrayClass (newarray.typeOf atype)).before args s = true) {ty : FieldType} (hty : newarray.typeOf atype = ty) (hK : va_K D cl tys s) (t0 : Nat) {cA : ClassId} (ht : tys[t0]? = some (cA, ty)) (hnm : ∀ cB : ClassId, va_RA s cB ty → s.vm.findClass ("[" ++ ty.toString) = some cB) (hM : kW D cl d κ A H0 H locs) (hA : ∀ q, H0.size ≤ q → A q) (q : Nat) (hq : κ q = none)
    {n : Int32} {N' : Nat} {a0 : vp_A} (ha : ∀ cA : ClassId, vp_cell cA a0 = arrV cA N' (fun _ => defaultValue ty)) (hn : ¬ n < 0) (hN : n.toNatClampNeg = N') (hbytes : N' * componentBytes ty ≤ 536870912) (hcells : cells + 1 ≤ R.cells) (hslots : slots + N' ≤ R.slots) (hdg : decode cc pc = .ok (.newarray atype, 2))
    (kk : ∀ (a : Nat) (H1 : Heap), kW D cl (va_up d q a) (va_up κ q (some (.inl (cA, a0)))) A H0 H1 locs →
      W p l e R s m args below meth c H1 locs (cells + 1) (slots + N') Q (F0 m (pc + 2) ls (.ref a :: rest))) : W p l e R s m args below meth c H locs cells slots Q (F0 m pc ls (.int n :: rest)) := by
  subst hty
  refine va_newaK hexec hb harr rfl hdg rfl hn hN hbytes hcells hslots rfl fun H1 cB e1 z1 o1 hAr hNm => ?_
  have hcc : cB = cA := Option.some.inj (hNm.symm.trans (hnm cA (hK.2 t0 _ ht).2))
  subst hcc
  refine kk H.size H1 (hM.new hA hq ?_ (by omega) o1)
  show H1[H.size]? = some (vp_cell _ _)
  rw [ha]
  exact e1
end KR
/-! a writer's end: the answer, the new map, where its cells lie -/
def kQi (D : va_G) (cl : List vw_C) (A : Nat → Prop) (post : Int32 → (Nat → Nat) → (Nat → Option va_E) → Prop) : Array Value → State → Outcome → State → Prop := fun _ st oc t => ∃ (r : Int32) (d' : Nat → Nat) (κ' : Nat → Option va_E), oc = .returned (some (.int r)) ∧ post r d' κ' ∧ kH D cl d' κ' t.heap ∧ (∀ (k : Nat) (e : va_E), κ' k = some e → A (d' k)) ∧ va_F A st t
def kQv (D : va_G) (cl : List vw_C) (A : Nat → Prop) (post : (Nat → Nat) → (Nat → Option va_E) → Prop) : Array Value → State → Outcome → State → Prop := fun _ st oc t => ∃ (d' : Nat → Nat) (κ' : Nat → Option va_E), oc = .returned none ∧ post d' κ' ∧ kH D cl d' κ' t.heap ∧ (∀ (k : Nat) (e : va_E), κ' k = some e → A (d' k)) ∧ va_F A st t
section KQ
variable {p : Program} {l : Launch} {e : Env} {R : Room} {s : State} {m : MethodId} {args : Array Value} {below : List Frame} {meth : Method} {c : Code} {H : Heap} {locs : List Loc} {cells slots : Nat} {Q : State → Prop}
variable {pc : Nat} {ls : Array Slot} {rest st0 : List Value} {D : va_G} {cl : List vw_C} {d : Nat → Nat} {κ : Nat → Option va_E} {A : Nat → Prop} {H0 : Heap} {a : Array Value} {mc ms : Nat}
theorem ka_join {d' : Nat → Nat} {κ' : Nat → Option va_E} {H1 : Heap} {L : List Loc} (hM : kW D cl d κ A H0 H locs) (hA : ∀ q, H0.size ≤ q → A q) (h1 : kH D cl d' κ' H1) (h2 : ∀ (k : Nat) (e : va_E), κ' k = some e → kA d κ H.size (d' k)) (hz : H.size ≤ H1.size) (hk : ∀ q : Nat, q < H.size → ¬ kA d κ H.size q → H1[q]? = H[q]?) (hL : ∀ q ∈ L, kA d κ H.size q.base) : kW D cl d' κ' A H0 H1 (locs ++ L) := by
  have up : ∀ q, kA d κ H.size q → A q := by
    intro q h
    rcases h with ⟨k, e, h3, h4⟩ | h
    · rw [← h4]; exact hM.2.1 k e h3
    · exact hA q (Nat.le_trans hM.2.2.1 h)
  refine ⟨h1, fun k e hk2 => up _ (h2 k e hk2), Nat.le_trans hM.2.2.1 hz, fun q g1 g2 => ?_, fun q hq => ?_⟩
  · rw [hk q (Nat.lt_of_lt_of_le g1 hM.2.2.1) (fun z => g2 (up q z))]
    exact hM.2.2.2.1 q g1 g2
  · rcases List.mem_append.mp hq with h | h
    · exact hM.2.2.2.2 q h
    · exact up _ (hL q h)
theorem ka_calli {post : Int32 → (Nat → Nat) → (Nat → Option va_E) → Prop} (hr : CallRun p l e R s m args below meth c H locs cells slots mc ms (F0 m pc ls st0) rest (kQi D cl (kA d κ H.size) post a) (kA d κ H.size)) (hM : kW D cl d κ A H0 H locs) (hA : ∀ q, H0.size ≤ q → A q)
    (kk : ∀ (r : Int32) (d' : Nat → Nat) (κ' : Nat → Option va_E) (H1 : Heap) (locs1 : List Loc), post r d' κ' → kW D cl d' κ' A H0 H1 locs1 → W p l e R s m args below meth c H1 locs1 (cells + mc) (slots + ms) Q (F0 m (pc + 3) ls (.int r :: rest))) : W p l e R s m args below meth c H locs cells slots Q (F0 m pc ls st0) := by
  intro T hT X
  obtain ⟨v, st₀, t, T', L, h0, X', hL, e1, ⟨r, d', κ', hv, hp, h1, h2, hz, hk⟩, st⟩ := hr T hT X
  cases hv
  rw [h0] at hz hk
  obtain ⟨t2, a1, b1⟩ := kk r d' κ' T'.heap (locs ++ L) hp (ka_join hM hA (by rw [e1]; exact h1) h2 (by rw [e1]; exact hz) (fun q g1 g2 => by rw [e1]; exact hk q g1 g2) hL) T' rfl X'
  exact ⟨t2, st t2 a1, b1⟩
theorem ka_callv {post : (Nat → Nat) → (Nat → Option va_E) → Prop} (hr : CallRun p l e R s m args below meth c H locs cells slots mc ms (F0 m pc ls st0) rest (kQv D cl (kA d κ H.size) post a) (kA d κ H.size)) (hM : kW D cl d κ A H0 H locs) (hA : ∀ q, H0.size ≤ q → A q)
    (kk : ∀ (d' : Nat → Nat) (κ' : Nat → Option va_E) (H1 : Heap) (locs1 : List Loc), post d' κ' → kW D cl d' κ' A H0 H1 locs1 → W p l e R s m args below meth c H1 locs1 (cells + mc) (slots + ms) Q (F0 m (pc + 3) ls rest)) : W p l e R s m args below meth c H locs cells slots Q (F0 m pc ls st0) := by
  intro T hT X
  obtain ⟨v, st₀, t, T', L, h0, X', hL, e1, ⟨d', κ', hv, hp, h1, h2, hz, hk⟩, st⟩ := hr T hT X
  cases hv
  rw [h0] at hz hk
  obtain ⟨t2, a1, b1⟩ := kk d' κ' T'.heap (locs ++ L) hp (ka_join hM hA (by rw [e1]; exact h1) h2 (by rw [e1]; exact hz) (fun q g1 g2 => by rw [e1]; exact hk q g1 g2) hL) T' rfl X'
  exact ⟨t2, st t2 a1, b1⟩
end KQ
theorem kQi.of {D : va_G} {cl : List vw_C} {A : Nat → Prop} {post : Int32 → (Nat → Nat) → (Nat → Option va_E) → Prop} {d : Nat → Nat} {κ : Nat → Option va_E} {a : Array Value} {s t : State} {H : Heap} {locs : List Loc} {r : Int32} (hM : kW D cl d κ A s.heap H locs) (ht : t.heap = H) (hp : post r d κ) : kQi D cl A post a s (.returned (some (.int r))) t :=
  ⟨r, d, κ, rfl, hp, by rw [ht]; exact hM.1, hM.2.1, hM.2.2.F ht⟩
theorem kQv.of {D : va_G} {cl : List vw_C} {A : Nat → Prop} {post : (Nat → Nat) → (Nat → Option va_E) → Prop} {d : Nat → Nat} {κ : Nat → Option va_E} {a : Array Value} {s t : State} {H : Heap} {locs : List Loc} (hM : kW D cl d κ A s.heap H locs) (ht : t.heap = H) (hp : post d κ) : kQv D cl A post a s (.returned none) t :=
  ⟨d, κ, rfl, hp, by rw [ht]; exact hM.1, hM.2.1, hM.2.2.F ht⟩
end
section
/-! rows of two instructions, joins and loops -/
section KL
variable {p : Program} {l : Launch} {e : Env} {R : Room} {s : State} {m : MethodId} {args : Array Value} {below : List Frame} {meth : Method} {c : Code} {H : Heap} {locs : List Loc} {cells slots : Nat} {Q : State → Prop}
variable {cc : ByteArray} {pc : Nat} {ls : Array Slot} {rest st : List Value}
theorem kl_lt (hexec : p.tables.exec = Jvm.exec) (hb : c.code = cc) {x y : Int64} {off : Int} {tgt : Nat} (hdg : decode cc pc = .ok (.lcmp, 1)) (hdg2 : decode cc (pc + 1) = .ok (.ifCond .lt off, 3)) (ht : ((pc + 1 : Nat) : Int) + off = (tgt : Int)) (kt : x < y → W p l e R s m args below meth c H locs cells slots Q (F0 m tgt ls rest)) (kf : ¬ x < y → W p l e R s m args below meth c H locs cells slots Q (F0 m (pc + 1 + 3) ls rest)) : W p l e R s m args below meth c H locs cells slots Q (F0 m pc ls (.long y :: .long x :: rest)) :=
  W.lcmp hexec hb hdg (lv_if_lt hexec hb hdg2 ht (fun h => kt ((lg_cmp_lt x y).mp h)) (fun h => kf (fun q => h ((lg_cmp_lt x y).mpr q))))
theorem kl_ge (hexec : p.tables.exec = Jvm.exec) (hb : c.code = cc) {x y : Int64} {off : Int} {tgt : Nat} (hdg : decode cc pc = .ok (.lcmp, 1)) (hdg2 : decode cc (pc + 1) = .ok (.ifCond .ge off, 3)) (ht : ((pc + 1 : Nat) : Int) + off = (tgt : Int)) (kt : ¬ x < y → W p l e R s m args below meth c H locs cells slots Q (F0 m tgt ls rest)) (kf : x < y → W p l e R s m args below meth c H locs cells slots Q (F0 m (pc + 1 + 3) ls rest)) : W p l e R s m args below meth c H locs cells slots Q (F0 m pc ls (.long y :: .long x :: rest)) :=
  W.lcmp hexec hb hdg (lv_if_ge hexec hb hdg2 ht (fun h => kt (Int64.not_lt.mpr ((lg_cmp_ge x y).mp h))) (fun h => kf (Int64.not_le.mp (fun q => h ((lg_cmp_ge x y).mpr q)))))
theorem kl_gt (hexec : p.tables.exec = Jvm.exec) (hb : c.code = cc) {x y : Int64} {off : Int} {tgt : Nat} (hdg : decode cc pc = .ok (.lcmp, 1)) (hdg2 : decode cc (pc + 1) = .ok (.ifCond .gt off, 3)) (ht : ((pc + 1 : Nat) : Int) + off = (tgt : Int)) (kt : y < x → W p l e R s m args below meth c H locs cells slots Q (F0 m tgt ls rest)) (kf : ¬ y < x → W p l e R s m args below meth c H locs cells slots Q (F0 m (pc + 1 + 3) ls rest)) : W p l e R s m args below meth c H locs cells slots Q (F0 m pc ls (.long y :: .long x :: rest)) :=
  W.lcmp hexec hb hdg (lv_if_gt hexec hb hdg2 ht (fun h => kt ((lg_cmp_gt x y).mp h)) (fun h => kf (fun q => h ((lg_cmp_gt x y).mpr q))))
theorem kl_le (hexec : p.tables.exec = Jvm.exec) (hb : c.code = cc) {x y : Int64} {off : Int} {tgt : Nat} (hdg : decode cc pc = .ok (.lcmp, 1)) (hdg2 : decode cc (pc + 1) = .ok (.ifCond .le off, 3)) (ht : ((pc + 1 : Nat) : Int) + off = (tgt : Int)) (kt : ¬ y < x → W p l e R s m args below meth c H locs cells slots Q (F0 m tgt ls rest)) (kf : y < x → W p l e R s m args below meth c H locs cells slots Q (F0 m (pc + 1 + 3) ls rest)) : W p l e R s m args below meth c H locs cells slots Q (F0 m pc ls (.long y :: .long x :: rest)) :=
  W.lcmp hexec hb hdg (lv_if_le hexec hb hdg2 ht (fun h => kt (Int64.not_lt.mpr ((lg_cmp_le x y).mp h))) (fun h => kf (Int64.not_le.mp (fun q => h ((lg_cmp_le x y).mpr q)))))
theorem kl_eq (hexec : p.tables.exec = Jvm.exec) (hb : c.code = cc) {x y : Int64} {off : Int} {tgt : Nat} (hdg : decode cc pc = .ok (.lcmp, 1)) (hdg2 : decode cc (pc + 1) = .ok (.ifCond .eq off, 3)) (ht : ((pc + 1 : Nat) : Int) + off = (tgt : Int)) (kt : x = y → W p l e R s m args below meth c H locs cells slots Q (F0 m tgt ls rest)) (kf : ¬ x = y → W p l e R s m args below meth c H locs cells slots Q (F0 m (pc + 1 + 3) ls rest)) : W p l e R s m args below meth c H locs cells slots Q (F0 m pc ls (.long y :: .long x :: rest)) :=
  W.lcmp hexec hb hdg (lv_if_eq hexec hb hdg2 ht (fun h => kt ((lg_cmp_eq x y).mp h)) (fun h => kf (fun q => h ((lg_cmp_eq x y).mpr q))))
theorem kl_ne (hexec : p.tables.exec = Jvm.exec) (hb : c.code = cc) {x y : Int64} {off : Int} {tgt : Nat} (hdg : decode cc pc = .ok (.lcmp, 1)) (hdg2 : decode cc (pc + 1) = .ok (.ifCond .ne off, 3)) (ht : ((pc + 1 : Nat) : Int) + off = (tgt : Int)) (kt : ¬ x = y → W p l e R s m args below meth c H locs cells slots Q (F0 m tgt ls rest)) (kf : x = y → W p l e R s m args below meth c H locs cells slots Q (F0 m (pc + 1 + 3) ls rest)) : W p l e R s m args below meth c H locs cells slots Q (F0 m pc ls (.long y :: .long x :: rest)) :=
  W.lcmp hexec hb hdg (lv_if_ne hexec hb hdg2 ht (fun h => kt (fun q => h ((lg_cmp_eq x y).mpr q))) (fun h => kf ((lg_cmp_eq x y).mp h)))
/-- a place where roads meet, an int on top -/
theorem k_join {pcJ : Nat} {t : Int32} (kk : ∀ z : Int32, z = t → W p l e R s m args below meth c H locs cells slots Q (F0 m pcJ ls (.int z :: rest))) (h : W p l e R s m args below meth c H locs cells slots Q (F0 m pcJ ls (.int t :: rest)) → W p l e R s m args below meth c H locs cells slots Q (F0 m pc ls st)) : W p l e R s m args below meth c H locs cells slots Q (F0 m pc ls st) := h (kk t rfl)
/-- a loop that writes nothing -/
theorem k_rec {σ : Type} (I : Nat → σ → Array Slot → Prop) (n : Nat) (a : σ) (hI : I n a ls) (step : ∀ (n : Nat) (a : σ) (ls : Array Slot), I n a ls → (∀ (n' : Nat) (a' : σ) (ls' : Array Slot), n' < n → I n' a' ls' → W p l e R s m args below meth c H locs cells slots Q (F0 m pc ls' st)) → W p l e R s m args below meth c H locs cells slots Q (F0 m pc ls st)) : W p l e R s m args below meth c H locs cells slots Q (F0 m pc ls st) := by
  have key : ∀ (k n : Nat), n < k → ∀ (a : σ) (ls : Array Slot), I n a ls → W p l e R s m args below meth c H locs cells slots Q (F0 m pc ls st) := by
    intro k
    induction k with
    | zero => intro n h; omega
    | succ k ih =>
      intro n hn a ls hI
      exact step n a ls hI (fun n' a' ls' hlt hI' => ih n' (by omega) a' ls' hI')
  exact key (n + 1) n (by omega) a ls hI
/-- a loop that writes -/
theorem k_recW {σ : Type} (I : Nat → σ → Heap → List Loc → Array Slot → Prop) (n : Nat) (a : σ) (hI : I n a H locs ls) (step : ∀ (n : Nat) (a : σ) (H : Heap) (locs : List Loc) (ls : Array Slot), I n a H locs ls → (∀ (n' : Nat) (a' : σ) (H' : Heap) (locs' : List Loc) (ls' : Array Slot), n' < n → I n' a' H' locs' ls' → W p l e R s m args below meth c H' locs' cells slots Q (F0 m pc ls' st)) → W p l e R s m args below meth c H locs cells slots Q (F0 m pc ls st)) : W p l e R s m args below meth c H locs cells slots Q (F0 m pc ls st) := by
  have key : ∀ (k n : Nat), n < k → ∀ (a : σ) (H : Heap) (locs : List Loc) (ls : Array Slot), I n a H locs ls → W p l e R s m args below meth c H locs cells slots Q (F0 m pc ls st) := by
    intro k
    induction k with
    | zero => intro n h; omega
    | succ k ih =>
      intro n hn a H locs ls hI
      exact step n a H locs ls hI (fun n' a' H' locs' ls' hlt hI' => ih n' (by omega) a' H' locs' ls' hI')
  exact key (n + 1) n (by omega) a H locs ls hI
end KL
theorem k_nar0 : narrow .boolean (.int 0) = .int 0 := by decide +kernel
theorem k_nar1 : narrow .boolean (.int 1) = .int 1 := by decide +kernel
theorem k_nar {v : Int32} (h : v = 0 ∨ v = 1) : narrow .boolean (.int v) = .int v := by
  rcases h with rfl | rfl
  · exact k_nar0
  · exact k_nar1
end
section
abbrev MS : Type := (Nat → Nat) × Int32 × (Nat → Nat → Int32) × (Nat → Nat → Int64)
def mN (m : MS) (j v : Nat) : MS := (va_up m.1 j v, m.2)
def mM (m : MS) (v : Int32) : MS := (m.1, v, m.2.2)
def mI (m : MS) (j : Nat) (f : Nat → Int32) : MS := (m.1, m.2.1, va_up m.2.2.1 j f, m.2.2.2)
def mL (m : MS) (j : Nat) (f : Nat → Int64) : MS := (m.1, m.2.1, m.2.2.1, va_up m.2.2.2 j f)
def IsM (cI cL : ClassId) (d : Nat → Nat) (κ : Nat → Option va_E) (m : MS) : Prop := κ 0 = some (.inr (4, [.int (nI (m.1 0)), .int (nI (m.1 1)), .int (nI (m.1 2)), .int (m.2.1), .ref (d 1), .ref (d 2), .ref (d 3), .int (nI (m.1 3)), .ref (d 4), .ref (d 5), .int (nI (m.1 4)), .ref (d 6), .ref (d 7), .ref (d 8), .int (nI (m.1 5)), .ref (d 9), .ref (d 10), .int (nI (m.1 6)), .ref (d 11), .ref (d 12), .ref (d 13), .int (nI (m.1 7)), .ref (d 14), .ref (d 15), .ref (d 16), .ref (d 17)])) ∧ κ 1 = some (.inl (cI, 64, .inl (m.2.2.1 0))) ∧ κ 2 = some (.inl (cL, 64, .inr (.inl (m.2.2.2 0)))) ∧ κ 3 = some (.inl (cI, 64, .inl (m.2.2.1 1))) ∧ κ 4 = some (.inl (cI, 1040, .inl (m.2.2.1 2))) ∧ κ 5 = some (.inl (cL, 1040, .inr (.inl (m.2.2.2 1)))) ∧ κ 6 = some (.inl (cI, 520, .inl (m.2.2.1 3))) ∧ κ 7 = some (.inl (cI, 520, .inl (m.2.2.1 4))) ∧ κ 8 = some (.inl (cL, 520, .inr (.inl (m.2.2.2 2)))) ∧ κ 9 = some (.inl (cI, 520, .inl (m.2.2.1 5))) ∧ κ 10 = some (.inl (cL, 520, .inr (.inl (m.2.2.2 3)))) ∧ κ 11 = some (.inl (cI, 41, .inl (m.2.2.1 6))) ∧ κ 12 = some (.inl (cI, 41, .inl (m.2.2.1 7))) ∧ κ 13 = some (.inl (cL, 41, .inr (.inl (m.2.2.2 4)))) ∧ κ 14 = some (.inl (cI, 4, .inl (m.2.2.1 8))) ∧ κ 15 = some (.inl (cI, 4, .inl (m.2.2.1 9))) ∧ κ 16 = some (.inl (cI, 4, .inl (m.2.2.1 10))) ∧ κ 17 = some (.inl (cL, 4, .inr (.inl (m.2.2.2 5))))
/-- the reference's part of the map, and the rest as it was -/
def MW (cI cL : ClassId) (κ0 : Nat → Option va_E) (d : Nat → Nat) (κ : Nat → Option va_E) (m : MS) : Prop := IsM cI cL d κ m ∧ ∀ k : Nat, 18 ≤ k → κ k = κ0 k
section MSet
variable {cI cL : ClassId} {κ0 κ : Nat → Option va_E} {d : Nat → Nat} {m : MS}
theorem mw_participants (v : Nat) (h : MW cI cL κ0 d κ m) : MW cI cL κ0 d (va_up κ 0 (some (.inr (4, [.int (nI v), .int (nI (m.1 1)), .int (nI (m.1 2)), .int (m.2.1), .ref (d 1), .ref (d 2), .ref (d 3), .int (nI (m.1 3)), .ref (d 4), .ref (d 5), .int (nI (m.1 4)), .ref (d 6), .ref (d 7), .ref (d 8), .int (nI (m.1 5)), .ref (d 9), .ref (d 10), .int (nI (m.1 6)), .ref (d 11), .ref (d 12), .ref (d 13), .int (nI (m.1 7)), .ref (d 14), .ref (d 15), .ref (d 16), .ref (d 17)])))) (mN m 0 v) :=
  ⟨⟨va_up_self _ _ _, (va_up_ne _ _ (by decide)).trans h.1.2.1, (va_up_ne _ _ (by decide)).trans h.1.2.2.1, (va_up_ne _ _ (by decide)).trans h.1.2.2.2.1, (va_up_ne _ _ (by decide)).trans h.1.2.2.2.2.1, (va_up_ne _ _ (by decide)).trans h.1.2.2.2.2.2.1, (va_up_ne _ _ (by decide)).trans h.1.2.2.2.2.2.2.1, (va_up_ne _ _ (by decide)).trans h.1.2.2.2.2.2.2.2.1, (va_up_ne _ _ (by decide)).trans h.1.2.2.2.2.2.2.2.2.1, (va_up_ne _ _ (by decide)).trans h.1.2.2.2.2.2.2.2.2.2.1, (va_up_ne _ _ (by decide)).trans h.1.2.2.2.2.2.2.2.2.2.2.1, (va_up_ne _ _ (by decide)).trans h.1.2.2.2.2.2.2.2.2.2.2.2.1, (va_up_ne _ _ (by decide)).trans h.1.2.2.2.2.2.2.2.2.2.2.2.2.1, (va_up_ne _ _ (by decide)).trans h.1.2.2.2.2.2.2.2.2.2.2.2.2.2.1, (va_up_ne _ _ (by decide)).trans h.1.2.2.2.2.2.2.2.2.2.2.2.2.2.2.1, (va_up_ne _ _ (by decide)).trans h.1.2.2.2.2.2.2.2.2.2.2.2.2.2.2.2.1, (va_up_ne _ _ (by decide)).trans h.1.2.2.2.2.2.2.2.2.2.2.2.2.2.2.2.2.1, (va_up_ne _ _ (by decide)).trans h.1.2.2.2.2.2.2.2.2.2.2.2.2.2.2.2.2.2⟩, fun k hk => (va_up_ne _ _ (by omega)).trans (h.2 k hk)⟩
theorem mw_width (v : Nat) (h : MW cI cL κ0 d κ m) : MW cI cL κ0 d (va_up κ 0 (some (.inr (4, [.int (nI (m.1 0)), .int (nI v), .int (nI (m.1 2)), .int (m.2.1), .ref (d 1), .ref (d 2), .ref (d 3), .int (nI (m.1 3)), .ref (d 4), .ref (d 5), .int (nI (m.1 4)), .ref (d 6), .ref (d 7), .ref (d 8), .int (nI (m.1 5)), .ref (d 9), .ref (d 10), .int (nI (m.1 6)), .ref (d 11), .ref (d 12), .ref (d 13), .int (nI (m.1 7)), .ref (d 14), .ref (d 15), .ref (d 16), .ref (d 17)])))) (mN m 1 v) :=
  ⟨⟨va_up_self _ _ _, (va_up_ne _ _ (by decide)).trans h.1.2.1, (va_up_ne _ _ (by decide)).trans h.1.2.2.1, (va_up_ne _ _ (by decide)).trans h.1.2.2.2.1, (va_up_ne _ _ (by decide)).trans h.1.2.2.2.2.1, (va_up_ne _ _ (by decide)).trans h.1.2.2.2.2.2.1, (va_up_ne _ _ (by decide)).trans h.1.2.2.2.2.2.2.1, (va_up_ne _ _ (by decide)).trans h.1.2.2.2.2.2.2.2.1, (va_up_ne _ _ (by decide)).trans h.1.2.2.2.2.2.2.2.2.1, (va_up_ne _ _ (by decide)).trans h.1.2.2.2.2.2.2.2.2.2.1, (va_up_ne _ _ (by decide)).trans h.1.2.2.2.2.2.2.2.2.2.2.1, (va_up_ne _ _ (by decide)).trans h.1.2.2.2.2.2.2.2.2.2.2.2.1, (va_up_ne _ _ (by decide)).trans h.1.2.2.2.2.2.2.2.2.2.2.2.2.1, (va_up_ne _ _ (by decide)).trans h.1.2.2.2.2.2.2.2.2.2.2.2.2.2.1, (va_up_ne _ _ (by decide)).trans h.1.2.2.2.2.2.2.2.2.2.2.2.2.2.2.1, (va_up_ne _ _ (by decide)).trans h.1.2.2.2.2.2.2.2.2.2.2.2.2.2.2.2.1, (va_up_ne _ _ (by decide)).trans h.1.2.2.2.2.2.2.2.2.2.2.2.2.2.2.2.2.1, (va_up_ne _ _ (by decide)).trans h.1.2.2.2.2.2.2.2.2.2.2.2.2.2.2.2.2.2⟩, fun k hk => (va_up_ne _ _ (by omega)).trans (h.2 k hk)⟩
theorem mw_assets (v : Nat) (h : MW cI cL κ0 d κ m) : MW cI cL κ0 d (va_up κ 0 (some (.inr (4, [.int (nI (m.1 0)), .int (nI (m.1 1)), .int (nI v), .int (m.2.1), .ref (d 1), .ref (d 2), .ref (d 3), .int (nI (m.1 3)), .ref (d 4), .ref (d 5), .int (nI (m.1 4)), .ref (d 6), .ref (d 7), .ref (d 8), .int (nI (m.1 5)), .ref (d 9), .ref (d 10), .int (nI (m.1 6)), .ref (d 11), .ref (d 12), .ref (d 13), .int (nI (m.1 7)), .ref (d 14), .ref (d 15), .ref (d 16), .ref (d 17)])))) (mN m 2 v) :=
  ⟨⟨va_up_self _ _ _, (va_up_ne _ _ (by decide)).trans h.1.2.1, (va_up_ne _ _ (by decide)).trans h.1.2.2.1, (va_up_ne _ _ (by decide)).trans h.1.2.2.2.1, (va_up_ne _ _ (by decide)).trans h.1.2.2.2.2.1, (va_up_ne _ _ (by decide)).trans h.1.2.2.2.2.2.1, (va_up_ne _ _ (by decide)).trans h.1.2.2.2.2.2.2.1, (va_up_ne _ _ (by decide)).trans h.1.2.2.2.2.2.2.2.1, (va_up_ne _ _ (by decide)).trans h.1.2.2.2.2.2.2.2.2.1, (va_up_ne _ _ (by decide)).trans h.1.2.2.2.2.2.2.2.2.2.1, (va_up_ne _ _ (by decide)).trans h.1.2.2.2.2.2.2.2.2.2.2.1, (va_up_ne _ _ (by decide)).trans h.1.2.2.2.2.2.2.2.2.2.2.2.1, (va_up_ne _ _ (by decide)).trans h.1.2.2.2.2.2.2.2.2.2.2.2.2.1, (va_up_ne _ _ (by decide)).trans h.1.2.2.2.2.2.2.2.2.2.2.2.2.2.1, (va_up_ne _ _ (by decide)).trans h.1.2.2.2.2.2.2.2.2.2.2.2.2.2.2.1, (va_up_ne _ _ (by decide)).trans h.1.2.2.2.2.2.2.2.2.2.2.2.2.2.2.2.1, (va_up_ne _ _ (by decide)).trans h.1.2.2.2.2.2.2.2.2.2.2.2.2.2.2.2.2.1, (va_up_ne _ _ (by decide)).trans h.1.2.2.2.2.2.2.2.2.2.2.2.2.2.2.2.2.2⟩, fun k hk => (va_up_ne _ _ (by omega)).trans (h.2 k hk)⟩
theorem mw_money (v : Int32) (h : MW cI cL κ0 d κ m) : MW cI cL κ0 d (va_up κ 0 (some (.inr (4, [.int (nI (m.1 0)), .int (nI (m.1 1)), .int (nI (m.1 2)), .int v, .ref (d 1), .ref (d 2), .ref (d 3), .int (nI (m.1 3)), .ref (d 4), .ref (d 5), .int (nI (m.1 4)), .ref (d 6), .ref (d 7), .ref (d 8), .int (nI (m.1 5)), .ref (d 9), .ref (d 10), .int (nI (m.1 6)), .ref (d 11), .ref (d 12), .ref (d 13), .int (nI (m.1 7)), .ref (d 14), .ref (d 15), .ref (d 16), .ref (d 17)])))) (mM m v) :=
  ⟨⟨va_up_self _ _ _, (va_up_ne _ _ (by decide)).trans h.1.2.1, (va_up_ne _ _ (by decide)).trans h.1.2.2.1, (va_up_ne _ _ (by decide)).trans h.1.2.2.2.1, (va_up_ne _ _ (by decide)).trans h.1.2.2.2.2.1, (va_up_ne _ _ (by decide)).trans h.1.2.2.2.2.2.1, (va_up_ne _ _ (by decide)).trans h.1.2.2.2.2.2.2.1, (va_up_ne _ _ (by decide)).trans h.1.2.2.2.2.2.2.2.1, (va_up_ne _ _ (by decide)).trans h.1.2.2.2.2.2.2.2.2.1, (va_up_ne _ _ (by decide)).trans h.1.2.2.2.2.2.2.2.2.2.1, (va_up_ne _ _ (by decide)).trans h.1.2.2.2.2.2.2.2.2.2.2.1, (va_up_ne _ _ (by decide)).trans h.1.2.2.2.2.2.2.2.2.2.2.2.1, (va_up_ne _ _ (by decide)).trans h.1.2.2.2.2.2.2.2.2.2.2.2.2.1, (va_up_ne _ _ (by decide)).trans h.1.2.2.2.2.2.2.2.2.2.2.2.2.2.1, (va_up_ne _ _ (by decide)).trans h.1.2.2.2.2.2.2.2.2.2.2.2.2.2.2.1, (va_up_ne _ _ (by decide)).trans h.1.2.2.2.2.2.2.2.2.2.2.2.2.2.2.2.1, (va_up_ne _ _ (by decide)).trans h.1.2.2.2.2.2.2.2.2.2.2.2.2.2.2.2.2.1, (va_up_ne _ _ (by decide)).trans h.1.2.2.2.2.2.2.2.2.2.2.2.2.2.2.2.2.2⟩, fun k hk => (va_up_ne _ _ (by omega)).trans (h.2 k hk)⟩
theorem mw_moves (v : Nat) (h : MW cI cL κ0 d κ m) : MW cI cL κ0 d (va_up κ 0 (some (.inr (4, [.int (nI (m.1 0)), .int (nI (m.1 1)), .int (nI (m.1 2)), .int (m.2.1), .ref (d 1), .ref (d 2), .ref (d 3), .int (nI v), .ref (d 4), .ref (d 5), .int (nI (m.1 4)), .ref (d 6), .ref (d 7), .ref (d 8), .int (nI (m.1 5)), .ref (d 9), .ref (d 10), .int (nI (m.1 6)), .ref (d 11), .ref (d 12), .ref (d 13), .int (nI (m.1 7)), .ref (d 14), .ref (d 15), .ref (d 16), .ref (d 17)])))) (mN m 3 v) :=
  ⟨⟨va_up_self _ _ _, (va_up_ne _ _ (by decide)).trans h.1.2.1, (va_up_ne _ _ (by decide)).trans h.1.2.2.1, (va_up_ne _ _ (by decide)).trans h.1.2.2.2.1, (va_up_ne _ _ (by decide)).trans h.1.2.2.2.2.1, (va_up_ne _ _ (by decide)).trans h.1.2.2.2.2.2.1, (va_up_ne _ _ (by decide)).trans h.1.2.2.2.2.2.2.1, (va_up_ne _ _ (by decide)).trans h.1.2.2.2.2.2.2.2.1, (va_up_ne _ _ (by decide)).trans h.1.2.2.2.2.2.2.2.2.1, (va_up_ne _ _ (by decide)).trans h.1.2.2.2.2.2.2.2.2.2.1, (va_up_ne _ _ (by decide)).trans h.1.2.2.2.2.2.2.2.2.2.2.1, (va_up_ne _ _ (by decide)).trans h.1.2.2.2.2.2.2.2.2.2.2.2.1, (va_up_ne _ _ (by decide)).trans h.1.2.2.2.2.2.2.2.2.2.2.2.2.1, (va_up_ne _ _ (by decide)).trans h.1.2.2.2.2.2.2.2.2.2.2.2.2.2.1, (va_up_ne _ _ (by decide)).trans h.1.2.2.2.2.2.2.2.2.2.2.2.2.2.2.1, (va_up_ne _ _ (by decide)).trans h.1.2.2.2.2.2.2.2.2.2.2.2.2.2.2.2.1, (va_up_ne _ _ (by decide)).trans h.1.2.2.2.2.2.2.2.2.2.2.2.2.2.2.2.2.1, (va_up_ne _ _ (by decide)).trans h.1.2.2.2.2.2.2.2.2.2.2.2.2.2.2.2.2.2⟩, fun k hk => (va_up_ne _ _ (by omega)).trans (h.2 k hk)⟩
theorem mw_payments (v : Nat) (h : MW cI cL κ0 d κ m) : MW cI cL κ0 d (va_up κ 0 (some (.inr (4, [.int (nI (m.1 0)), .int (nI (m.1 1)), .int (nI (m.1 2)), .int (m.2.1), .ref (d 1), .ref (d 2), .ref (d 3), .int (nI (m.1 3)), .ref (d 4), .ref (d 5), .int (nI v), .ref (d 6), .ref (d 7), .ref (d 8), .int (nI (m.1 5)), .ref (d 9), .ref (d 10), .int (nI (m.1 6)), .ref (d 11), .ref (d 12), .ref (d 13), .int (nI (m.1 7)), .ref (d 14), .ref (d 15), .ref (d 16), .ref (d 17)])))) (mN m 4 v) :=
  ⟨⟨va_up_self _ _ _, (va_up_ne _ _ (by decide)).trans h.1.2.1, (va_up_ne _ _ (by decide)).trans h.1.2.2.1, (va_up_ne _ _ (by decide)).trans h.1.2.2.2.1, (va_up_ne _ _ (by decide)).trans h.1.2.2.2.2.1, (va_up_ne _ _ (by decide)).trans h.1.2.2.2.2.2.1, (va_up_ne _ _ (by decide)).trans h.1.2.2.2.2.2.2.1, (va_up_ne _ _ (by decide)).trans h.1.2.2.2.2.2.2.2.1, (va_up_ne _ _ (by decide)).trans h.1.2.2.2.2.2.2.2.2.1, (va_up_ne _ _ (by decide)).trans h.1.2.2.2.2.2.2.2.2.2.1, (va_up_ne _ _ (by decide)).trans h.1.2.2.2.2.2.2.2.2.2.2.1, (va_up_ne _ _ (by decide)).trans h.1.2.2.2.2.2.2.2.2.2.2.2.1, (va_up_ne _ _ (by decide)).trans h.1.2.2.2.2.2.2.2.2.2.2.2.2.1, (va_up_ne _ _ (by decide)).trans h.1.2.2.2.2.2.2.2.2.2.2.2.2.2.1, (va_up_ne _ _ (by decide)).trans h.1.2.2.2.2.2.2.2.2.2.2.2.2.2.2.1, (va_up_ne _ _ (by decide)).trans h.1.2.2.2.2.2.2.2.2.2.2.2.2.2.2.2.1, (va_up_ne _ _ (by decide)).trans h.1.2.2.2.2.2.2.2.2.2.2.2.2.2.2.2.2.1, (va_up_ne _ _ (by decide)).trans h.1.2.2.2.2.2.2.2.2.2.2.2.2.2.2.2.2.2⟩, fun k hk => (va_up_ne _ _ (by omega)).trans (h.2 k hk)⟩
theorem mw_pledges (v : Nat) (h : MW cI cL κ0 d κ m) : MW cI cL κ0 d (va_up κ 0 (some (.inr (4, [.int (nI (m.1 0)), .int (nI (m.1 1)), .int (nI (m.1 2)), .int (m.2.1), .ref (d 1), .ref (d 2), .ref (d 3), .int (nI (m.1 3)), .ref (d 4), .ref (d 5), .int (nI (m.1 4)), .ref (d 6), .ref (d 7), .ref (d 8), .int (nI v), .ref (d 9), .ref (d 10), .int (nI (m.1 6)), .ref (d 11), .ref (d 12), .ref (d 13), .int (nI (m.1 7)), .ref (d 14), .ref (d 15), .ref (d 16), .ref (d 17)])))) (mN m 5 v) :=
  ⟨⟨va_up_self _ _ _, (va_up_ne _ _ (by decide)).trans h.1.2.1, (va_up_ne _ _ (by decide)).trans h.1.2.2.1, (va_up_ne _ _ (by decide)).trans h.1.2.2.2.1, (va_up_ne _ _ (by decide)).trans h.1.2.2.2.2.1, (va_up_ne _ _ (by decide)).trans h.1.2.2.2.2.2.1, (va_up_ne _ _ (by decide)).trans h.1.2.2.2.2.2.2.1, (va_up_ne _ _ (by decide)).trans h.1.2.2.2.2.2.2.2.1, (va_up_ne _ _ (by decide)).trans h.1.2.2.2.2.2.2.2.2.1, (va_up_ne _ _ (by decide)).trans h.1.2.2.2.2.2.2.2.2.2.1, (va_up_ne _ _ (by decide)).trans h.1.2.2.2.2.2.2.2.2.2.2.1, (va_up_ne _ _ (by decide)).trans h.1.2.2.2.2.2.2.2.2.2.2.2.1, (va_up_ne _ _ (by decide)).trans h.1.2.2.2.2.2.2.2.2.2.2.2.2.1, (va_up_ne _ _ (by decide)).trans h.1.2.2.2.2.2.2.2.2.2.2.2.2.2.1, (va_up_ne _ _ (by decide)).trans h.1.2.2.2.2.2.2.2.2.2.2.2.2.2.2.1, (va_up_ne _ _ (by decide)).trans h.1.2.2.2.2.2.2.2.2.2.2.2.2.2.2.2.1, (va_up_ne _ _ (by decide)).trans h.1.2.2.2.2.2.2.2.2.2.2.2.2.2.2.2.2.1, (va_up_ne _ _ (by decide)).trans h.1.2.2.2.2.2.2.2.2.2.2.2.2.2.2.2.2.2⟩, fun k hk => (va_up_ne _ _ (by omega)).trans (h.2 k hk)⟩
theorem mw_limits (v : Nat) (h : MW cI cL κ0 d κ m) : MW cI cL κ0 d (va_up κ 0 (some (.inr (4, [.int (nI (m.1 0)), .int (nI (m.1 1)), .int (nI (m.1 2)), .int (m.2.1), .ref (d 1), .ref (d 2), .ref (d 3), .int (nI (m.1 3)), .ref (d 4), .ref (d 5), .int (nI (m.1 4)), .ref (d 6), .ref (d 7), .ref (d 8), .int (nI (m.1 5)), .ref (d 9), .ref (d 10), .int (nI v), .ref (d 11), .ref (d 12), .ref (d 13), .int (nI (m.1 7)), .ref (d 14), .ref (d 15), .ref (d 16), .ref (d 17)])))) (mN m 6 v) :=
  ⟨⟨va_up_self _ _ _, (va_up_ne _ _ (by decide)).trans h.1.2.1, (va_up_ne _ _ (by decide)).trans h.1.2.2.1, (va_up_ne _ _ (by decide)).trans h.1.2.2.2.1, (va_up_ne _ _ (by decide)).trans h.1.2.2.2.2.1, (va_up_ne _ _ (by decide)).trans h.1.2.2.2.2.2.1, (va_up_ne _ _ (by decide)).trans h.1.2.2.2.2.2.2.1, (va_up_ne _ _ (by decide)).trans h.1.2.2.2.2.2.2.2.1, (va_up_ne _ _ (by decide)).trans h.1.2.2.2.2.2.2.2.2.1, (va_up_ne _ _ (by decide)).trans h.1.2.2.2.2.2.2.2.2.2.1, (va_up_ne _ _ (by decide)).trans h.1.2.2.2.2.2.2.2.2.2.2.1, (va_up_ne _ _ (by decide)).trans h.1.2.2.2.2.2.2.2.2.2.2.2.1, (va_up_ne _ _ (by decide)).trans h.1.2.2.2.2.2.2.2.2.2.2.2.2.1, (va_up_ne _ _ (by decide)).trans h.1.2.2.2.2.2.2.2.2.2.2.2.2.2.1, (va_up_ne _ _ (by decide)).trans h.1.2.2.2.2.2.2.2.2.2.2.2.2.2.2.1, (va_up_ne _ _ (by decide)).trans h.1.2.2.2.2.2.2.2.2.2.2.2.2.2.2.2.1, (va_up_ne _ _ (by decide)).trans h.1.2.2.2.2.2.2.2.2.2.2.2.2.2.2.2.2.1, (va_up_ne _ _ (by decide)).trans h.1.2.2.2.2.2.2.2.2.2.2.2.2.2.2.2.2.2⟩, fun k hk => (va_up_ne _ _ (by omega)).trans (h.2 k hk)⟩
theorem mw_legs (v : Nat) (h : MW cI cL κ0 d κ m) : MW cI cL κ0 d (va_up κ 0 (some (.inr (4, [.int (nI (m.1 0)), .int (nI (m.1 1)), .int (nI (m.1 2)), .int (m.2.1), .ref (d 1), .ref (d 2), .ref (d 3), .int (nI (m.1 3)), .ref (d 4), .ref (d 5), .int (nI (m.1 4)), .ref (d 6), .ref (d 7), .ref (d 8), .int (nI (m.1 5)), .ref (d 9), .ref (d 10), .int (nI (m.1 6)), .ref (d 11), .ref (d 12), .ref (d 13), .int (nI v), .ref (d 14), .ref (d 15), .ref (d 16), .ref (d 17)])))) (mN m 7 v) :=
  ⟨⟨va_up_self _ _ _, (va_up_ne _ _ (by decide)).trans h.1.2.1, (va_up_ne _ _ (by decide)).trans h.1.2.2.1, (va_up_ne _ _ (by decide)).trans h.1.2.2.2.1, (va_up_ne _ _ (by decide)).trans h.1.2.2.2.2.1, (va_up_ne _ _ (by decide)).trans h.1.2.2.2.2.2.1, (va_up_ne _ _ (by decide)).trans h.1.2.2.2.2.2.2.1, (va_up_ne _ _ (by decide)).trans h.1.2.2.2.2.2.2.2.1, (va_up_ne _ _ (by decide)).trans h.1.2.2.2.2.2.2.2.2.1, (va_up_ne _ _ (by decide)).trans h.1.2.2.2.2.2.2.2.2.2.1, (va_up_ne _ _ (by decide)).trans h.1.2.2.2.2.2.2.2.2.2.2.1, (va_up_ne _ _ (by decide)).trans h.1.2.2.2.2.2.2.2.2.2.2.2.1, (va_up_ne _ _ (by decide)).trans h.1.2.2.2.2.2.2.2.2.2.2.2.2.1, (va_up_ne _ _ (by decide)).trans h.1.2.2.2.2.2.2.2.2.2.2.2.2.2.1, (va_up_ne _ _ (by decide)).trans h.1.2.2.2.2.2.2.2.2.2.2.2.2.2.2.1, (va_up_ne _ _ (by decide)).trans h.1.2.2.2.2.2.2.2.2.2.2.2.2.2.2.2.1, (va_up_ne _ _ (by decide)).trans h.1.2.2.2.2.2.2.2.2.2.2.2.2.2.2.2.2.1, (va_up_ne _ _ (by decide)).trans h.1.2.2.2.2.2.2.2.2.2.2.2.2.2.2.2.2.2⟩, fun k hk => (va_up_ne _ _ (by omega)).trans (h.2 k hk)⟩
theorem mw_sort (f : Nat → Int32) (h : MW cI cL κ0 d κ m) : MW cI cL κ0 d (va_up κ 1 (some (.inl (cI, 64, .inl (f))))) (mI m 0 f) :=
  ⟨⟨(va_up_ne _ _ (by decide)).trans h.1.1, va_up_self _ _ _, (va_up_ne _ _ (by decide)).trans h.1.2.2.1, (va_up_ne _ _ (by decide)).trans h.1.2.2.2.1, (va_up_ne _ _ (by decide)).trans h.1.2.2.2.2.1, (va_up_ne _ _ (by decide)).trans h.1.2.2.2.2.2.1, (va_up_ne _ _ (by decide)).trans h.1.2.2.2.2.2.2.1, (va_up_ne _ _ (by decide)).trans h.1.2.2.2.2.2.2.2.1, (va_up_ne _ _ (by decide)).trans h.1.2.2.2.2.2.2.2.2.1, (va_up_ne _ _ (by decide)).trans h.1.2.2.2.2.2.2.2.2.2.1, (va_up_ne _ _ (by decide)).trans h.1.2.2.2.2.2.2.2.2.2.2.1, (va_up_ne _ _ (by decide)).trans h.1.2.2.2.2.2.2.2.2.2.2.2.1, (va_up_ne _ _ (by decide)).trans h.1.2.2.2.2.2.2.2.2.2.2.2.2.1, (va_up_ne _ _ (by decide)).trans h.1.2.2.2.2.2.2.2.2.2.2.2.2.2.1, (va_up_ne _ _ (by decide)).trans h.1.2.2.2.2.2.2.2.2.2.2.2.2.2.2.1, (va_up_ne _ _ (by decide)).trans h.1.2.2.2.2.2.2.2.2.2.2.2.2.2.2.2.1, (va_up_ne _ _ (by decide)).trans h.1.2.2.2.2.2.2.2.2.2.2.2.2.2.2.2.2.1, (va_up_ne _ _ (by decide)).trans h.1.2.2.2.2.2.2.2.2.2.2.2.2.2.2.2.2.2⟩, fun k hk => (va_up_ne _ _ (by omega)).trans (h.2 k hk)⟩
theorem mw_price (f : Nat → Int64) (h : MW cI cL κ0 d κ m) : MW cI cL κ0 d (va_up κ 2 (some (.inl (cL, 64, .inr (.inl (f)))))) (mL m 0 f) :=
  ⟨⟨(va_up_ne _ _ (by decide)).trans h.1.1, (va_up_ne _ _ (by decide)).trans h.1.2.1, va_up_self _ _ _, (va_up_ne _ _ (by decide)).trans h.1.2.2.2.1, (va_up_ne _ _ (by decide)).trans h.1.2.2.2.2.1, (va_up_ne _ _ (by decide)).trans h.1.2.2.2.2.2.1, (va_up_ne _ _ (by decide)).trans h.1.2.2.2.2.2.2.1, (va_up_ne _ _ (by decide)).trans h.1.2.2.2.2.2.2.2.1, (va_up_ne _ _ (by decide)).trans h.1.2.2.2.2.2.2.2.2.1, (va_up_ne _ _ (by decide)).trans h.1.2.2.2.2.2.2.2.2.2.1, (va_up_ne _ _ (by decide)).trans h.1.2.2.2.2.2.2.2.2.2.2.1, (va_up_ne _ _ (by decide)).trans h.1.2.2.2.2.2.2.2.2.2.2.2.1, (va_up_ne _ _ (by decide)).trans h.1.2.2.2.2.2.2.2.2.2.2.2.2.1, (va_up_ne _ _ (by decide)).trans h.1.2.2.2.2.2.2.2.2.2.2.2.2.2.1, (va_up_ne _ _ (by decide)).trans h.1.2.2.2.2.2.2.2.2.2.2.2.2.2.2.1, (va_up_ne _ _ (by decide)).trans h.1.2.2.2.2.2.2.2.2.2.2.2.2.2.2.2.1, (va_up_ne _ _ (by decide)).trans h.1.2.2.2.2.2.2.2.2.2.2.2.2.2.2.2.2.1, (va_up_ne _ _ (by decide)).trans h.1.2.2.2.2.2.2.2.2.2.2.2.2.2.2.2.2.2⟩, fun k hk => (va_up_ne _ _ (by omega)).trans (h.2 k hk)⟩
theorem mw_haircut (f : Nat → Int32) (h : MW cI cL κ0 d κ m) : MW cI cL κ0 d (va_up κ 3 (some (.inl (cI, 64, .inl (f))))) (mI m 1 f) :=
  ⟨⟨(va_up_ne _ _ (by decide)).trans h.1.1, (va_up_ne _ _ (by decide)).trans h.1.2.1, (va_up_ne _ _ (by decide)).trans h.1.2.2.1, va_up_self _ _ _, (va_up_ne _ _ (by decide)).trans h.1.2.2.2.2.1, (va_up_ne _ _ (by decide)).trans h.1.2.2.2.2.2.1, (va_up_ne _ _ (by decide)).trans h.1.2.2.2.2.2.2.1, (va_up_ne _ _ (by decide)).trans h.1.2.2.2.2.2.2.2.1, (va_up_ne _ _ (by decide)).trans h.1.2.2.2.2.2.2.2.2.1, (va_up_ne _ _ (by decide)).trans h.1.2.2.2.2.2.2.2.2.2.1, (va_up_ne _ _ (by decide)).trans h.1.2.2.2.2.2.2.2.2.2.2.1, (va_up_ne _ _ (by decide)).trans h.1.2.2.2.2.2.2.2.2.2.2.2.1, (va_up_ne _ _ (by decide)).trans h.1.2.2.2.2.2.2.2.2.2.2.2.2.1, (va_up_ne _ _ (by decide)).trans h.1.2.2.2.2.2.2.2.2.2.2.2.2.2.1, (va_up_ne _ _ (by decide)).trans h.1.2.2.2.2.2.2.2.2.2.2.2.2.2.2.1, (va_up_ne _ _ (by decide)).trans h.1.2.2.2.2.2.2.2.2.2.2.2.2.2.2.2.1, (va_up_ne _ _ (by decide)).trans h.1.2.2.2.2.2.2.2.2.2.2.2.2.2.2.2.2.1, (va_up_ne _ _ (by decide)).trans h.1.2.2.2.2.2.2.2.2.2.2.2.2.2.2.2.2.2⟩, fun k hk => (va_up_ne _ _ (by omega)).trans (h.2 k hk)⟩
theorem mw_moveAt (f : Nat → Int32) (h : MW cI cL κ0 d κ m) : MW cI cL κ0 d (va_up κ 4 (some (.inl (cI, 1040, .inl (f))))) (mI m 2 f) :=
  ⟨⟨(va_up_ne _ _ (by decide)).trans h.1.1, (va_up_ne _ _ (by decide)).trans h.1.2.1, (va_up_ne _ _ (by decide)).trans h.1.2.2.1, (va_up_ne _ _ (by decide)).trans h.1.2.2.2.1, va_up_self _ _ _, (va_up_ne _ _ (by decide)).trans h.1.2.2.2.2.2.1, (va_up_ne _ _ (by decide)).trans h.1.2.2.2.2.2.2.1, (va_up_ne _ _ (by decide)).trans h.1.2.2.2.2.2.2.2.1, (va_up_ne _ _ (by decide)).trans h.1.2.2.2.2.2.2.2.2.1, (va_up_ne _ _ (by decide)).trans h.1.2.2.2.2.2.2.2.2.2.1, (va_up_ne _ _ (by decide)).trans h.1.2.2.2.2.2.2.2.2.2.2.1, (va_up_ne _ _ (by decide)).trans h.1.2.2.2.2.2.2.2.2.2.2.2.1, (va_up_ne _ _ (by decide)).trans h.1.2.2.2.2.2.2.2.2.2.2.2.2.1, (va_up_ne _ _ (by decide)).trans h.1.2.2.2.2.2.2.2.2.2.2.2.2.2.1, (va_up_ne _ _ (by decide)).trans h.1.2.2.2.2.2.2.2.2.2.2.2.2.2.2.1, (va_up_ne _ _ (by decide)).trans h.1.2.2.2.2.2.2.2.2.2.2.2.2.2.2.2.1, (va_up_ne _ _ (by decide)).trans h.1.2.2.2.2.2.2.2.2.2.2.2.2.2.2.2.2.1, (va_up_ne _ _ (by decide)).trans h.1.2.2.2.2.2.2.2.2.2.2.2.2.2.2.2.2.2⟩, fun k hk => (va_up_ne _ _ (by omega)).trans (h.2 k hk)⟩
theorem mw_moveBy (f : Nat → Int64) (h : MW cI cL κ0 d κ m) : MW cI cL κ0 d (va_up κ 5 (some (.inl (cL, 1040, .inr (.inl (f)))))) (mL m 1 f) :=
  ⟨⟨(va_up_ne _ _ (by decide)).trans h.1.1, (va_up_ne _ _ (by decide)).trans h.1.2.1, (va_up_ne _ _ (by decide)).trans h.1.2.2.1, (va_up_ne _ _ (by decide)).trans h.1.2.2.2.1, (va_up_ne _ _ (by decide)).trans h.1.2.2.2.2.1, va_up_self _ _ _, (va_up_ne _ _ (by decide)).trans h.1.2.2.2.2.2.2.1, (va_up_ne _ _ (by decide)).trans h.1.2.2.2.2.2.2.2.1, (va_up_ne _ _ (by decide)).trans h.1.2.2.2.2.2.2.2.2.1, (va_up_ne _ _ (by decide)).trans h.1.2.2.2.2.2.2.2.2.2.1, (va_up_ne _ _ (by decide)).trans h.1.2.2.2.2.2.2.2.2.2.2.1, (va_up_ne _ _ (by decide)).trans h.1.2.2.2.2.2.2.2.2.2.2.2.1, (va_up_ne _ _ (by decide)).trans h.1.2.2.2.2.2.2.2.2.2.2.2.2.1, (va_up_ne _ _ (by decide)).trans h.1.2.2.2.2.2.2.2.2.2.2.2.2.2.1, (va_up_ne _ _ (by decide)).trans h.1.2.2.2.2.2.2.2.2.2.2.2.2.2.2.1, (va_up_ne _ _ (by decide)).trans h.1.2.2.2.2.2.2.2.2.2.2.2.2.2.2.2.1, (va_up_ne _ _ (by decide)).trans h.1.2.2.2.2.2.2.2.2.2.2.2.2.2.2.2.2.1, (va_up_ne _ _ (by decide)).trans h.1.2.2.2.2.2.2.2.2.2.2.2.2.2.2.2.2.2⟩, fun k hk => (va_up_ne _ _ (by omega)).trans (h.2 k hk)⟩
theorem mw_payer (f : Nat → Int32) (h : MW cI cL κ0 d κ m) : MW cI cL κ0 d (va_up κ 6 (some (.inl (cI, 520, .inl (f))))) (mI m 3 f) :=
  ⟨⟨(va_up_ne _ _ (by decide)).trans h.1.1, (va_up_ne _ _ (by decide)).trans h.1.2.1, (va_up_ne _ _ (by decide)).trans h.1.2.2.1, (va_up_ne _ _ (by decide)).trans h.1.2.2.2.1, (va_up_ne _ _ (by decide)).trans h.1.2.2.2.2.1, (va_up_ne _ _ (by decide)).trans h.1.2.2.2.2.2.1, va_up_self _ _ _, (va_up_ne _ _ (by decide)).trans h.1.2.2.2.2.2.2.2.1, (va_up_ne _ _ (by decide)).trans h.1.2.2.2.2.2.2.2.2.1, (va_up_ne _ _ (by decide)).trans h.1.2.2.2.2.2.2.2.2.2.1, (va_up_ne _ _ (by decide)).trans h.1.2.2.2.2.2.2.2.2.2.2.1, (va_up_ne _ _ (by decide)).trans h.1.2.2.2.2.2.2.2.2.2.2.2.1, (va_up_ne _ _ (by decide)).trans h.1.2.2.2.2.2.2.2.2.2.2.2.2.1, (va_up_ne _ _ (by decide)).trans h.1.2.2.2.2.2.2.2.2.2.2.2.2.2.1, (va_up_ne _ _ (by decide)).trans h.1.2.2.2.2.2.2.2.2.2.2.2.2.2.2.1, (va_up_ne _ _ (by decide)).trans h.1.2.2.2.2.2.2.2.2.2.2.2.2.2.2.2.1, (va_up_ne _ _ (by decide)).trans h.1.2.2.2.2.2.2.2.2.2.2.2.2.2.2.2.2.1, (va_up_ne _ _ (by decide)).trans h.1.2.2.2.2.2.2.2.2.2.2.2.2.2.2.2.2.2⟩, fun k hk => (va_up_ne _ _ (by omega)).trans (h.2 k hk)⟩
theorem mw_payee (f : Nat → Int32) (h : MW cI cL κ0 d κ m) : MW cI cL κ0 d (va_up κ 7 (some (.inl (cI, 520, .inl (f))))) (mI m 4 f) :=
  ⟨⟨(va_up_ne _ _ (by decide)).trans h.1.1, (va_up_ne _ _ (by decide)).trans h.1.2.1, (va_up_ne _ _ (by decide)).trans h.1.2.2.1, (va_up_ne _ _ (by decide)).trans h.1.2.2.2.1, (va_up_ne _ _ (by decide)).trans h.1.2.2.2.2.1, (va_up_ne _ _ (by decide)).trans h.1.2.2.2.2.2.1, (va_up_ne _ _ (by decide)).trans h.1.2.2.2.2.2.2.1, va_up_self _ _ _, (va_up_ne _ _ (by decide)).trans h.1.2.2.2.2.2.2.2.2.1, (va_up_ne _ _ (by decide)).trans h.1.2.2.2.2.2.2.2.2.2.1, (va_up_ne _ _ (by decide)).trans h.1.2.2.2.2.2.2.2.2.2.2.1, (va_up_ne _ _ (by decide)).trans h.1.2.2.2.2.2.2.2.2.2.2.2.1, (va_up_ne _ _ (by decide)).trans h.1.2.2.2.2.2.2.2.2.2.2.2.2.1, (va_up_ne _ _ (by decide)).trans h.1.2.2.2.2.2.2.2.2.2.2.2.2.2.1, (va_up_ne _ _ (by decide)).trans h.1.2.2.2.2.2.2.2.2.2.2.2.2.2.2.1, (va_up_ne _ _ (by decide)).trans h.1.2.2.2.2.2.2.2.2.2.2.2.2.2.2.2.1, (va_up_ne _ _ (by decide)).trans h.1.2.2.2.2.2.2.2.2.2.2.2.2.2.2.2.2.1, (va_up_ne _ _ (by decide)).trans h.1.2.2.2.2.2.2.2.2.2.2.2.2.2.2.2.2.2⟩, fun k hk => (va_up_ne _ _ (by omega)).trans (h.2 k hk)⟩
theorem mw_paid (f : Nat → Int64) (h : MW cI cL κ0 d κ m) : MW cI cL κ0 d (va_up κ 8 (some (.inl (cL, 520, .inr (.inl (f)))))) (mL m 2 f) :=
  ⟨⟨(va_up_ne _ _ (by decide)).trans h.1.1, (va_up_ne _ _ (by decide)).trans h.1.2.1, (va_up_ne _ _ (by decide)).trans h.1.2.2.1, (va_up_ne _ _ (by decide)).trans h.1.2.2.2.1, (va_up_ne _ _ (by decide)).trans h.1.2.2.2.2.1, (va_up_ne _ _ (by decide)).trans h.1.2.2.2.2.2.1, (va_up_ne _ _ (by decide)).trans h.1.2.2.2.2.2.2.1, (va_up_ne _ _ (by decide)).trans h.1.2.2.2.2.2.2.2.1, va_up_self _ _ _, (va_up_ne _ _ (by decide)).trans h.1.2.2.2.2.2.2.2.2.2.1, (va_up_ne _ _ (by decide)).trans h.1.2.2.2.2.2.2.2.2.2.2.1, (va_up_ne _ _ (by decide)).trans h.1.2.2.2.2.2.2.2.2.2.2.2.1, (va_up_ne _ _ (by decide)).trans h.1.2.2.2.2.2.2.2.2.2.2.2.2.1, (va_up_ne _ _ (by decide)).trans h.1.2.2.2.2.2.2.2.2.2.2.2.2.2.1, (va_up_ne _ _ (by decide)).trans h.1.2.2.2.2.2.2.2.2.2.2.2.2.2.2.1, (va_up_ne _ _ (by decide)).trans h.1.2.2.2.2.2.2.2.2.2.2.2.2.2.2.2.1, (va_up_ne _ _ (by decide)).trans h.1.2.2.2.2.2.2.2.2.2.2.2.2.2.2.2.2.1, (va_up_ne _ _ (by decide)).trans h.1.2.2.2.2.2.2.2.2.2.2.2.2.2.2.2.2.2⟩, fun k hk => (va_up_ne _ _ (by omega)).trans (h.2 k hk)⟩
theorem mw_pledgeAt (f : Nat → Int32) (h : MW cI cL κ0 d κ m) : MW cI cL κ0 d (va_up κ 9 (some (.inl (cI, 520, .inl (f))))) (mI m 5 f) :=
  ⟨⟨(va_up_ne _ _ (by decide)).trans h.1.1, (va_up_ne _ _ (by decide)).trans h.1.2.1, (va_up_ne _ _ (by decide)).trans h.1.2.2.1, (va_up_ne _ _ (by decide)).trans h.1.2.2.2.1, (va_up_ne _ _ (by decide)).trans h.1.2.2.2.2.1, (va_up_ne _ _ (by decide)).trans h.1.2.2.2.2.2.1, (va_up_ne _ _ (by decide)).trans h.1.2.2.2.2.2.2.1, (va_up_ne _ _ (by decide)).trans h.1.2.2.2.2.2.2.2.1, (va_up_ne _ _ (by decide)).trans h.1.2.2.2.2.2.2.2.2.1, va_up_self _ _ _, (va_up_ne _ _ (by decide)).trans h.1.2.2.2.2.2.2.2.2.2.2.1, (va_up_ne _ _ (by decide)).trans h.1.2.2.2.2.2.2.2.2.2.2.2.1, (va_up_ne _ _ (by decide)).trans h.1.2.2.2.2.2.2.2.2.2.2.2.2.1, (va_up_ne _ _ (by decide)).trans h.1.2.2.2.2.2.2.2.2.2.2.2.2.2.1, (va_up_ne _ _ (by decide)).trans h.1.2.2.2.2.2.2.2.2.2.2.2.2.2.2.1, (va_up_ne _ _ (by decide)).trans h.1.2.2.2.2.2.2.2.2.2.2.2.2.2.2.2.1, (va_up_ne _ _ (by decide)).trans h.1.2.2.2.2.2.2.2.2.2.2.2.2.2.2.2.2.1, (va_up_ne _ _ (by decide)).trans h.1.2.2.2.2.2.2.2.2.2.2.2.2.2.2.2.2.2⟩, fun k hk => (va_up_ne _ _ (by omega)).trans (h.2 k hk)⟩
theorem mw_pledgeBy (f : Nat → Int64) (h : MW cI cL κ0 d κ m) : MW cI cL κ0 d (va_up κ 10 (some (.inl (cL, 520, .inr (.inl (f)))))) (mL m 3 f) :=
  ⟨⟨(va_up_ne _ _ (by decide)).trans h.1.1, (va_up_ne _ _ (by decide)).trans h.1.2.1, (va_up_ne _ _ (by decide)).trans h.1.2.2.1, (va_up_ne _ _ (by decide)).trans h.1.2.2.2.1, (va_up_ne _ _ (by decide)).trans h.1.2.2.2.2.1, (va_up_ne _ _ (by decide)).trans h.1.2.2.2.2.2.1, (va_up_ne _ _ (by decide)).trans h.1.2.2.2.2.2.2.1, (va_up_ne _ _ (by decide)).trans h.1.2.2.2.2.2.2.2.1, (va_up_ne _ _ (by decide)).trans h.1.2.2.2.2.2.2.2.2.1, (va_up_ne _ _ (by decide)).trans h.1.2.2.2.2.2.2.2.2.2.1, va_up_self _ _ _, (va_up_ne _ _ (by decide)).trans h.1.2.2.2.2.2.2.2.2.2.2.2.1, (va_up_ne _ _ (by decide)).trans h.1.2.2.2.2.2.2.2.2.2.2.2.2.1, (va_up_ne _ _ (by decide)).trans h.1.2.2.2.2.2.2.2.2.2.2.2.2.2.1, (va_up_ne _ _ (by decide)).trans h.1.2.2.2.2.2.2.2.2.2.2.2.2.2.2.1, (va_up_ne _ _ (by decide)).trans h.1.2.2.2.2.2.2.2.2.2.2.2.2.2.2.2.1, (va_up_ne _ _ (by decide)).trans h.1.2.2.2.2.2.2.2.2.2.2.2.2.2.2.2.2.1, (va_up_ne _ _ (by decide)).trans h.1.2.2.2.2.2.2.2.2.2.2.2.2.2.2.2.2.2⟩, fun k hk => (va_up_ne _ _ (by omega)).trans (h.2 k hk)⟩
theorem mw_limitFrom (f : Nat → Int32) (h : MW cI cL κ0 d κ m) : MW cI cL κ0 d (va_up κ 11 (some (.inl (cI, 41, .inl (f))))) (mI m 6 f) :=
  ⟨⟨(va_up_ne _ _ (by decide)).trans h.1.1, (va_up_ne _ _ (by decide)).trans h.1.2.1, (va_up_ne _ _ (by decide)).trans h.1.2.2.1, (va_up_ne _ _ (by decide)).trans h.1.2.2.2.1, (va_up_ne _ _ (by decide)).trans h.1.2.2.2.2.1, (va_up_ne _ _ (by decide)).trans h.1.2.2.2.2.2.1, (va_up_ne _ _ (by decide)).trans h.1.2.2.2.2.2.2.1, (va_up_ne _ _ (by decide)).trans h.1.2.2.2.2.2.2.2.1, (va_up_ne _ _ (by decide)).trans h.1.2.2.2.2.2.2.2.2.1, (va_up_ne _ _ (by decide)).trans h.1.2.2.2.2.2.2.2.2.2.1, (va_up_ne _ _ (by decide)).trans h.1.2.2.2.2.2.2.2.2.2.2.1, va_up_self _ _ _, (va_up_ne _ _ (by decide)).trans h.1.2.2.2.2.2.2.2.2.2.2.2.2.1, (va_up_ne _ _ (by decide)).trans h.1.2.2.2.2.2.2.2.2.2.2.2.2.2.1, (va_up_ne _ _ (by decide)).trans h.1.2.2.2.2.2.2.2.2.2.2.2.2.2.2.1, (va_up_ne _ _ (by decide)).trans h.1.2.2.2.2.2.2.2.2.2.2.2.2.2.2.2.1, (va_up_ne _ _ (by decide)).trans h.1.2.2.2.2.2.2.2.2.2.2.2.2.2.2.2.2.1, (va_up_ne _ _ (by decide)).trans h.1.2.2.2.2.2.2.2.2.2.2.2.2.2.2.2.2.2⟩, fun k hk => (va_up_ne _ _ (by omega)).trans (h.2 k hk)⟩
theorem mw_limitTo (f : Nat → Int32) (h : MW cI cL κ0 d κ m) : MW cI cL κ0 d (va_up κ 12 (some (.inl (cI, 41, .inl (f))))) (mI m 7 f) :=
  ⟨⟨(va_up_ne _ _ (by decide)).trans h.1.1, (va_up_ne _ _ (by decide)).trans h.1.2.1, (va_up_ne _ _ (by decide)).trans h.1.2.2.1, (va_up_ne _ _ (by decide)).trans h.1.2.2.2.1, (va_up_ne _ _ (by decide)).trans h.1.2.2.2.2.1, (va_up_ne _ _ (by decide)).trans h.1.2.2.2.2.2.1, (va_up_ne _ _ (by decide)).trans h.1.2.2.2.2.2.2.1, (va_up_ne _ _ (by decide)).trans h.1.2.2.2.2.2.2.2.1, (va_up_ne _ _ (by decide)).trans h.1.2.2.2.2.2.2.2.2.1, (va_up_ne _ _ (by decide)).trans h.1.2.2.2.2.2.2.2.2.2.1, (va_up_ne _ _ (by decide)).trans h.1.2.2.2.2.2.2.2.2.2.2.1, (va_up_ne _ _ (by decide)).trans h.1.2.2.2.2.2.2.2.2.2.2.2.1, va_up_self _ _ _, (va_up_ne _ _ (by decide)).trans h.1.2.2.2.2.2.2.2.2.2.2.2.2.2.1, (va_up_ne _ _ (by decide)).trans h.1.2.2.2.2.2.2.2.2.2.2.2.2.2.2.1, (va_up_ne _ _ (by decide)).trans h.1.2.2.2.2.2.2.2.2.2.2.2.2.2.2.2.1, (va_up_ne _ _ (by decide)).trans h.1.2.2.2.2.2.2.2.2.2.2.2.2.2.2.2.2.1, (va_up_ne _ _ (by decide)).trans h.1.2.2.2.2.2.2.2.2.2.2.2.2.2.2.2.2.2⟩, fun k hk => (va_up_ne _ _ (by omega)).trans (h.2 k hk)⟩
theorem mw_limitOf (f : Nat → Int64) (h : MW cI cL κ0 d κ m) : MW cI cL κ0 d (va_up κ 13 (some (.inl (cL, 41, .inr (.inl (f)))))) (mL m 4 f) :=
  ⟨⟨(va_up_ne _ _ (by decide)).trans h.1.1, (va_up_ne _ _ (by decide)).trans h.1.2.1, (va_up_ne _ _ (by decide)).trans h.1.2.2.1, (va_up_ne _ _ (by decide)).trans h.1.2.2.2.1, (va_up_ne _ _ (by decide)).trans h.1.2.2.2.2.1, (va_up_ne _ _ (by decide)).trans h.1.2.2.2.2.2.1, (va_up_ne _ _ (by decide)).trans h.1.2.2.2.2.2.2.1, (va_up_ne _ _ (by decide)).trans h.1.2.2.2.2.2.2.2.1, (va_up_ne _ _ (by decide)).trans h.1.2.2.2.2.2.2.2.2.1, (va_up_ne _ _ (by decide)).trans h.1.2.2.2.2.2.2.2.2.2.1, (va_up_ne _ _ (by decide)).trans h.1.2.2.2.2.2.2.2.2.2.2.1, (va_up_ne _ _ (by decide)).trans h.1.2.2.2.2.2.2.2.2.2.2.2.1, (va_up_ne _ _ (by decide)).trans h.1.2.2.2.2.2.2.2.2.2.2.2.2.1, va_up_self _ _ _, (va_up_ne _ _ (by decide)).trans h.1.2.2.2.2.2.2.2.2.2.2.2.2.2.2.1, (va_up_ne _ _ (by decide)).trans h.1.2.2.2.2.2.2.2.2.2.2.2.2.2.2.2.1, (va_up_ne _ _ (by decide)).trans h.1.2.2.2.2.2.2.2.2.2.2.2.2.2.2.2.2.1, (va_up_ne _ _ (by decide)).trans h.1.2.2.2.2.2.2.2.2.2.2.2.2.2.2.2.2.2⟩, fun k hk => (va_up_ne _ _ (by omega)).trans (h.2 k hk)⟩
theorem mw_legFrom (f : Nat → Int32) (h : MW cI cL κ0 d κ m) : MW cI cL κ0 d (va_up κ 14 (some (.inl (cI, 4, .inl (f))))) (mI m 8 f) :=
  ⟨⟨(va_up_ne _ _ (by decide)).trans h.1.1, (va_up_ne _ _ (by decide)).trans h.1.2.1, (va_up_ne _ _ (by decide)).trans h.1.2.2.1, (va_up_ne _ _ (by decide)).trans h.1.2.2.2.1, (va_up_ne _ _ (by decide)).trans h.1.2.2.2.2.1, (va_up_ne _ _ (by decide)).trans h.1.2.2.2.2.2.1, (va_up_ne _ _ (by decide)).trans h.1.2.2.2.2.2.2.1, (va_up_ne _ _ (by decide)).trans h.1.2.2.2.2.2.2.2.1, (va_up_ne _ _ (by decide)).trans h.1.2.2.2.2.2.2.2.2.1, (va_up_ne _ _ (by decide)).trans h.1.2.2.2.2.2.2.2.2.2.1, (va_up_ne _ _ (by decide)).trans h.1.2.2.2.2.2.2.2.2.2.2.1, (va_up_ne _ _ (by decide)).trans h.1.2.2.2.2.2.2.2.2.2.2.2.1, (va_up_ne _ _ (by decide)).trans h.1.2.2.2.2.2.2.2.2.2.2.2.2.1, (va_up_ne _ _ (by decide)).trans h.1.2.2.2.2.2.2.2.2.2.2.2.2.2.1, va_up_self _ _ _, (va_up_ne _ _ (by decide)).trans h.1.2.2.2.2.2.2.2.2.2.2.2.2.2.2.2.1, (va_up_ne _ _ (by decide)).trans h.1.2.2.2.2.2.2.2.2.2.2.2.2.2.2.2.2.1, (va_up_ne _ _ (by decide)).trans h.1.2.2.2.2.2.2.2.2.2.2.2.2.2.2.2.2.2⟩, fun k hk => (va_up_ne _ _ (by omega)).trans (h.2 k hk)⟩
theorem mw_legTo (f : Nat → Int32) (h : MW cI cL κ0 d κ m) : MW cI cL κ0 d (va_up κ 15 (some (.inl (cI, 4, .inl (f))))) (mI m 9 f) :=
  ⟨⟨(va_up_ne _ _ (by decide)).trans h.1.1, (va_up_ne _ _ (by decide)).trans h.1.2.1, (va_up_ne _ _ (by decide)).trans h.1.2.2.1, (va_up_ne _ _ (by decide)).trans h.1.2.2.2.1, (va_up_ne _ _ (by decide)).trans h.1.2.2.2.2.1, (va_up_ne _ _ (by decide)).trans h.1.2.2.2.2.2.1, (va_up_ne _ _ (by decide)).trans h.1.2.2.2.2.2.2.1, (va_up_ne _ _ (by decide)).trans h.1.2.2.2.2.2.2.2.1, (va_up_ne _ _ (by decide)).trans h.1.2.2.2.2.2.2.2.2.1, (va_up_ne _ _ (by decide)).trans h.1.2.2.2.2.2.2.2.2.2.1, (va_up_ne _ _ (by decide)).trans h.1.2.2.2.2.2.2.2.2.2.2.1, (va_up_ne _ _ (by decide)).trans h.1.2.2.2.2.2.2.2.2.2.2.2.1, (va_up_ne _ _ (by decide)).trans h.1.2.2.2.2.2.2.2.2.2.2.2.2.1, (va_up_ne _ _ (by decide)).trans h.1.2.2.2.2.2.2.2.2.2.2.2.2.2.1, (va_up_ne _ _ (by decide)).trans h.1.2.2.2.2.2.2.2.2.2.2.2.2.2.2.1, va_up_self _ _ _, (va_up_ne _ _ (by decide)).trans h.1.2.2.2.2.2.2.2.2.2.2.2.2.2.2.2.2.1, (va_up_ne _ _ (by decide)).trans h.1.2.2.2.2.2.2.2.2.2.2.2.2.2.2.2.2.2⟩, fun k hk => (va_up_ne _ _ (by omega)).trans (h.2 k hk)⟩
theorem mw_legAsset (f : Nat → Int32) (h : MW cI cL κ0 d κ m) : MW cI cL κ0 d (va_up κ 16 (some (.inl (cI, 4, .inl (f))))) (mI m 10 f) :=
  ⟨⟨(va_up_ne _ _ (by decide)).trans h.1.1, (va_up_ne _ _ (by decide)).trans h.1.2.1, (va_up_ne _ _ (by decide)).trans h.1.2.2.1, (va_up_ne _ _ (by decide)).trans h.1.2.2.2.1, (va_up_ne _ _ (by decide)).trans h.1.2.2.2.2.1, (va_up_ne _ _ (by decide)).trans h.1.2.2.2.2.2.1, (va_up_ne _ _ (by decide)).trans h.1.2.2.2.2.2.2.1, (va_up_ne _ _ (by decide)).trans h.1.2.2.2.2.2.2.2.1, (va_up_ne _ _ (by decide)).trans h.1.2.2.2.2.2.2.2.2.1, (va_up_ne _ _ (by decide)).trans h.1.2.2.2.2.2.2.2.2.2.1, (va_up_ne _ _ (by decide)).trans h.1.2.2.2.2.2.2.2.2.2.2.1, (va_up_ne _ _ (by decide)).trans h.1.2.2.2.2.2.2.2.2.2.2.2.1, (va_up_ne _ _ (by decide)).trans h.1.2.2.2.2.2.2.2.2.2.2.2.2.1, (va_up_ne _ _ (by decide)).trans h.1.2.2.2.2.2.2.2.2.2.2.2.2.2.1, (va_up_ne _ _ (by decide)).trans h.1.2.2.2.2.2.2.2.2.2.2.2.2.2.2.1, (va_up_ne _ _ (by decide)).trans h.1.2.2.2.2.2.2.2.2.2.2.2.2.2.2.2.1, va_up_self _ _ _, (va_up_ne _ _ (by decide)).trans h.1.2.2.2.2.2.2.2.2.2.2.2.2.2.2.2.2.2⟩, fun k hk => (va_up_ne _ _ (by omega)).trans (h.2 k hk)⟩
theorem mw_legBy (f : Nat → Int64) (h : MW cI cL κ0 d κ m) : MW cI cL κ0 d (va_up κ 17 (some (.inl (cL, 4, .inr (.inl (f)))))) (mL m 5 f) :=
  ⟨⟨(va_up_ne _ _ (by decide)).trans h.1.1, (va_up_ne _ _ (by decide)).trans h.1.2.1, (va_up_ne _ _ (by decide)).trans h.1.2.2.1, (va_up_ne _ _ (by decide)).trans h.1.2.2.2.1, (va_up_ne _ _ (by decide)).trans h.1.2.2.2.2.1, (va_up_ne _ _ (by decide)).trans h.1.2.2.2.2.2.1, (va_up_ne _ _ (by decide)).trans h.1.2.2.2.2.2.2.1, (va_up_ne _ _ (by decide)).trans h.1.2.2.2.2.2.2.2.1, (va_up_ne _ _ (by decide)).trans h.1.2.2.2.2.2.2.2.2.1, (va_up_ne _ _ (by decide)).trans h.1.2.2.2.2.2.2.2.2.2.1, (va_up_ne _ _ (by decide)).trans h.1.2.2.2.2.2.2.2.2.2.2.1, (va_up_ne _ _ (by decide)).trans h.1.2.2.2.2.2.2.2.2.2.2.2.1, (va_up_ne _ _ (by decide)).trans h.1.2.2.2.2.2.2.2.2.2.2.2.2.1, (va_up_ne _ _ (by decide)).trans h.1.2.2.2.2.2.2.2.2.2.2.2.2.2.1, (va_up_ne _ _ (by decide)).trans h.1.2.2.2.2.2.2.2.2.2.2.2.2.2.2.1, (va_up_ne _ _ (by decide)).trans h.1.2.2.2.2.2.2.2.2.2.2.2.2.2.2.2.1, (va_up_ne _ _ (by decide)).trans h.1.2.2.2.2.2.2.2.2.2.2.2.2.2.2.2.2.1, va_up_self _ _ _⟩, fun k hk => (va_up_ne _ _ (by omega)).trans (h.2 k hk)⟩
end MSet
abbrev XS : Type := (Nat → Nat) × Int32 × Int64 × (Nat → Nat → Int32) × (Nat → Nat → Int64) × (Nat → Int32) × (Nat → Int64) × (Nat → Nat → Int64) × (Nat → Nat → Int64)
abbrev xS (x : XS) : Nat → Int32 := x.2.2.2.2.2.1
abbrev xR (x : XS) : Nat → Int64 := x.2.2.2.2.2.2.1
abbrev xH (x : XS) : Nat → Nat → Int64 := x.2.2.2.2.2.2.2.1
abbrev xP (x : XS) : Nat → Nat → Int64 := x.2.2.2.2.2.2.2.2
def xN (x : XS) (j v : Nat) : XS := (va_up x.1 j v, x.2)
def xM (x : XS) (v : Int32) : XS := (x.1, v, x.2.2)
def xA (x : XS) (v : Int64) : XS := (x.1, x.2.1, v, x.2.2.2)
def xI (x : XS) (j : Nat) (f : Nat → Int32) : XS := (x.1, x.2.1, x.2.2.1, va_up x.2.2.2.1 j f, x.2.2.2.2)
def xL (x : XS) (j : Nat) (f : Nat → Int64) : XS := (x.1, x.2.1, x.2.2.1, x.2.2.2.1, va_up x.2.2.2.2.1 j f, x.2.2.2.2.2)
def xR1 (x : XS) (i : Nat) (v : Int64) : XS := (x.1, x.2.1, x.2.2.1, x.2.2.2.1, x.2.2.2.2.1, xS x, va_up (xR x) i v, xH x, xP x)
def xH1 (x : XS) (i : Nat) (f : Nat → Int64) : XS := (x.1, x.2.1, x.2.2.1, x.2.2.2.1, x.2.2.2.2.1, xS x, xR x, va_up (xH x) i f, xP x)
def xP1 (x : XS) (i : Nat) (f : Nat → Int64) : XS := (x.1, x.2.1, x.2.2.1, x.2.2.2.1, x.2.2.2.2.1, xS x, xR x, xH x, va_up (xP x) i f)
/-- one asset more -/
def xNew (x : XS) (s : Int32) (r : Int64) : XS := (va_up x.1 2 (x.1 2 + 1), x.2.1, x.2.2.1, x.2.2.2.1, x.2.2.2.2.1, va_up (xS x) (x.1 2) s, va_up (xR x) (x.1 2) r, va_up (xH x) (x.1 2) (fun _ => 0), va_up (xP x) (x.1 2) (fun _ => 0))
def xRef (d : Nat → Nat) (n : Nat) : Nat → Option Nat := fun i => if i < n then some (d (32 + 3 * i)) else none
/-- the length of an asset's row of pledges -/
def xPl (x : XS) (i : Nat) : Nat := if xS x i = 0 then 0 else x.1 0
def IsX (cI cL cQ : ClassId) (d : Nat → Nat) (κ : Nat → Option va_E) (x : XS) : Prop := κ 18 = some (.inr (3, [.int (nI (x.1 0)), .int (nI (x.1 0 * x.1 1)), .ref (d 19), .int (nI (x.1 2)), .int (x.2.1), .ref (d 20), .long (x.2.2.1), .ref (d 21), .ref (d 24), .ref (d 27)])) ∧ κ 19 = some (.inl (cQ, x.1 1, .inr (.inr (.inr (.inr (xRef d (x.1 2))))))) ∧ κ 20 = some (.inl (cL, x.1 0, .inr (.inl (x.2.2.2.2.1 0)))) ∧ κ 21 = some (.inr (2, [.ref (d 22), .ref (d 23), .int (nI (x.1 3))])) ∧ κ 22 = some (.inl (cI, 40, .inl (x.2.2.2.1 0))) ∧ κ 23 = some (.inl (cL, 40, .inr (.inl (x.2.2.2.2.1 1)))) ∧ κ 24 = some (.inr (2, [.ref (d 25), .ref (d 26), .int (nI (x.1 4))])) ∧ κ 25 = some (.inl (cI, 512, .inl (x.2.2.2.1 1))) ∧ κ 26 = some (.inl (cL, 512, .inr (.inl (x.2.2.2.2.1 2)))) ∧ κ 27 = some (.inr (1, [.ref (d 28), .ref (d 29), .ref (d 30), .ref (d 31), .int (nI (x.1 5))])) ∧ κ 28 = some (.inl (cI, 4, .inl (x.2.2.2.1 2))) ∧ κ 29 = some (.inl (cI, 4, .inl (x.2.2.2.1 3))) ∧ κ 30 = some (.inl (cI, 4, .inl (x.2.2.2.1 4))) ∧ κ 31 = some (.inl (cL, 4, .inr (.inl (x.2.2.2.2.1 3)))) ∧ (∀ i : Nat, i < x.1 2 → κ (32 + 3 * i) = some (.inr (0, [.int (xS x i), .ref (d (33 + 3 * i)), .ref (d (34 + 3 * i)), .long (xR x i)])) ∧ κ (33 + 3 * i) = some (.inl (cL, x.1 0, .inr (.inl (xH x i)))) ∧ κ (34 + 3 * i) = some (.inl (cL, xPl x i, .inr (.inl (xP x i))))) ∧ ∀ k : Nat, 32 + 3 * x.1 2 ≤ k → κ k = none
def XW (cI cL cQ : ClassId) (κ0 : Nat → Option va_E) (d : Nat → Nat) (κ : Nat → Option va_E) (x : XS) : Prop := IsX cI cL cQ d κ x ∧ ∀ k : Nat, k < 18 → κ k = κ0 k
section XSet
variable {cI cL cQ : ClassId} {κ0 κ : Nat → Option va_E} {d : Nat → Nat} {x : XS}
theorem xw_money (v : Int32) (h : XW cI cL cQ κ0 d κ x) : XW cI cL cQ κ0 d (va_up κ 18 (some (.inr (3, [.int (nI (x.1 0)), .int (nI (x.1 0 * x.1 1)), .ref (d 19), .int (nI (x.1 2)), .int v, .ref (d 20), .long (x.2.2.1), .ref (d 21), .ref (d 24), .ref (d 27)])))) (xM x v) :=
  ⟨⟨va_up_self _ _ _, (va_up_ne _ _ (by decide)).trans h.1.2.1, (va_up_ne _ _ (by decide)).trans h.1.2.2.1, (va_up_ne _ _ (by decide)).trans h.1.2.2.2.1, (va_up_ne _ _ (by decide)).trans h.1.2.2.2.2.1, (va_up_ne _ _ (by decide)).trans h.1.2.2.2.2.2.1, (va_up_ne _ _ (by decide)).trans h.1.2.2.2.2.2.2.1, (va_up_ne _ _ (by decide)).trans h.1.2.2.2.2.2.2.2.1, (va_up_ne _ _ (by decide)).trans h.1.2.2.2.2.2.2.2.2.1, (va_up_ne _ _ (by decide)).trans h.1.2.2.2.2.2.2.2.2.2.1, (va_up_ne _ _ (by decide)).trans h.1.2.2.2.2.2.2.2.2.2.2.1, (va_up_ne _ _ (by decide)).trans h.1.2.2.2.2.2.2.2.2.2.2.2.1, (va_up_ne _ _ (by decide)).trans h.1.2.2.2.2.2.2.2.2.2.2.2.2.1, (va_up_ne _ _ (by decide)).trans h.1.2.2.2.2.2.2.2.2.2.2.2.2.2.1, fun i hi => ⟨(va_up_ne _ _ (by omega)).trans (h.1.2.2.2.2.2.2.2.2.2.2.2.2.2.2.1 i hi).1, (va_up_ne _ _ (by omega)).trans (h.1.2.2.2.2.2.2.2.2.2.2.2.2.2.2.1 i hi).2.1, (va_up_ne _ _ (by omega)).trans (h.1.2.2.2.2.2.2.2.2.2.2.2.2.2.2.1 i hi).2.2⟩, fun k hk => (va_up_ne _ _ (by omega)).trans (h.1.2.2.2.2.2.2.2.2.2.2.2.2.2.2.2 k hk)⟩, fun k hk => (va_up_ne _ _ (by omega)).trans (h.2 k hk)⟩
theorem xw_allCredits (v : Int64) (h : XW cI cL cQ κ0 d κ x) : XW cI cL cQ κ0 d (va_up κ 18 (some (.inr (3, [.int (nI (x.1 0)), .int (nI (x.1 0 * x.1 1)), .ref (d 19), .int (nI (x.1 2)), .int (x.2.1), .ref (d 20), .long v, .ref (d 21), .ref (d 24), .ref (d 27)])))) (xA x v) :=
  ⟨⟨va_up_self _ _ _, (va_up_ne _ _ (by decide)).trans h.1.2.1, (va_up_ne _ _ (by decide)).trans h.1.2.2.1, (va_up_ne _ _ (by decide)).trans h.1.2.2.2.1, (va_up_ne _ _ (by decide)).trans h.1.2.2.2.2.1, (va_up_ne _ _ (by decide)).trans h.1.2.2.2.2.2.1, (va_up_ne _ _ (by decide)).trans h.1.2.2.2.2.2.2.1, (va_up_ne _ _ (by decide)).trans h.1.2.2.2.2.2.2.2.1, (va_up_ne _ _ (by decide)).trans h.1.2.2.2.2.2.2.2.2.1, (va_up_ne _ _ (by decide)).trans h.1.2.2.2.2.2.2.2.2.2.1, (va_up_ne _ _ (by decide)).trans h.1.2.2.2.2.2.2.2.2.2.2.1, (va_up_ne _ _ (by decide)).trans h.1.2.2.2.2.2.2.2.2.2.2.2.1, (va_up_ne _ _ (by decide)).trans h.1.2.2.2.2.2.2.2.2.2.2.2.2.1, (va_up_ne _ _ (by decide)).trans h.1.2.2.2.2.2.2.2.2.2.2.2.2.2.1, fun i hi => ⟨(va_up_ne _ _ (by omega)).trans (h.1.2.2.2.2.2.2.2.2.2.2.2.2.2.2.1 i hi).1, (va_up_ne _ _ (by omega)).trans (h.1.2.2.2.2.2.2.2.2.2.2.2.2.2.2.1 i hi).2.1, (va_up_ne _ _ (by omega)).trans (h.1.2.2.2.2.2.2.2.2.2.2.2.2.2.2.1 i hi).2.2⟩, fun k hk => (va_up_ne _ _ (by omega)).trans (h.1.2.2.2.2.2.2.2.2.2.2.2.2.2.2.2 k hk)⟩, fun k hk => (va_up_ne _ _ (by omega)).trans (h.2 k hk)⟩
theorem xw_n3 (v : Nat) (h : XW cI cL cQ κ0 d κ x) : XW cI cL cQ κ0 d (va_up κ 21 (some (.inr (2, [.ref (d 22), .ref (d 23), .int (nI v)])))) (xN x 3 v) :=
  ⟨⟨(va_up_ne _ _ (by decide)).trans h.1.1, (va_up_ne _ _ (by decide)).trans h.1.2.1, (va_up_ne _ _ (by decide)).trans h.1.2.2.1, va_up_self _ _ _, (va_up_ne _ _ (by decide)).trans h.1.2.2.2.2.1, (va_up_ne _ _ (by decide)).trans h.1.2.2.2.2.2.1, (va_up_ne _ _ (by decide)).trans h.1.2.2.2.2.2.2.1, (va_up_ne _ _ (by decide)).trans h.1.2.2.2.2.2.2.2.1, (va_up_ne _ _ (by decide)).trans h.1.2.2.2.2.2.2.2.2.1, (va_up_ne _ _ (by decide)).trans h.1.2.2.2.2.2.2.2.2.2.1, (va_up_ne _ _ (by decide)).trans h.1.2.2.2.2.2.2.2.2.2.2.1, (va_up_ne _ _ (by decide)).trans h.1.2.2.2.2.2.2.2.2.2.2.2.1, (va_up_ne _ _ (by decide)).trans h.1.2.2.2.2.2.2.2.2.2.2.2.2.1, (va_up_ne _ _ (by decide)).trans h.1.2.2.2.2.2.2.2.2.2.2.2.2.2.1, fun i hi => ⟨(va_up_ne _ _ (by omega)).trans (h.1.2.2.2.2.2.2.2.2.2.2.2.2.2.2.1 i hi).1, (va_up_ne _ _ (by omega)).trans (h.1.2.2.2.2.2.2.2.2.2.2.2.2.2.2.1 i hi).2.1, (va_up_ne _ _ (by omega)).trans (h.1.2.2.2.2.2.2.2.2.2.2.2.2.2.2.1 i hi).2.2⟩, fun k hk => (va_up_ne _ _ (by omega)).trans (h.1.2.2.2.2.2.2.2.2.2.2.2.2.2.2.2 k hk)⟩, fun k hk => (va_up_ne _ _ (by omega)).trans (h.2 k hk)⟩
theorem xw_n4 (v : Nat) (h : XW cI cL cQ κ0 d κ x) : XW cI cL cQ κ0 d (va_up κ 24 (some (.inr (2, [.ref (d 25), .ref (d 26), .int (nI v)])))) (xN x 4 v) :=
  ⟨⟨(va_up_ne _ _ (by decide)).trans h.1.1, (va_up_ne _ _ (by decide)).trans h.1.2.1, (va_up_ne _ _ (by decide)).trans h.1.2.2.1, (va_up_ne _ _ (by decide)).trans h.1.2.2.2.1, (va_up_ne _ _ (by decide)).trans h.1.2.2.2.2.1, (va_up_ne _ _ (by decide)).trans h.1.2.2.2.2.2.1, va_up_self _ _ _, (va_up_ne _ _ (by decide)).trans h.1.2.2.2.2.2.2.2.1, (va_up_ne _ _ (by decide)).trans h.1.2.2.2.2.2.2.2.2.1, (va_up_ne _ _ (by decide)).trans h.1.2.2.2.2.2.2.2.2.2.1, (va_up_ne _ _ (by decide)).trans h.1.2.2.2.2.2.2.2.2.2.2.1, (va_up_ne _ _ (by decide)).trans h.1.2.2.2.2.2.2.2.2.2.2.2.1, (va_up_ne _ _ (by decide)).trans h.1.2.2.2.2.2.2.2.2.2.2.2.2.1, (va_up_ne _ _ (by decide)).trans h.1.2.2.2.2.2.2.2.2.2.2.2.2.2.1, fun i hi => ⟨(va_up_ne _ _ (by omega)).trans (h.1.2.2.2.2.2.2.2.2.2.2.2.2.2.2.1 i hi).1, (va_up_ne _ _ (by omega)).trans (h.1.2.2.2.2.2.2.2.2.2.2.2.2.2.2.1 i hi).2.1, (va_up_ne _ _ (by omega)).trans (h.1.2.2.2.2.2.2.2.2.2.2.2.2.2.2.1 i hi).2.2⟩, fun k hk => (va_up_ne _ _ (by omega)).trans (h.1.2.2.2.2.2.2.2.2.2.2.2.2.2.2.2 k hk)⟩, fun k hk => (va_up_ne _ _ (by omega)).trans (h.2 k hk)⟩
theorem xw_n5 (v : Nat) (h : XW cI cL cQ κ0 d κ x) : XW cI cL cQ κ0 d (va_up κ 27 (some (.inr (1, [.ref (d 28), .ref (d 29), .ref (d 30), .ref (d 31), .int (nI v)])))) (xN x 5 v) :=
  ⟨⟨(va_up_ne _ _ (by decide)).trans h.1.1, (va_up_ne _ _ (by decide)).trans h.1.2.1, (va_up_ne _ _ (by decide)).trans h.1.2.2.1, (va_up_ne _ _ (by decide)).trans h.1.2.2.2.1, (va_up_ne _ _ (by decide)).trans h.1.2.2.2.2.1, (va_up_ne _ _ (by decide)).trans h.1.2.2.2.2.2.1, (va_up_ne _ _ (by decide)).trans h.1.2.2.2.2.2.2.1, (va_up_ne _ _ (by decide)).trans h.1.2.2.2.2.2.2.2.1, (va_up_ne _ _ (by decide)).trans h.1.2.2.2.2.2.2.2.2.1, va_up_self _ _ _, (va_up_ne _ _ (by decide)).trans h.1.2.2.2.2.2.2.2.2.2.2.1, (va_up_ne _ _ (by decide)).trans h.1.2.2.2.2.2.2.2.2.2.2.2.1, (va_up_ne _ _ (by decide)).trans h.1.2.2.2.2.2.2.2.2.2.2.2.2.1, (va_up_ne _ _ (by decide)).trans h.1.2.2.2.2.2.2.2.2.2.2.2.2.2.1, fun i hi => ⟨(va_up_ne _ _ (by omega)).trans (h.1.2.2.2.2.2.2.2.2.2.2.2.2.2.2.1 i hi).1, (va_up_ne _ _ (by omega)).trans (h.1.2.2.2.2.2.2.2.2.2.2.2.2.2.2.1 i hi).2.1, (va_up_ne _ _ (by omega)).trans (h.1.2.2.2.2.2.2.2.2.2.2.2.2.2.2.1 i hi).2.2⟩, fun k hk => (va_up_ne _ _ (by omega)).trans (h.1.2.2.2.2.2.2.2.2.2.2.2.2.2.2.2 k hk)⟩, fun k hk => (va_up_ne _ _ (by omega)).trans (h.2 k hk)⟩
theorem xw_i0 (f : Nat → Int32) (h : XW cI cL cQ κ0 d κ x) : XW cI cL cQ κ0 d (va_up κ 22 (some (.inl (cI, 40, .inl f)))) (xI x 0 f) :=
  ⟨⟨(va_up_ne _ _ (by decide)).trans h.1.1, (va_up_ne _ _ (by decide)).trans h.1.2.1, (va_up_ne _ _ (by decide)).trans h.1.2.2.1, (va_up_ne _ _ (by decide)).trans h.1.2.2.2.1, va_up_self _ _ _, (va_up_ne _ _ (by decide)).trans h.1.2.2.2.2.2.1, (va_up_ne _ _ (by decide)).trans h.1.2.2.2.2.2.2.1, (va_up_ne _ _ (by decide)).trans h.1.2.2.2.2.2.2.2.1, (va_up_ne _ _ (by decide)).trans h.1.2.2.2.2.2.2.2.2.1, (va_up_ne _ _ (by decide)).trans h.1.2.2.2.2.2.2.2.2.2.1, (va_up_ne _ _ (by decide)).trans h.1.2.2.2.2.2.2.2.2.2.2.1, (va_up_ne _ _ (by decide)).trans h.1.2.2.2.2.2.2.2.2.2.2.2.1, (va_up_ne _ _ (by decide)).trans h.1.2.2.2.2.2.2.2.2.2.2.2.2.1, (va_up_ne _ _ (by decide)).trans h.1.2.2.2.2.2.2.2.2.2.2.2.2.2.1, fun i hi => ⟨(va_up_ne _ _ (by omega)).trans (h.1.2.2.2.2.2.2.2.2.2.2.2.2.2.2.1 i hi).1, (va_up_ne _ _ (by omega)).trans (h.1.2.2.2.2.2.2.2.2.2.2.2.2.2.2.1 i hi).2.1, (va_up_ne _ _ (by omega)).trans (h.1.2.2.2.2.2.2.2.2.2.2.2.2.2.2.1 i hi).2.2⟩, fun k hk => (va_up_ne _ _ (by omega)).trans (h.1.2.2.2.2.2.2.2.2.2.2.2.2.2.2.2 k hk)⟩, fun k hk => (va_up_ne _ _ (by omega)).trans (h.2 k hk)⟩
theorem xw_i1 (f : Nat → Int32) (h : XW cI cL cQ κ0 d κ x) : XW cI cL cQ κ0 d (va_up κ 25 (some (.inl (cI, 512, .inl f)))) (xI x 1 f) :=
  ⟨⟨(va_up_ne _ _ (by decide)).trans h.1.1, (va_up_ne _ _ (by decide)).trans h.1.2.1, (va_up_ne _ _ (by decide)).trans h.1.2.2.1, (va_up_ne _ _ (by decide)).trans h.1.2.2.2.1, (va_up_ne _ _ (by decide)).trans h.1.2.2.2.2.1, (va_up_ne _ _ (by decide)).trans h.1.2.2.2.2.2.1, (va_up_ne _ _ (by decide)).trans h.1.2.2.2.2.2.2.1, va_up_self _ _ _, (va_up_ne _ _ (by decide)).trans h.1.2.2.2.2.2.2.2.2.1, (va_up_ne _ _ (by decide)).trans h.1.2.2.2.2.2.2.2.2.2.1, (va_up_ne _ _ (by decide)).trans h.1.2.2.2.2.2.2.2.2.2.2.1, (va_up_ne _ _ (by decide)).trans h.1.2.2.2.2.2.2.2.2.2.2.2.1, (va_up_ne _ _ (by decide)).trans h.1.2.2.2.2.2.2.2.2.2.2.2.2.1, (va_up_ne _ _ (by decide)).trans h.1.2.2.2.2.2.2.2.2.2.2.2.2.2.1, fun i hi => ⟨(va_up_ne _ _ (by omega)).trans (h.1.2.2.2.2.2.2.2.2.2.2.2.2.2.2.1 i hi).1, (va_up_ne _ _ (by omega)).trans (h.1.2.2.2.2.2.2.2.2.2.2.2.2.2.2.1 i hi).2.1, (va_up_ne _ _ (by omega)).trans (h.1.2.2.2.2.2.2.2.2.2.2.2.2.2.2.1 i hi).2.2⟩, fun k hk => (va_up_ne _ _ (by omega)).trans (h.1.2.2.2.2.2.2.2.2.2.2.2.2.2.2.2 k hk)⟩, fun k hk => (va_up_ne _ _ (by omega)).trans (h.2 k hk)⟩
theorem xw_i2 (f : Nat → Int32) (h : XW cI cL cQ κ0 d κ x) : XW cI cL cQ κ0 d (va_up κ 28 (some (.inl (cI, 4, .inl f)))) (xI x 2 f) :=
  ⟨⟨(va_up_ne _ _ (by decide)).trans h.1.1, (va_up_ne _ _ (by decide)).trans h.1.2.1, (va_up_ne _ _ (by decide)).trans h.1.2.2.1, (va_up_ne _ _ (by decide)).trans h.1.2.2.2.1, (va_up_ne _ _ (by decide)).trans h.1.2.2.2.2.1, (va_up_ne _ _ (by decide)).trans h.1.2.2.2.2.2.1, (va_up_ne _ _ (by decide)).trans h.1.2.2.2.2.2.2.1, (va_up_ne _ _ (by decide)).trans h.1.2.2.2.2.2.2.2.1, (va_up_ne _ _ (by decide)).trans h.1.2.2.2.2.2.2.2.2.1, (va_up_ne _ _ (by decide)).trans h.1.2.2.2.2.2.2.2.2.2.1, va_up_self _ _ _, (va_up_ne _ _ (by decide)).trans h.1.2.2.2.2.2.2.2.2.2.2.2.1, (va_up_ne _ _ (by decide)).trans h.1.2.2.2.2.2.2.2.2.2.2.2.2.1, (va_up_ne _ _ (by decide)).trans h.1.2.2.2.2.2.2.2.2.2.2.2.2.2.1, fun i hi => ⟨(va_up_ne _ _ (by omega)).trans (h.1.2.2.2.2.2.2.2.2.2.2.2.2.2.2.1 i hi).1, (va_up_ne _ _ (by omega)).trans (h.1.2.2.2.2.2.2.2.2.2.2.2.2.2.2.1 i hi).2.1, (va_up_ne _ _ (by omega)).trans (h.1.2.2.2.2.2.2.2.2.2.2.2.2.2.2.1 i hi).2.2⟩, fun k hk => (va_up_ne _ _ (by omega)).trans (h.1.2.2.2.2.2.2.2.2.2.2.2.2.2.2.2 k hk)⟩, fun k hk => (va_up_ne _ _ (by omega)).trans (h.2 k hk)⟩
theorem xw_i3 (f : Nat → Int32) (h : XW cI cL cQ κ0 d κ x) : XW cI cL cQ κ0 d (va_up κ 29 (some (.inl (cI, 4, .inl f)))) (xI x 3 f) :=
  ⟨⟨(va_up_ne _ _ (by decide)).trans h.1.1, (va_up_ne _ _ (by decide)).trans h.1.2.1, (va_up_ne _ _ (by decide)).trans h.1.2.2.1, (va_up_ne _ _ (by decide)).trans h.1.2.2.2.1, (va_up_ne _ _ (by decide)).trans h.1.2.2.2.2.1, (va_up_ne _ _ (by decide)).trans h.1.2.2.2.2.2.1, (va_up_ne _ _ (by decide)).trans h.1.2.2.2.2.2.2.1, (va_up_ne _ _ (by decide)).trans h.1.2.2.2.2.2.2.2.1, (va_up_ne _ _ (by decide)).trans h.1.2.2.2.2.2.2.2.2.1, (va_up_ne _ _ (by decide)).trans h.1.2.2.2.2.2.2.2.2.2.1, (va_up_ne _ _ (by decide)).trans h.1.2.2.2.2.2.2.2.2.2.2.1, va_up_self _ _ _, (va_up_ne _ _ (by decide)).trans h.1.2.2.2.2.2.2.2.2.2.2.2.2.1, (va_up_ne _ _ (by decide)).trans h.1.2.2.2.2.2.2.2.2.2.2.2.2.2.1, fun i hi => ⟨(va_up_ne _ _ (by omega)).trans (h.1.2.2.2.2.2.2.2.2.2.2.2.2.2.2.1 i hi).1, (va_up_ne _ _ (by omega)).trans (h.1.2.2.2.2.2.2.2.2.2.2.2.2.2.2.1 i hi).2.1, (va_up_ne _ _ (by omega)).trans (h.1.2.2.2.2.2.2.2.2.2.2.2.2.2.2.1 i hi).2.2⟩, fun k hk => (va_up_ne _ _ (by omega)).trans (h.1.2.2.2.2.2.2.2.2.2.2.2.2.2.2.2 k hk)⟩, fun k hk => (va_up_ne _ _ (by omega)).trans (h.2 k hk)⟩
theorem xw_i4 (f : Nat → Int32) (h : XW cI cL cQ κ0 d κ x) : XW cI cL cQ κ0 d (va_up κ 30 (some (.inl (cI, 4, .inl f)))) (xI x 4 f) :=
  ⟨⟨(va_up_ne _ _ (by decide)).trans h.1.1, (va_up_ne _ _ (by decide)).trans h.1.2.1, (va_up_ne _ _ (by decide)).trans h.1.2.2.1, (va_up_ne _ _ (by decide)).trans h.1.2.2.2.1, (va_up_ne _ _ (by decide)).trans h.1.2.2.2.2.1, (va_up_ne _ _ (by decide)).trans h.1.2.2.2.2.2.1, (va_up_ne _ _ (by decide)).trans h.1.2.2.2.2.2.2.1, (va_up_ne _ _ (by decide)).trans h.1.2.2.2.2.2.2.2.1, (va_up_ne _ _ (by decide)).trans h.1.2.2.2.2.2.2.2.2.1, (va_up_ne _ _ (by decide)).trans h.1.2.2.2.2.2.2.2.2.2.1, (va_up_ne _ _ (by decide)).trans h.1.2.2.2.2.2.2.2.2.2.2.1, (va_up_ne _ _ (by decide)).trans h.1.2.2.2.2.2.2.2.2.2.2.2.1, va_up_self _ _ _, (va_up_ne _ _ (by decide)).trans h.1.2.2.2.2.2.2.2.2.2.2.2.2.2.1, fun i hi => ⟨(va_up_ne _ _ (by omega)).trans (h.1.2.2.2.2.2.2.2.2.2.2.2.2.2.2.1 i hi).1, (va_up_ne _ _ (by omega)).trans (h.1.2.2.2.2.2.2.2.2.2.2.2.2.2.2.1 i hi).2.1, (va_up_ne _ _ (by omega)).trans (h.1.2.2.2.2.2.2.2.2.2.2.2.2.2.2.1 i hi).2.2⟩, fun k hk => (va_up_ne _ _ (by omega)).trans (h.1.2.2.2.2.2.2.2.2.2.2.2.2.2.2.2 k hk)⟩, fun k hk => (va_up_ne _ _ (by omega)).trans (h.2 k hk)⟩
theorem xw_l0 (f : Nat → Int64) (h : XW cI cL cQ κ0 d κ x) : XW cI cL cQ κ0 d (va_up κ 20 (some (.inl (cL, x.1 0, .inr (.inl f))))) (xL x 0 f) :=
  ⟨⟨(va_up_ne _ _ (by decide)).trans h.1.1, (va_up_ne _ _ (by decide)).trans h.1.2.1, va_up_self _ _ _, (va_up_ne _ _ (by decide)).trans h.1.2.2.2.1, (va_up_ne _ _ (by decide)).trans h.1.2.2.2.2.1, (va_up_ne _ _ (by decide)).trans h.1.2.2.2.2.2.1, (va_up_ne _ _ (by decide)).trans h.1.2.2.2.2.2.2.1, (va_up_ne _ _ (by decide)).trans h.1.2.2.2.2.2.2.2.1, (va_up_ne _ _ (by decide)).trans h.1.2.2.2.2.2.2.2.2.1, (va_up_ne _ _ (by decide)).trans h.1.2.2.2.2.2.2.2.2.2.1, (va_up_ne _ _ (by decide)).trans h.1.2.2.2.2.2.2.2.2.2.2.1, (va_up_ne _ _ (by decide)).trans h.1.2.2.2.2.2.2.2.2.2.2.2.1, (va_up_ne _ _ (by decide)).trans h.1.2.2.2.2.2.2.2.2.2.2.2.2.1, (va_up_ne _ _ (by decide)).trans h.1.2.2.2.2.2.2.2.2.2.2.2.2.2.1, fun i hi => ⟨(va_up_ne _ _ (by omega)).trans (h.1.2.2.2.2.2.2.2.2.2.2.2.2.2.2.1 i hi).1, (va_up_ne _ _ (by omega)).trans (h.1.2.2.2.2.2.2.2.2.2.2.2.2.2.2.1 i hi).2.1, (va_up_ne _ _ (by omega)).trans (h.1.2.2.2.2.2.2.2.2.2.2.2.2.2.2.1 i hi).2.2⟩, fun k hk => (va_up_ne _ _ (by omega)).trans (h.1.2.2.2.2.2.2.2.2.2.2.2.2.2.2.2 k hk)⟩, fun k hk => (va_up_ne _ _ (by omega)).trans (h.2 k hk)⟩
theorem xw_l1 (f : Nat → Int64) (h : XW cI cL cQ κ0 d κ x) : XW cI cL cQ κ0 d (va_up κ 23 (some (.inl (cL, 40, .inr (.inl f))))) (xL x 1 f) :=
  ⟨⟨(va_up_ne _ _ (by decide)).trans h.1.1, (va_up_ne _ _ (by decide)).trans h.1.2.1, (va_up_ne _ _ (by decide)).trans h.1.2.2.1, (va_up_ne _ _ (by decide)).trans h.1.2.2.2.1, (va_up_ne _ _ (by decide)).trans h.1.2.2.2.2.1, va_up_self _ _ _, (va_up_ne _ _ (by decide)).trans h.1.2.2.2.2.2.2.1, (va_up_ne _ _ (by decide)).trans h.1.2.2.2.2.2.2.2.1, (va_up_ne _ _ (by decide)).trans h.1.2.2.2.2.2.2.2.2.1, (va_up_ne _ _ (by decide)).trans h.1.2.2.2.2.2.2.2.2.2.1, (va_up_ne _ _ (by decide)).trans h.1.2.2.2.2.2.2.2.2.2.2.1, (va_up_ne _ _ (by decide)).trans h.1.2.2.2.2.2.2.2.2.2.2.2.1, (va_up_ne _ _ (by decide)).trans h.1.2.2.2.2.2.2.2.2.2.2.2.2.1, (va_up_ne _ _ (by decide)).trans h.1.2.2.2.2.2.2.2.2.2.2.2.2.2.1, fun i hi => ⟨(va_up_ne _ _ (by omega)).trans (h.1.2.2.2.2.2.2.2.2.2.2.2.2.2.2.1 i hi).1, (va_up_ne _ _ (by omega)).trans (h.1.2.2.2.2.2.2.2.2.2.2.2.2.2.2.1 i hi).2.1, (va_up_ne _ _ (by omega)).trans (h.1.2.2.2.2.2.2.2.2.2.2.2.2.2.2.1 i hi).2.2⟩, fun k hk => (va_up_ne _ _ (by omega)).trans (h.1.2.2.2.2.2.2.2.2.2.2.2.2.2.2.2 k hk)⟩, fun k hk => (va_up_ne _ _ (by omega)).trans (h.2 k hk)⟩
theorem xw_l2 (f : Nat → Int64) (h : XW cI cL cQ κ0 d κ x) : XW cI cL cQ κ0 d (va_up κ 26 (some (.inl (cL, 512, .inr (.inl f))))) (xL x 2 f) :=
  ⟨⟨(va_up_ne _ _ (by decide)).trans h.1.1, (va_up_ne _ _ (by decide)).trans h.1.2.1, (va_up_ne _ _ (by decide)).trans h.1.2.2.1, (va_up_ne _ _ (by decide)).trans h.1.2.2.2.1, (va_up_ne _ _ (by decide)).trans h.1.2.2.2.2.1, (va_up_ne _ _ (by decide)).trans h.1.2.2.2.2.2.1, (va_up_ne _ _ (by decide)).trans h.1.2.2.2.2.2.2.1, (va_up_ne _ _ (by decide)).trans h.1.2.2.2.2.2.2.2.1, va_up_self _ _ _, (va_up_ne _ _ (by decide)).trans h.1.2.2.2.2.2.2.2.2.2.1, (va_up_ne _ _ (by decide)).trans h.1.2.2.2.2.2.2.2.2.2.2.1, (va_up_ne _ _ (by decide)).trans h.1.2.2.2.2.2.2.2.2.2.2.2.1, (va_up_ne _ _ (by decide)).trans h.1.2.2.2.2.2.2.2.2.2.2.2.2.1, (va_up_ne _ _ (by decide)).trans h.1.2.2.2.2.2.2.2.2.2.2.2.2.2.1, fun i hi => ⟨(va_up_ne _ _ (by omega)).trans (h.1.2.2.2.2.2.2.2.2.2.2.2.2.2.2.1 i hi).1, (va_up_ne _ _ (by omega)).trans (h.1.2.2.2.2.2.2.2.2.2.2.2.2.2.2.1 i hi).2.1, (va_up_ne _ _ (by omega)).trans (h.1.2.2.2.2.2.2.2.2.2.2.2.2.2.2.1 i hi).2.2⟩, fun k hk => (va_up_ne _ _ (by omega)).trans (h.1.2.2.2.2.2.2.2.2.2.2.2.2.2.2.2 k hk)⟩, fun k hk => (va_up_ne _ _ (by omega)).trans (h.2 k hk)⟩
theorem xw_l3 (f : Nat → Int64) (h : XW cI cL cQ κ0 d κ x) : XW cI cL cQ κ0 d (va_up κ 31 (some (.inl (cL, 4, .inr (.inl f))))) (xL x 3 f) :=
  ⟨⟨(va_up_ne _ _ (by decide)).trans h.1.1, (va_up_ne _ _ (by decide)).trans h.1.2.1, (va_up_ne _ _ (by decide)).trans h.1.2.2.1, (va_up_ne _ _ (by decide)).trans h.1.2.2.2.1, (va_up_ne _ _ (by decide)).trans h.1.2.2.2.2.1, (va_up_ne _ _ (by decide)).trans h.1.2.2.2.2.2.1, (va_up_ne _ _ (by decide)).trans h.1.2.2.2.2.2.2.1, (va_up_ne _ _ (by decide)).trans h.1.2.2.2.2.2.2.2.1, (va_up_ne _ _ (by decide)).trans h.1.2.2.2.2.2.2.2.2.1, (va_up_ne _ _ (by decide)).trans h.1.2.2.2.2.2.2.2.2.2.1, (va_up_ne _ _ (by decide)).trans h.1.2.2.2.2.2.2.2.2.2.2.1, (va_up_ne _ _ (by decide)).trans h.1.2.2.2.2.2.2.2.2.2.2.2.1, (va_up_ne _ _ (by decide)).trans h.1.2.2.2.2.2.2.2.2.2.2.2.2.1, va_up_self _ _ _, fun i hi => ⟨(va_up_ne _ _ (by omega)).trans (h.1.2.2.2.2.2.2.2.2.2.2.2.2.2.2.1 i hi).1, (va_up_ne _ _ (by omega)).trans (h.1.2.2.2.2.2.2.2.2.2.2.2.2.2.2.1 i hi).2.1, (va_up_ne _ _ (by omega)).trans (h.1.2.2.2.2.2.2.2.2.2.2.2.2.2.2.1 i hi).2.2⟩, fun k hk => (va_up_ne _ _ (by omega)).trans (h.1.2.2.2.2.2.2.2.2.2.2.2.2.2.2.2 k hk)⟩, fun k hk => (va_up_ne _ _ (by omega)).trans (h.2 k hk)⟩
theorem xw_rate {q : Nat} (hq : q < x.1 2) (v : Int64) (h : XW cI cL cQ κ0 d κ x) : XW cI cL cQ κ0 d (va_up κ (32 + 3 * q) (some (.inr (0, [.int (xS x q), .ref (d (33 + 3 * q)), .ref (d (34 + 3 * q)), .long v])))) (xR1 x q v) :=
  ⟨⟨(va_up_ne _ _ (by omega)).trans h.1.1, (va_up_ne _ _ (by omega)).trans h.1.2.1, (va_up_ne _ _ (by omega)).trans h.1.2.2.1, (va_up_ne _ _ (by omega)).trans h.1.2.2.2.1, (va_up_ne _ _ (by omega)).trans h.1.2.2.2.2.1, (va_up_ne _ _ (by omega)).trans h.1.2.2.2.2.2.1, (va_up_ne _ _ (by omega)).trans h.1.2.2.2.2.2.2.1, (va_up_ne _ _ (by omega)).trans h.1.2.2.2.2.2.2.2.1, (va_up_ne _ _ (by omega)).trans h.1.2.2.2.2.2.2.2.2.1, (va_up_ne _ _ (by omega)).trans h.1.2.2.2.2.2.2.2.2.2.1, (va_up_ne _ _ (by omega)).trans h.1.2.2.2.2.2.2.2.2.2.2.1, (va_up_ne _ _ (by omega)).trans h.1.2.2.2.2.2.2.2.2.2.2.2.1, (va_up_ne _ _ (by omega)).trans h.1.2.2.2.2.2.2.2.2.2.2.2.2.1, (va_up_ne _ _ (by omega)).trans h.1.2.2.2.2.2.2.2.2.2.2.2.2.2.1, fun i hi => ⟨by
      by_cases e : i = q
      · subst e
        rw [va_up_self]
        simp [xR1, xH1, xP1, xPl, xS, xR, xH, xP, va_up] <;> rfl
      · rw [va_up_ne _ _ (by omega), (h.1.2.2.2.2.2.2.2.2.2.2.2.2.2.2.1 i hi).1]
        simp [xR1, xH1, xP1, xPl, xS, xR, xH, xP, va_up, e] <;> rfl, by
      rw [va_up_ne _ _ (by omega), (h.1.2.2.2.2.2.2.2.2.2.2.2.2.2.2.1 i hi).2.1]
      first | rfl | simp [xR1, xH1, xP1, xPl, xS, xR, xH, xP, va_up] <;> rfl, by
      rw [va_up_ne _ _ (by omega), (h.1.2.2.2.2.2.2.2.2.2.2.2.2.2.2.1 i hi).2.2]
      first | rfl | simp [xR1, xH1, xP1, xPl, xS, xR, xH, xP, va_up] <;> rfl⟩, fun k hk => (va_up_ne _ _ (by have h9 : 32 + 3 * x.1 2 ≤ k := hk; omega)).trans (h.1.2.2.2.2.2.2.2.2.2.2.2.2.2.2.2 k hk)⟩, fun k hk => (va_up_ne _ _ (by omega)).trans (h.2 k hk)⟩
theorem xw_held {q : Nat} (hq : q < x.1 2) (f : Nat → Int64) (h : XW cI cL cQ κ0 d κ x) : XW cI cL cQ κ0 d (va_up κ (33 + 3 * q) (some (.inl (cL, x.1 0, .inr (.inl f))))) (xH1 x q f) :=
  ⟨⟨(va_up_ne _ _ (by omega)).trans h.1.1, (va_up_ne _ _ (by omega)).trans h.1.2.1, (va_up_ne _ _ (by omega)).trans h.1.2.2.1, (va_up_ne _ _ (by omega)).trans h.1.2.2.2.1, (va_up_ne _ _ (by omega)).trans h.1.2.2.2.2.1, (va_up_ne _ _ (by omega)).trans h.1.2.2.2.2.2.1, (va_up_ne _ _ (by omega)).trans h.1.2.2.2.2.2.2.1, (va_up_ne _ _ (by omega)).trans h.1.2.2.2.2.2.2.2.1, (va_up_ne _ _ (by omega)).trans h.1.2.2.2.2.2.2.2.2.1, (va_up_ne _ _ (by omega)).trans h.1.2.2.2.2.2.2.2.2.2.1, (va_up_ne _ _ (by omega)).trans h.1.2.2.2.2.2.2.2.2.2.2.1, (va_up_ne _ _ (by omega)).trans h.1.2.2.2.2.2.2.2.2.2.2.2.1, (va_up_ne _ _ (by omega)).trans h.1.2.2.2.2.2.2.2.2.2.2.2.2.1, (va_up_ne _ _ (by omega)).trans h.1.2.2.2.2.2.2.2.2.2.2.2.2.2.1, fun i hi => ⟨by
      rw [va_up_ne _ _ (by omega), (h.1.2.2.2.2.2.2.2.2.2.2.2.2.2.2.1 i hi).1]
      first | rfl | simp [xR1, xH1, xP1, xPl, xS, xR, xH, xP, va_up] <;> rfl, by
      by_cases e : i = q
      · subst e
        rw [va_up_self]
        simp [xR1, xH1, xP1, xPl, xS, xR, xH, xP, va_up] <;> rfl
      · rw [va_up_ne _ _ (by omega), (h.1.2.2.2.2.2.2.2.2.2.2.2.2.2.2.1 i hi).2.1]
        simp [xR1, xH1, xP1, xPl, xS, xR, xH, xP, va_up, e] <;> rfl, by
      rw [va_up_ne _ _ (by omega), (h.1.2.2.2.2.2.2.2.2.2.2.2.2.2.2.1 i hi).2.2]
      first | rfl | simp [xR1, xH1, xP1, xPl, xS, xR, xH, xP, va_up] <;> rfl⟩, fun k hk => (va_up_ne _ _ (by have h9 : 32 + 3 * x.1 2 ≤ k := hk; omega)).trans (h.1.2.2.2.2.2.2.2.2.2.2.2.2.2.2.2 k hk)⟩, fun k hk => (va_up_ne _ _ (by omega)).trans (h.2 k hk)⟩
theorem xw_pled {q : Nat} (hq : q < x.1 2) (f : Nat → Int64) (h : XW cI cL cQ κ0 d κ x) : XW cI cL cQ κ0 d (va_up κ (34 + 3 * q) (some (.inl (cL, xPl x q, .inr (.inl f))))) (xP1 x q f) :=
  ⟨⟨(va_up_ne _ _ (by omega)).trans h.1.1, (va_up_ne _ _ (by omega)).trans h.1.2.1, (va_up_ne _ _ (by omega)).trans h.1.2.2.1, (va_up_ne _ _ (by omega)).trans h.1.2.2.2.1, (va_up_ne _ _ (by omega)).trans h.1.2.2.2.2.1, (va_up_ne _ _ (by omega)).trans h.1.2.2.2.2.2.1, (va_up_ne _ _ (by omega)).trans h.1.2.2.2.2.2.2.1, (va_up_ne _ _ (by omega)).trans h.1.2.2.2.2.2.2.2.1, (va_up_ne _ _ (by omega)).trans h.1.2.2.2.2.2.2.2.2.1, (va_up_ne _ _ (by omega)).trans h.1.2.2.2.2.2.2.2.2.2.1, (va_up_ne _ _ (by omega)).trans h.1.2.2.2.2.2.2.2.2.2.2.1, (va_up_ne _ _ (by omega)).trans h.1.2.2.2.2.2.2.2.2.2.2.2.1, (va_up_ne _ _ (by omega)).trans h.1.2.2.2.2.2.2.2.2.2.2.2.2.1, (va_up_ne _ _ (by omega)).trans h.1.2.2.2.2.2.2.2.2.2.2.2.2.2.1, fun i hi => ⟨by
      rw [va_up_ne _ _ (by omega), (h.1.2.2.2.2.2.2.2.2.2.2.2.2.2.2.1 i hi).1]
      first | rfl | simp [xR1, xH1, xP1, xPl, xS, xR, xH, xP, va_up] <;> rfl, by
      rw [va_up_ne _ _ (by omega), (h.1.2.2.2.2.2.2.2.2.2.2.2.2.2.2.1 i hi).2.1]
      first | rfl | simp [xR1, xH1, xP1, xPl, xS, xR, xH, xP, va_up] <;> rfl, by
      by_cases e : i = q
      · subst e
        rw [va_up_self]
        simp [xR1, xH1, xP1, xPl, xS, xR, xH, xP, va_up] <;> rfl
      · rw [va_up_ne _ _ (by omega), (h.1.2.2.2.2.2.2.2.2.2.2.2.2.2.2.1 i hi).2.2]
        simp [xR1, xH1, xP1, xPl, xS, xR, xH, xP, va_up, e] <;> rfl⟩, fun k hk => (va_up_ne _ _ (by have h9 : 32 + 3 * x.1 2 ≤ k := hk; omega)).trans (h.1.2.2.2.2.2.2.2.2.2.2.2.2.2.2.2 k hk)⟩, fun k hk => (va_up_ne _ _ (by omega)).trans (h.2 k hk)⟩
end XSet
/-- the array classes of the world: ints, longs, assets -/
abbrev kT (cI cL cQ : ClassId) : List (ClassId × FieldType) := [(cI, .int), (cL, .long), (cQ, .object "PositionDesk$Asset")]
/-- what the reference's counts keep to -/
def MB (m : MS) : Prop := 2 ≤ m.1 0 ∧ m.1 0 ≤ 256 ∧ 1 ≤ m.1 1 ∧ m.1 1 ≤ 64 ∧ m.1 2 ≤ m.1 1 ∧ m.1 3 ≤ 1040 ∧ m.1 4 ≤ 520 ∧ m.1 5 ≤ 520 ∧ m.1 6 ≤ 40 ∧ m.1 7 ≤ 4 ∧ ∀ k : Nat, k < m.1 2 → m.2.2.1 0 k = 1 → 0 ≤ m.2.2.2 0 k ∧ m.2.2.2 0 k ≤ 999999999999999 ∧ 0 ≤ m.2.2.1 1 k ∧ m.2.2.1 1 k ≤ 99
/-- what the class's counts keep to -/
def XB (x : XS) : Prop := 2 ≤ x.1 0 ∧ x.1 0 ≤ 256 ∧ 1 ≤ x.1 1 ∧ x.1 1 ≤ 64 ∧ x.1 2 ≤ x.1 1 ∧ x.1 3 ≤ 40 ∧ x.1 4 ≤ 512 ∧ x.1 5 ≤ 4 ∧ ∀ k : Nat, k < x.1 5 → vp_in (x.2.2.2.1 2 k) (x.1 0) ∧ vp_in (x.2.2.2.1 3 k) (x.1 0)
/-- a list of pairs at the keys q, q + 1, q + 2 -/
def IsP (cI cL : ClassId) (d : Nat → Nat) (κ : Nat → Option va_E) (q len cnt : Nat) (f : Nat → Int32) (g : Nat → Int64) : Prop := κ q = some (.inr (2, [.ref (d (q + 1)), .ref (d (q + 2)), .int (nI cnt)])) ∧ κ (q + 1) = some (.inl (cI, len, .inl f)) ∧ κ (q + 2) = some (.inl (cL, len, .inr (.inl g)))
theorem q_wne {e : Int64} {c : Int32} (h1 : e ≤ 999999999999999) (h2 : 0 ≤ c) (h3 : c ≤ 99) (h : 0 < e) : ¬ e * (100 - c.toInt64) = 0 := by
  rw [Int64.le_iff_toInt_le] at h1
  rw [Int32.le_iff_toInt_le] at h2 h3
  rw [Int64.lt_iff_toInt_lt] at h
  have e1 : (999999999999999 : Int64).toInt = 999999999999999 := by decide
  have e2 : (0 : Int64).toInt = 0 := by decide
  have e3 : (0 : Int32).toInt = 0 := by decide
  have e4 : (99 : Int32).toInt = 99 := by decide
  have e5 : (100 : Int64).toInt = 100 := by decide
  rw [e1] at h1
  rw [e2] at h
  rw [e3] at h2
  rw [e4] at h3
  have hf : (100 - c.toInt64).toInt = 100 - c.toInt := by
    rw [Int64.toInt_sub, e5, Int32.toInt_toInt64]
    exact Int.bmod_eq_of_le (by omega) (by omega)
  intro hz
  have hm : (e * (100 - c.toInt64)).toInt = 0 := by rw [hz]; exact e2
  rw [Int64.toInt_mul, hf] at hm
  have p1 : 0 < e.toInt * (100 - c.toInt) := Int.mul_pos h (by omega)
  have p2 : e.toInt * (100 - c.toInt) ≤ 999999999999999 * 100 := Int.mul_le_mul h1 (by omega) (by omega) (by omega)
  rw [Int.bmod_eq_of_le (by omega) (by omega)] at hm
  omega
theorem MB.pr {m : MS} (hB : MB m) {a : Nat} (ha : a < m.1 2) (c : m.2.2.1 0 (nI a).toNatClampNeg = 1) : 0 < m.2.2.2 0 (nI a).toNatClampNeg → 0 < 100 - (m.2.2.1 1 (nI a).toNatClampNeg).toInt64 → ¬ m.2.2.2 0 (nI a).toNatClampNeg * (100 - (m.2.2.1 1 (nI a).toNatClampNeg).toInt64) = 0 := by
  obtain ⟨hb0, hb1, hb2, hb3, hb4, hb5, hb6, hb7, hb8, hb9, hb10⟩ := hB
  rw [nI_clamp (by omega)] at c ⊢
  obtain ⟨h1, h2, h3, h4⟩ := hb10 a ha c
  intro h _
  exact q_wne h2 h3 h4 h
/-- there is such an asset; .. such a security -/
abbrev xIs (x : XS) (a : Int32) : Prop := ¬ a < 0 ∧ ¬ nI (x.1 2) ≤ a
abbrev xSec (x : XS) (a : Int32) : Prop := xIs x a ∧ ¬ xS x a.toNatClampNeg = 0
theorem xIs_in {x : XS} {a : Int32} (hB : XB x) (h : xIs x a) : vp_in a (x.1 1) ∧ a.toNatClampNeg < x.1 2 := by
  obtain ⟨hb0, hb1, hb2, hb3, hb4, hb5, hb6, hb7, hb8⟩ := hB
  obtain ⟨j, hj, rfl⟩ := nI_of h.1
  have h2 : j < x.1 2 := Nat.lt_of_not_le (fun q => h.2 (nI_le q hj))
  rw [nI_clamp hj]
  exact ⟨vp_in_nI (by omega) (by omega), h2⟩
theorem k_same {D : va_G} {cl : List vw_C} {d : Nat → Nat} {κ : Nat → Option va_E} {H : Heap} {i j : Nat} {e f : va_E} (h : kH D cl d κ H) (hi : κ (32 + 3 * i) = some e) (hj : κ (32 + 3 * j) = some f) (c : some (d (32 + 3 * i)) = some (d (32 + 3 * j))) : i = j := by
  have := h.2 _ _ e f hi hj (Option.some.inj c)
  omega
end
section
theorem dM_isAmount_0 : decode prog_6_method_12_code 0 = .ok (.lload_n 0, 1) := by decide +kernel
theorem dM_isAmount_1 : decode prog_6_method_12_code 1 = .ok (.lconst 1, 1) := by decide +kernel
theorem dM_isAmount_2 : decode prog_6_method_12_code 2 = .ok (.lcmp, 1) := by decide +kernel
theorem dM_isAmount_3 : decode prog_6_method_12_code 3 = .ok (.ifCond .lt 15, 3) := by decide +kernel
theorem dM_isAmount_6 : decode prog_6_method_12_code 6 = .ok (.lload_n 0, 1) := by decide +kernel
theorem dM_isAmount_7 : decode prog_6_method_12_code 7 = .ok (.ldc2_w 107, 3) := by decide +kernel
theorem dM_isAmount_10 : decode prog_6_method_12_code 10 = .ok (.lcmp, 1) := by decide +kernel
theorem dM_isAmount_11 : decode prog_6_method_12_code 11 = .ok (.ifCond .gt 7, 3) := by decide +kernel
theorem dM_isAmount_14 : decode prog_6_method_12_code 14 = .ok (.iconst 1, 1) := by decide +kernel
theorem dM_isAmount_15 : decode prog_6_method_12_code 15 = .ok (.goto 4, 3) := by decide +kernel
theorem dM_isAmount_18 : decode prog_6_method_12_code 18 = .ok (.iconst 0, 1) := by decide +kernel
theorem dM_isAmount_19 : decode prog_6_method_12_code 19 = .ok (.ireturn, 1) := by decide +kernel
def f_M_isAmount (v : Int64) : Int32 := if v < 1 then 0 else (if 999999999999999 < v then 0 else 1)
theorem b_M_isAmount (v : Int64) : f_M_isAmount v = 0 ∨ f_M_isAmount v = 1 := by
  unfold f_M_isAmount
  repeat' (first | split | exact Or.inl rfl | exact Or.inr rfl)
set_option maxHeartbeats 4000000 in
set_option maxRecDepth 100000 in
theorem c_M_isAmount (l : Launch) (D : va_G) (cI cL cQ : ClassId) (d : Nat → Nat) (κ : Nat → Option va_E) (sz : Nat) (v : Int64)  : Met l yM_isAmount wM_isAmount { frames := 0, cells := 0, slots := 0, locals := 0 } (va_Pc [.long (v)] (kC D vCl (kT cI cL cQ) d κ sz)) (vp_Si (fun r => r = f_M_isAmount v)) 0 0 (fun _ => False) := by
  refine kMet (by decide) (Nat.le_of_ble_eq_true rfl) ?_
  intro p0 e0 s0 m0 below0 meth0 c0 hx hb hr hml hown hlocks hin hts hsz hP hK ls hl
  have hl : lv_has ls 2 [(0, .long (v))] := hl
  refine lv_lload_n hx hb dM_isAmount_0 rfl (lv_at hl 0 rfl) ?_
  refine lv_lconst (v := 1) hx hb dM_isAmount_1 (by decide) ?_
  refine kl_lt (tgt := 18) hx hb dM_isAmount_2 dM_isAmount_3 (by decide) (fun c_2 => ?_) (fun c_2 => ?_)
  · refine lv_iconst (v := 0) hx hb dM_isAmount_18 (by decide) ?_
    exact W.zret (v := 0) hx hb hr k_nar0 (fun t ht hW => ⟨_, rfl, by rw [f_M_isAmount, if_pos c_2], ht⟩) (fun q h => by cases h) dM_isAmount_19
  · refine lv_lload_n hx hb dM_isAmount_6 rfl (lv_at hl 0 rfl) ?_
    refine lv_ldc2 (v := 999999999999999) hx hb hown (hts _ tw_490) dM_isAmount_7 ?_
    refine kl_gt (tgt := 18) hx hb dM_isAmount_10 dM_isAmount_11 (by decide) (fun c_10 => ?_) (fun c_10 => ?_)
    · refine lv_iconst (v := 0) hx hb dM_isAmount_18 (by decide) ?_
      exact W.zret (v := 0) hx hb hr k_nar0 (fun t ht hW => ⟨_, rfl, by rw [f_M_isAmount, if_neg c_2, if_pos c_10], ht⟩) (fun q h => by cases h) dM_isAmount_19
    · refine lv_iconst (v := 1) hx hb dM_isAmount_14 (by decide) ?_
      refine lv_goto (tgt := 19) hx hb dM_isAmount_15 (by decide) ?_
      exact W.zret (v := 1) hx hb hr k_nar1 (fun t ht hW => ⟨_, rfl, by rw [f_M_isAmount, if_neg c_2, if_neg c_10], ht⟩) (fun q h => by cases h) dM_isAmount_19

theorem dM_isPrice_0 : decode prog_6_method_18_code 0 = .ok (.lload_n 0, 1) := by decide +kernel
theorem dM_isPrice_1 : decode prog_6_method_18_code 1 = .ok (.lconst 0, 1) := by decide +kernel
theorem dM_isPrice_2 : decode prog_6_method_18_code 2 = .ok (.lcmp, 1) := by decide +kernel
theorem dM_isPrice_3 : decode prog_6_method_18_code 3 = .ok (.ifCond .lt 25, 3) := by decide +kernel
theorem dM_isPrice_6 : decode prog_6_method_18_code 6 = .ok (.lload_n 0, 1) := by decide +kernel
theorem dM_isPrice_7 : decode prog_6_method_18_code 7 = .ok (.ldc2_w 107, 3) := by decide +kernel
theorem dM_isPrice_10 : decode prog_6_method_18_code 10 = .ok (.lcmp, 1) := by decide +kernel
theorem dM_isPrice_11 : decode prog_6_method_18_code 11 = .ok (.ifCond .gt 17, 3) := by decide +kernel
theorem dM_isPrice_14 : decode prog_6_method_18_code 14 = .ok (.iload_n 2, 1) := by decide +kernel
theorem dM_isPrice_15 : decode prog_6_method_18_code 15 = .ok (.ifCond .lt 13, 3) := by decide +kernel
theorem dM_isPrice_18 : decode prog_6_method_18_code 18 = .ok (.iload_n 2, 1) := by decide +kernel
theorem dM_isPrice_19 : decode prog_6_method_18_code 19 = .ok (.bipush 99, 2) := by decide +kernel
theorem dM_isPrice_21 : decode prog_6_method_18_code 21 = .ok (.if_icmp .gt 7, 3) := by decide +kernel
theorem dM_isPrice_24 : decode prog_6_method_18_code 24 = .ok (.iconst 1, 1) := by decide +kernel
theorem dM_isPrice_25 : decode prog_6_method_18_code 25 = .ok (.goto 4, 3) := by decide +kernel
theorem dM_isPrice_28 : decode prog_6_method_18_code 28 = .ok (.iconst 0, 1) := by decide +kernel
theorem dM_isPrice_29 : decode prog_6_method_18_code 29 = .ok (.ireturn, 1) := by decide +kernel
def f_M_isPrice (each : Int64) (cut : Int32) : Int32 := if each < 0 then 0 else (if 999999999999999 < each then 0 else (if cut < 0 then 0 else (if 99 < cut then 0 else 1)))
theorem b_M_isPrice (each : Int64) (cut : Int32) : f_M_isPrice each cut = 0 ∨ f_M_isPrice each cut = 1 := by
  unfold f_M_isPrice
  repeat' (first | split | exact Or.inl rfl | exact Or.inr rfl)
set_option maxHeartbeats 4000000 in
set_option maxRecDepth 100000 in
theorem c_M_isPrice (l : Launch) (D : va_G) (cI cL cQ : ClassId) (d : Nat → Nat) (κ : Nat → Option va_E) (sz : Nat) (each : Int64) (cut : Int32)  : Met l yM_isPrice wM_isPrice { frames := 0, cells := 0, slots := 0, locals := 0 } (va_Pc [.long (each), .int (cut)] (kC D vCl (kT cI cL cQ) d κ sz)) (vp_Si (fun r => r = f_M_isPrice each cut)) 0 0 (fun _ => False) := by
  refine kMet (by decide) (Nat.le_of_ble_eq_true rfl) ?_
  intro p0 e0 s0 m0 below0 meth0 c0 hx hb hr hml hown hlocks hin hts hsz hP hK ls hl
  have hl : lv_has ls 3 [(0, .long (each)), (2, .int (cut))] := hl
  refine lv_lload_n hx hb dM_isPrice_0 rfl (lv_at hl 0 rfl) ?_
  refine lv_lconst (v := 0) hx hb dM_isPrice_1 (by decide) ?_
  refine kl_lt (tgt := 28) hx hb dM_isPrice_2 dM_isPrice_3 (by decide) (fun c_2 => ?_) (fun c_2 => ?_)
  · refine lv_iconst (v := 0) hx hb dM_isPrice_28 (by decide) ?_
    exact W.zret (v := 0) hx hb hr k_nar0 (fun t ht hW => ⟨_, rfl, by rw [f_M_isPrice, if_pos c_2], ht⟩) (fun q h => by cases h) dM_isPrice_29
  · refine lv_lload_n hx hb dM_isPrice_6 rfl (lv_at hl 0 rfl) ?_
    refine lv_ldc2 (v := 999999999999999) hx hb hown (hts _ tw_490) dM_isPrice_7 ?_
    refine kl_gt (tgt := 28) hx hb dM_isPrice_10 dM_isPrice_11 (by decide) (fun c_10 => ?_) (fun c_10 => ?_)
    · refine lv_iconst (v := 0) hx hb dM_isPrice_28 (by decide) ?_
      exact W.zret (v := 0) hx hb hr k_nar0 (fun t ht hW => ⟨_, rfl, by rw [f_M_isPrice, if_neg c_2, if_pos c_10], ht⟩) (fun q h => by cases h) dM_isPrice_29
    · refine lv_iload_n hx hb dM_isPrice_14 rfl (lv_at hl 1 rfl) ?_
      refine lv_if_lt (tgt := 28) hx hb dM_isPrice_15 (by decide) (fun c_15 => ?_) (fun c_15 => ?_)
      · refine lv_iconst (v := 0) hx hb dM_isPrice_28 (by decide) ?_
        exact W.zret (v := 0) hx hb hr k_nar0 (fun t ht hW => ⟨_, rfl, by rw [f_M_isPrice, if_neg c_2, if_neg c_10, if_pos c_15], ht⟩) (fun q h => by cases h) dM_isPrice_29
      · refine lv_iload_n hx hb dM_isPrice_18 rfl (lv_at hl 1 rfl) ?_
        refine lv_bipush (v := 99) hx hb dM_isPrice_19 (by decide) ?_
        refine lv_icmp_gt (tgt := 28) hx hb dM_isPrice_21 (by decide) (fun c_21 => ?_) (fun c_21 => ?_)
        · refine lv_iconst (v := 0) hx hb dM_isPrice_28 (by decide) ?_
          exact W.zret (v := 0) hx hb hr k_nar0 (fun t ht hW => ⟨_, rfl, by rw [f_M_isPrice, if_neg c_2, if_neg c_10, if_neg c_15, if_pos c_21], ht⟩) (fun q h => by cases h) dM_isPrice_29
        · refine lv_iconst (v := 1) hx hb dM_isPrice_24 (by decide) ?_
          refine lv_goto (tgt := 29) hx hb dM_isPrice_25 (by decide) ?_
          exact W.zret (v := 1) hx hb hr k_nar1 (fun t ht hW => ⟨_, rfl, by rw [f_M_isPrice, if_neg c_2, if_neg c_10, if_neg c_15, if_neg c_21], ht⟩) (fun q h => by cases h) dM_isPrice_29

theorem dM_worth_0 : decode prog_6_method_5_code 0 = .ok (.ldc2_w 81, 3) := by decide +kernel
theorem dM_worth_3 : decode prog_6_method_5_code 3 = .ok (.iload 4, 2) := by decide +kernel
theorem dM_worth_5 : decode prog_6_method_5_code 5 = .ok (.i2l, 1) := by decide +kernel
theorem dM_worth_6 : decode prog_6_method_5_code 6 = .ok (.lsub, 1) := by decide +kernel
theorem dM_worth_7 : decode prog_6_method_5_code 7 = .ok (.lstore 5, 2) := by decide +kernel
theorem dM_worth_9 : decode prog_6_method_5_code 9 = .ok (.lload_n 0, 1) := by decide +kernel
theorem dM_worth_10 : decode prog_6_method_5_code 10 = .ok (.ldc2_w 81, 3) := by decide +kernel
theorem dM_worth_13 : decode prog_6_method_5_code 13 = .ok (.ldiv, 1) := by decide +kernel
theorem dM_worth_14 : decode prog_6_method_5_code 14 = .ok (.lstore 7, 2) := by decide +kernel
theorem dM_worth_16 : decode prog_6_method_5_code 16 = .ok (.lload_n 0, 1) := by decide +kernel
theorem dM_worth_17 : decode prog_6_method_5_code 17 = .ok (.ldc2_w 81, 3) := by decide +kernel
theorem dM_worth_20 : decode prog_6_method_5_code 20 = .ok (.lrem, 1) := by decide +kernel
theorem dM_worth_21 : decode prog_6_method_5_code 21 = .ok (.lload 5, 2) := by decide +kernel
theorem dM_worth_23 : decode prog_6_method_5_code 23 = .ok (.lmul, 1) := by decide +kernel
theorem dM_worth_24 : decode prog_6_method_5_code 24 = .ok (.lstore 9, 2) := by decide +kernel
theorem dM_worth_26 : decode prog_6_method_5_code 26 = .ok (.lload_n 2, 1) := by decide +kernel
theorem dM_worth_27 : decode prog_6_method_5_code 27 = .ok (.lconst 0, 1) := by decide +kernel
theorem dM_worth_28 : decode prog_6_method_5_code 28 = .ok (.lcmp, 1) := by decide +kernel
theorem dM_worth_29 : decode prog_6_method_5_code 29 = .ok (.ifCond .le 28, 3) := by decide +kernel
theorem dM_worth_32 : decode prog_6_method_5_code 32 = .ok (.lload 5, 2) := by decide +kernel
theorem dM_worth_34 : decode prog_6_method_5_code 34 = .ok (.lconst 0, 1) := by decide +kernel
theorem dM_worth_35 : decode prog_6_method_5_code 35 = .ok (.lcmp, 1) := by decide +kernel
theorem dM_worth_36 : decode prog_6_method_5_code 36 = .ok (.ifCond .le 21, 3) := by decide +kernel
theorem dM_worth_39 : decode prog_6_method_5_code 39 = .ok (.lload 7, 2) := by decide +kernel
theorem dM_worth_41 : decode prog_6_method_5_code 41 = .ok (.ldc2_w 83, 3) := by decide +kernel
theorem dM_worth_44 : decode prog_6_method_5_code 44 = .ok (.lload_n 2, 1) := by decide +kernel
theorem dM_worth_45 : decode prog_6_method_5_code 45 = .ok (.lload 5, 2) := by decide +kernel
theorem dM_worth_47 : decode prog_6_method_5_code 47 = .ok (.lmul, 1) := by decide +kernel
theorem dM_worth_48 : decode prog_6_method_5_code 48 = .ok (.ldiv, 1) := by decide +kernel
theorem dM_worth_49 : decode prog_6_method_5_code 49 = .ok (.lcmp, 1) := by decide +kernel
theorem dM_worth_50 : decode prog_6_method_5_code 50 = .ok (.ifCond .le 7, 3) := by decide +kernel
theorem dM_worth_53 : decode prog_6_method_5_code 53 = .ok (.ldc2_w 83, 3) := by decide +kernel
theorem dM_worth_56 : decode prog_6_method_5_code 56 = .ok (.lreturn, 1) := by decide +kernel
theorem dM_worth_57 : decode prog_6_method_5_code 57 = .ok (.lload 7, 2) := by decide +kernel
theorem dM_worth_59 : decode prog_6_method_5_code 59 = .ok (.lload_n 2, 1) := by decide +kernel
theorem dM_worth_60 : decode prog_6_method_5_code 60 = .ok (.lload 5, 2) := by decide +kernel
theorem dM_worth_62 : decode prog_6_method_5_code 62 = .ok (.lmul, 1) := by decide +kernel
theorem dM_worth_63 : decode prog_6_method_5_code 63 = .ok (.lmul, 1) := by decide +kernel
theorem dM_worth_64 : decode prog_6_method_5_code 64 = .ok (.lload 9, 2) := by decide +kernel
theorem dM_worth_66 : decode prog_6_method_5_code 66 = .ok (.lload_n 2, 1) := by decide +kernel
theorem dM_worth_67 : decode prog_6_method_5_code 67 = .ok (.ldc2_w 81, 3) := by decide +kernel
theorem dM_worth_70 : decode prog_6_method_5_code 70 = .ok (.ldiv, 1) := by decide +kernel
theorem dM_worth_71 : decode prog_6_method_5_code 71 = .ok (.lmul, 1) := by decide +kernel
theorem dM_worth_72 : decode prog_6_method_5_code 72 = .ok (.ladd, 1) := by decide +kernel
theorem dM_worth_73 : decode prog_6_method_5_code 73 = .ok (.lload 9, 2) := by decide +kernel
theorem dM_worth_75 : decode prog_6_method_5_code 75 = .ok (.lload_n 2, 1) := by decide +kernel
theorem dM_worth_76 : decode prog_6_method_5_code 76 = .ok (.ldc2_w 81, 3) := by decide +kernel
theorem dM_worth_79 : decode prog_6_method_5_code 79 = .ok (.lrem, 1) := by decide +kernel
theorem dM_worth_80 : decode prog_6_method_5_code 80 = .ok (.lmul, 1) := by decide +kernel
theorem dM_worth_81 : decode prog_6_method_5_code 81 = .ok (.ldc2_w 81, 3) := by decide +kernel
theorem dM_worth_84 : decode prog_6_method_5_code 84 = .ok (.ldiv, 1) := by decide +kernel
theorem dM_worth_85 : decode prog_6_method_5_code 85 = .ok (.ladd, 1) := by decide +kernel
theorem dM_worth_86 : decode prog_6_method_5_code 86 = .ok (.lstore 11, 2) := by decide +kernel
theorem dM_worth_88 : decode prog_6_method_5_code 88 = .ok (.lload 11, 2) := by decide +kernel
theorem dM_worth_90 : decode prog_6_method_5_code 90 = .ok (.ldc2_w 83, 3) := by decide +kernel
theorem dM_worth_93 : decode prog_6_method_5_code 93 = .ok (.lcmp, 1) := by decide +kernel
theorem dM_worth_94 : decode prog_6_method_5_code 94 = .ok (.ifCond .le 9, 3) := by decide +kernel
theorem dM_worth_97 : decode prog_6_method_5_code 97 = .ok (.ldc2_w 83, 3) := by decide +kernel
theorem dM_worth_100 : decode prog_6_method_5_code 100 = .ok (.goto 5, 3) := by decide +kernel
theorem dM_worth_103 : decode prog_6_method_5_code 103 = .ok (.lload 11, 2) := by decide +kernel
theorem dM_worth_105 : decode prog_6_method_5_code 105 = .ok (.lreturn, 1) := by decide +kernel
def f_M_worth (many : Int64) (each : Int64) (cut : Int32) : Int64 := if 0 < each then (if 0 < (100 - ((cut).toInt64)) then (if (4100000000000000000 / (each * (100 - ((cut).toInt64)))) < (many / 100) then 4100000000000000000 else (if 4100000000000000000 < ((((many / 100) * (each * (100 - ((cut).toInt64)))) + (((many - many / 100 * 100) * (100 - ((cut).toInt64))) * (each / 100))) + ((((many - many / 100 * 100) * (100 - ((cut).toInt64))) * (each - each / 100 * 100)) / 100)) then 4100000000000000000 else ((((many / 100) * (each * (100 - ((cut).toInt64)))) + (((many - many / 100 * 100) * (100 - ((cut).toInt64))) * (each / 100))) + ((((many - many / 100 * 100) * (100 - ((cut).toInt64))) * (each - each / 100 * 100)) / 100)))) else (if 4100000000000000000 < ((((many / 100) * (each * (100 - ((cut).toInt64)))) + (((many - many / 100 * 100) * (100 - ((cut).toInt64))) * (each / 100))) + ((((many - many / 100 * 100) * (100 - ((cut).toInt64))) * (each - each / 100 * 100)) / 100)) then 4100000000000000000 else ((((many / 100) * (each * (100 - ((cut).toInt64)))) + (((many - many / 100 * 100) * (100 - ((cut).toInt64))) * (each / 100))) + ((((many - many / 100 * 100) * (100 - ((cut).toInt64))) * (each - each / 100 * 100)) / 100)))) else (if 4100000000000000000 < ((((many / 100) * (each * (100 - ((cut).toInt64)))) + (((many - many / 100 * 100) * (100 - ((cut).toInt64))) * (each / 100))) + ((((many - many / 100 * 100) * (100 - ((cut).toInt64))) * (each - each / 100 * 100)) / 100)) then 4100000000000000000 else ((((many / 100) * (each * (100 - ((cut).toInt64)))) + (((many - many / 100 * 100) * (100 - ((cut).toInt64))) * (each / 100))) + ((((many - many / 100 * 100) * (100 - ((cut).toInt64))) * (each - each / 100 * 100)) / 100)))
set_option maxHeartbeats 4000000 in
set_option maxRecDepth 100000 in
theorem c_M_worth (l : Launch) (D : va_G) (cI cL cQ : ClassId) (d : Nat → Nat) (κ : Nat → Option va_E) (sz : Nat) (many : Int64) (each : Int64) (cut : Int32) (hw : 0 < each → 0 < 100 - cut.toInt64 → ¬ each * (100 - cut.toInt64) = 0) : Met l yM_worth wM_worth { frames := 0, cells := 0, slots := 0, locals := 0 } (va_Pc [.long (many), .long (each), .int (cut)] (kC D vCl (kT cI cL cQ) d κ sz)) (vp_Sl (fun r => r = f_M_worth many each cut)) 0 0 (fun _ => False) := by
  refine kMet (by decide) (Nat.le_of_ble_eq_true rfl) ?_
  intro p0 e0 s0 m0 below0 meth0 c0 hx hb hr hml hown hlocks hin hts hsz hP hK ls hl
  have hl : lv_has ls 13 [(0, .long (many)), (2, .long (each)), (4, .int (cut))] := hl
  refine lv_ldc2 (v := 100) hx hb hown (hts _ tw_518) dM_worth_0 ?_
  refine lv_iload hx hb dM_worth_3 (lv_at hl 2 rfl) ?_
  refine lv_i2l hx hb dM_worth_5 rfl ?_
  refine lv_lsub hx hb dM_worth_6 ?_
  refine lv_lstore (lv' := [(5, .long (100 - ((cut).toInt64))), (0, .long (many)), (2, .long (each)), (4, .int (cut))]) hx hb dM_worth_7 hl (by decide) rfl (fun ls hl => ?_)
  refine lv_lload_n hx hb dM_worth_9 rfl (lv_at hl 1 rfl) ?_
  refine lv_ldc2 (v := 100) hx hb hown (hts _ tw_518) dM_worth_10 ?_
  refine lv_ldiv hx hb dM_worth_13 (by decide) ?_
  refine lv_lstore (lv' := [(7, .long (many / 100)), (5, .long (100 - ((cut).toInt64))), (0, .long (many)), (2, .long (each)), (4, .int (cut))]) hx hb dM_worth_14 hl (by decide) rfl (fun ls hl => ?_)
  refine lv_lload_n hx hb dM_worth_16 rfl (lv_at hl 2 rfl) ?_
  refine lv_ldc2 (v := 100) hx hb hown (hts _ tw_518) dM_worth_17 ?_
  refine lv_lrem hx hb dM_worth_20 (by decide) ?_
  refine lv_lload hx hb dM_worth_21 (lv_at hl 1 rfl) ?_
  refine lv_lmul hx hb dM_worth_23 ?_
  refine lv_lstore (lv' := [(9, .long ((many - many / 100 * 100) * (100 - ((cut).toInt64)))), (7, .long (many / 100)), (5, .long (100 - ((cut).toInt64))), (0, .long (many)), (2, .long (each)), (4, .int (cut))]) hx hb dM_worth_24 hl (by decide) rfl (fun ls hl => ?_)
  refine lv_lload_n hx hb dM_worth_26 rfl (lv_at hl 4 rfl) ?_
  refine lv_lconst (v := 0) hx hb dM_worth_27 (by decide) ?_
  refine kl_le (tgt := 57) hx hb dM_worth_28 dM_worth_29 (by decide) (fun c_28 => ?_) (fun c_28 => ?_)
  · refine lv_lload hx hb dM_worth_57 (lv_at hl 1 rfl) ?_
    refine lv_lload_n hx hb dM_worth_59 rfl (lv_at hl 4 rfl) ?_
    refine lv_lload hx hb dM_worth_60 (lv_at hl 2 rfl) ?_
    refine lv_lmul hx hb dM_worth_62 ?_
    refine lv_lmul hx hb dM_worth_63 ?_
    refine lv_lload hx hb dM_worth_64 (lv_at hl 0 rfl) ?_
    refine lv_lload_n hx hb dM_worth_66 rfl (lv_at hl 4 rfl) ?_
    refine lv_ldc2 (v := 100) hx hb hown (hts _ tw_518) dM_worth_67 ?_
    refine lv_ldiv hx hb dM_worth_70 (by decide) ?_
    refine lv_lmul hx hb dM_worth_71 ?_
    refine lv_ladd hx hb dM_worth_72 ?_
    refine lv_lload hx hb dM_worth_73 (lv_at hl 0 rfl) ?_
    refine lv_lload_n hx hb dM_worth_75 rfl (lv_at hl 4 rfl) ?_
    refine lv_ldc2 (v := 100) hx hb hown (hts _ tw_518) dM_worth_76 ?_
    refine lv_lrem hx hb dM_worth_79 (by decide) ?_
    refine lv_lmul hx hb dM_worth_80 ?_
    refine lv_ldc2 (v := 100) hx hb hown (hts _ tw_518) dM_worth_81 ?_
    refine lv_ldiv hx hb dM_worth_84 (by decide) ?_
    refine lv_ladd hx hb dM_worth_85 ?_
    refine lv_lstore (lv' := [(11, .long ((((many / 100) * (each * (100 - ((cut).toInt64)))) + (((many - many / 100 * 100) * (100 - ((cut).toInt64))) * (each / 100))) + ((((many - many / 100 * 100) * (100 - ((cut).toInt64))) * (each - each / 100 * 100)) / 100))), (9, .long ((many - many / 100 * 100) * (100 - ((cut).toInt64)))), (7, .long (many / 100)), (5, .long (100 - ((cut).toInt64))), (0, .long (many)), (2, .long (each)), (4, .int (cut))]) hx hb dM_worth_86 hl (by decide) rfl (fun ls hl => ?_)
    refine lv_lload hx hb dM_worth_88 (lv_at hl 0 rfl) ?_
    refine lv_ldc2 (v := 4100000000000000000) hx hb hown (hts _ tw_519) dM_worth_90 ?_
    refine kl_le (tgt := 103) hx hb dM_worth_93 dM_worth_94 (by decide) (fun c_93 => ?_) (fun c_93 => ?_)
    · refine lv_lload hx hb dM_worth_103 (lv_at hl 0 rfl) ?_
      exact W.lret (v := (((many / 100) * (each * (100 - ((cut).toInt64)))) + (((many - many / 100 * 100) * (100 - ((cut).toInt64))) * (each / 100))) + ((((many - many / 100 * 100) * (100 - ((cut).toInt64))) * (each - each / 100 * 100)) / 100)) hx hb hr (fun t ht hW => ⟨_, rfl, by rw [f_M_worth, if_neg c_28, if_neg c_93], ht⟩) (fun q h => by cases h) dM_worth_105
    · refine lv_ldc2 (v := 4100000000000000000) hx hb hown (hts _ tw_519) dM_worth_97 ?_
      refine lv_goto (tgt := 105) hx hb dM_worth_100 (by decide) ?_
      exact W.lret (v := 4100000000000000000) hx hb hr (fun t ht hW => ⟨_, rfl, by rw [f_M_worth, if_neg c_28, if_pos c_93], ht⟩) (fun q h => by cases h) dM_worth_105
  · refine lv_lload hx hb dM_worth_32 (lv_at hl 2 rfl) ?_
    refine lv_lconst (v := 0) hx hb dM_worth_34 (by decide) ?_
    refine kl_le (tgt := 57) hx hb dM_worth_35 dM_worth_36 (by decide) (fun c_35 => ?_) (fun c_35 => ?_)
    · refine lv_lload hx hb dM_worth_57 (lv_at hl 1 rfl) ?_
      refine lv_lload_n hx hb dM_worth_59 rfl (lv_at hl 4 rfl) ?_
      refine lv_lload hx hb dM_worth_60 (lv_at hl 2 rfl) ?_
      refine lv_lmul hx hb dM_worth_62 ?_
      refine lv_lmul hx hb dM_worth_63 ?_
      refine lv_lload hx hb dM_worth_64 (lv_at hl 0 rfl) ?_
      refine lv_lload_n hx hb dM_worth_66 rfl (lv_at hl 4 rfl) ?_
      refine lv_ldc2 (v := 100) hx hb hown (hts _ tw_518) dM_worth_67 ?_
      refine lv_ldiv hx hb dM_worth_70 (by decide) ?_
      refine lv_lmul hx hb dM_worth_71 ?_
      refine lv_ladd hx hb dM_worth_72 ?_
      refine lv_lload hx hb dM_worth_73 (lv_at hl 0 rfl) ?_
      refine lv_lload_n hx hb dM_worth_75 rfl (lv_at hl 4 rfl) ?_
      refine lv_ldc2 (v := 100) hx hb hown (hts _ tw_518) dM_worth_76 ?_
      refine lv_lrem hx hb dM_worth_79 (by decide) ?_
      refine lv_lmul hx hb dM_worth_80 ?_
      refine lv_ldc2 (v := 100) hx hb hown (hts _ tw_518) dM_worth_81 ?_
      refine lv_ldiv hx hb dM_worth_84 (by decide) ?_
      refine lv_ladd hx hb dM_worth_85 ?_
      refine lv_lstore (lv' := [(11, .long ((((many / 100) * (each * (100 - ((cut).toInt64)))) + (((many - many / 100 * 100) * (100 - ((cut).toInt64))) * (each / 100))) + ((((many - many / 100 * 100) * (100 - ((cut).toInt64))) * (each - each / 100 * 100)) / 100))), (9, .long ((many - many / 100 * 100) * (100 - ((cut).toInt64)))), (7, .long (many / 100)), (5, .long (100 - ((cut).toInt64))), (0, .long (many)), (2, .long (each)), (4, .int (cut))]) hx hb dM_worth_86 hl (by decide) rfl (fun ls hl => ?_)
      refine lv_lload hx hb dM_worth_88 (lv_at hl 0 rfl) ?_
      refine lv_ldc2 (v := 4100000000000000000) hx hb hown (hts _ tw_519) dM_worth_90 ?_
      refine kl_le (tgt := 103) hx hb dM_worth_93 dM_worth_94 (by decide) (fun c_93 => ?_) (fun c_93 => ?_)
      · refine lv_lload hx hb dM_worth_103 (lv_at hl 0 rfl) ?_
        exact W.lret (v := (((many / 100) * (each * (100 - ((cut).toInt64)))) + (((many - many / 100 * 100) * (100 - ((cut).toInt64))) * (each / 100))) + ((((many - many / 100 * 100) * (100 - ((cut).toInt64))) * (each - each / 100 * 100)) / 100)) hx hb hr (fun t ht hW => ⟨_, rfl, by rw [f_M_worth, if_pos c_28, if_neg c_35, if_neg c_93], ht⟩) (fun q h => by cases h) dM_worth_105
      · refine lv_ldc2 (v := 4100000000000000000) hx hb hown (hts _ tw_519) dM_worth_97 ?_
        refine lv_goto (tgt := 105) hx hb dM_worth_100 (by decide) ?_
        exact W.lret (v := 4100000000000000000) hx hb hr (fun t ht hW => ⟨_, rfl, by rw [f_M_worth, if_pos c_28, if_neg c_35, if_pos c_93], ht⟩) (fun q h => by cases h) dM_worth_105
    · refine lv_lload hx hb dM_worth_39 (lv_at hl 1 rfl) ?_
      refine lv_ldc2 (v := 4100000000000000000) hx hb hown (hts _ tw_519) dM_worth_41 ?_
      refine lv_lload_n hx hb dM_worth_44 rfl (lv_at hl 4 rfl) ?_
      refine lv_lload hx hb dM_worth_45 (lv_at hl 2 rfl) ?_
      refine lv_lmul hx hb dM_worth_47 ?_
      refine lv_ldiv hx hb dM_worth_48 (hw (by assumption) (by assumption)) ?_
      refine kl_le (tgt := 57) hx hb dM_worth_49 dM_worth_50 (by decide) (fun c_49 => ?_) (fun c_49 => ?_)
      · refine lv_lload hx hb dM_worth_57 (lv_at hl 1 rfl) ?_
        refine lv_lload_n hx hb dM_worth_59 rfl (lv_at hl 4 rfl) ?_
        refine lv_lload hx hb dM_worth_60 (lv_at hl 2 rfl) ?_
        refine lv_lmul hx hb dM_worth_62 ?_
        refine lv_lmul hx hb dM_worth_63 ?_
        refine lv_lload hx hb dM_worth_64 (lv_at hl 0 rfl) ?_
        refine lv_lload_n hx hb dM_worth_66 rfl (lv_at hl 4 rfl) ?_
        refine lv_ldc2 (v := 100) hx hb hown (hts _ tw_518) dM_worth_67 ?_
        refine lv_ldiv hx hb dM_worth_70 (by decide) ?_
        refine lv_lmul hx hb dM_worth_71 ?_
        refine lv_ladd hx hb dM_worth_72 ?_
        refine lv_lload hx hb dM_worth_73 (lv_at hl 0 rfl) ?_
        refine lv_lload_n hx hb dM_worth_75 rfl (lv_at hl 4 rfl) ?_
        refine lv_ldc2 (v := 100) hx hb hown (hts _ tw_518) dM_worth_76 ?_
        refine lv_lrem hx hb dM_worth_79 (by decide) ?_
        refine lv_lmul hx hb dM_worth_80 ?_
        refine lv_ldc2 (v := 100) hx hb hown (hts _ tw_518) dM_worth_81 ?_
        refine lv_ldiv hx hb dM_worth_84 (by decide) ?_
        refine lv_ladd hx hb dM_worth_85 ?_
        refine lv_lstore (lv' := [(11, .long ((((many / 100) * (each * (100 - ((cut).toInt64)))) + (((many - many / 100 * 100) * (100 - ((cut).toInt64))) * (each / 100))) + ((((many - many / 100 * 100) * (100 - ((cut).toInt64))) * (each - each / 100 * 100)) / 100))), (9, .long ((many - many / 100 * 100) * (100 - ((cut).toInt64)))), (7, .long (many / 100)), (5, .long (100 - ((cut).toInt64))), (0, .long (many)), (2, .long (each)), (4, .int (cut))]) hx hb dM_worth_86 hl (by decide) rfl (fun ls hl => ?_)
        refine lv_lload hx hb dM_worth_88 (lv_at hl 0 rfl) ?_
        refine lv_ldc2 (v := 4100000000000000000) hx hb hown (hts _ tw_519) dM_worth_90 ?_
        refine kl_le (tgt := 103) hx hb dM_worth_93 dM_worth_94 (by decide) (fun c_93 => ?_) (fun c_93 => ?_)
        · refine lv_lload hx hb dM_worth_103 (lv_at hl 0 rfl) ?_
          exact W.lret (v := (((many / 100) * (each * (100 - ((cut).toInt64)))) + (((many - many / 100 * 100) * (100 - ((cut).toInt64))) * (each / 100))) + ((((many - many / 100 * 100) * (100 - ((cut).toInt64))) * (each - each / 100 * 100)) / 100)) hx hb hr (fun t ht hW => ⟨_, rfl, by rw [f_M_worth, if_pos c_28, if_pos c_35, if_neg c_49, if_neg c_93], ht⟩) (fun q h => by cases h) dM_worth_105
        · refine lv_ldc2 (v := 4100000000000000000) hx hb hown (hts _ tw_519) dM_worth_97 ?_
          refine lv_goto (tgt := 105) hx hb dM_worth_100 (by decide) ?_
          exact W.lret (v := 4100000000000000000) hx hb hr (fun t ht hW => ⟨_, rfl, by rw [f_M_worth, if_pos c_28, if_pos c_35, if_neg c_49, if_pos c_93], ht⟩) (fun q h => by cases h) dM_worth_105
      · refine lv_ldc2 (v := 4100000000000000000) hx hb hown (hts _ tw_519) dM_worth_53 ?_
        exact W.lret (v := 4100000000000000000) hx hb hr (fun t ht hW => ⟨_, rfl, by rw [f_M_worth, if_pos c_28, if_pos c_35, if_pos c_49], ht⟩) (fun q h => by cases h) dM_worth_56

theorem dM_isParticipant_0 : decode prog_6_method_10_code 0 = .ok (.iload_n 1, 1) := by decide +kernel
theorem dM_isParticipant_1 : decode prog_6_method_10_code 1 = .ok (.ifCond .le 15, 3) := by decide +kernel
theorem dM_isParticipant_4 : decode prog_6_method_10_code 4 = .ok (.iload_n 1, 1) := by decide +kernel
theorem dM_isParticipant_5 : decode prog_6_method_10_code 5 = .ok (.aload_n 0, 1) := by decide +kernel
theorem dM_isParticipant_6 : decode prog_6_method_10_code 6 = .ok (.getfield 66, 3) := by decide +kernel
theorem dM_isParticipant_9 : decode prog_6_method_10_code 9 = .ok (.if_icmp .ge 7, 3) := by decide +kernel
theorem dM_isParticipant_12 : decode prog_6_method_10_code 12 = .ok (.iconst 1, 1) := by decide +kernel
theorem dM_isParticipant_13 : decode prog_6_method_10_code 13 = .ok (.goto 4, 3) := by decide +kernel
theorem dM_isParticipant_16 : decode prog_6_method_10_code 16 = .ok (.iconst 0, 1) := by decide +kernel
theorem dM_isParticipant_17 : decode prog_6_method_10_code 17 = .ok (.ireturn, 1) := by decide +kernel
def f_M_isParticipant (m : MS) (p : Int32) : Int32 := if p ≤ 0 then 0 else (if (nI (m.1 0)) ≤ p then 0 else 1)
theorem b_M_isParticipant (m : MS) (p : Int32) : f_M_isParticipant m p = 0 ∨ f_M_isParticipant m p = 1 := by
  unfold f_M_isParticipant
  repeat' (first | split | exact Or.inl rfl | exact Or.inr rfl)
set_option maxHeartbeats 4000000 in
set_option maxRecDepth 100000 in
theorem c_M_isParticipant (l : Launch) (D : va_G) (cI cL cQ : ClassId) (d : Nat → Nat) (κ : Nat → Option va_E) (m : MS) (hm : IsM cI cL d κ m) (hB : MB m) (sz : Nat) (p : Int32)  : Met l yM_isParticipant wM_isParticipant { frames := 0, cells := 0, slots := 0, locals := 0 } (va_Pc [.ref (d 0), .int (p)] (kC D vCl (kT cI cL cQ) d κ sz)) (vp_Si (fun r => r = f_M_isParticipant m p)) 0 0 (fun _ => False) := by
  refine kMet (by decide) (Nat.le_of_ble_eq_true rfl) ?_
  intro p0 e0 s0 m0 below0 meth0 c0 hx hb hr hml hown hlocks hin hts hsz hP hK ls hl
  have hl : lv_has ls 2 [(0, .ref (d 0)), (1, .int (p))] := hl
  have hB9 := hB
  obtain ⟨hb0, hb1, hb2, hb3, hb4, hb5, hb6, hb7, hb8, hb9, hb10⟩ := hB9
  refine lv_iload_n hx hb dM_isParticipant_0 rfl (lv_at hl 1 rfl) ?_
  refine lv_if_le (tgt := 16) hx hb dM_isParticipant_1 (by decide) (fun c_1 => ?_) (fun c_1 => ?_)
  · refine lv_iconst (v := 0) hx hb dM_isParticipant_16 (by decide) ?_
    exact W.zret (v := 0) hx hb hr k_nar0 (fun t ht hW => ⟨_, rfl, by rw [f_M_isParticipant, if_pos c_1], ht⟩) (fun q h => by cases h) dM_isParticipant_17
  · refine lv_iload_n hx hb dM_isParticipant_4 rfl (lv_at hl 1 rfl) ?_
    refine lv_aload_n hx hb dM_isParticipant_5 rfl (lv_at hl 0 rfl) ?_
    refine ka_get (ci := 4) (C := RM) (T := TM) (N := 26) hx hb hts inM hown hK hP (q := 0) hm.1 rfl 0 (by decide) (hts _ tw_384) (fun _ h9 => h9) rfl dM_isParticipant_6 ?_
    refine lv_icmp_ge (tgt := 16) hx hb dM_isParticipant_9 (by decide) (fun c_9 => ?_) (fun c_9 => ?_)
    · refine lv_iconst (v := 0) hx hb dM_isParticipant_16 (by decide) ?_
      exact W.zret (v := 0) hx hb hr k_nar0 (fun t ht hW => ⟨_, rfl, by rw [f_M_isParticipant, if_neg c_1, if_pos c_9], ht⟩) (fun q h => by cases h) dM_isParticipant_17
    · refine lv_iconst (v := 1) hx hb dM_isParticipant_12 (by decide) ?_
      refine lv_goto (tgt := 17) hx hb dM_isParticipant_13 (by decide) ?_
      exact W.zret (v := 1) hx hb hr k_nar1 (fun t ht hW => ⟨_, rfl, by rw [f_M_isParticipant, if_neg c_1, if_neg c_9], ht⟩) (fun q h => by cases h) dM_isParticipant_17

theorem dM_isAsset_0 : decode prog_6_method_11_code 0 = .ok (.iload_n 1, 1) := by decide +kernel
theorem dM_isAsset_1 : decode prog_6_method_11_code 1 = .ok (.ifCond .lt 15, 3) := by decide +kernel
theorem dM_isAsset_4 : decode prog_6_method_11_code 4 = .ok (.iload_n 1, 1) := by decide +kernel
theorem dM_isAsset_5 : decode prog_6_method_11_code 5 = .ok (.aload_n 0, 1) := by decide +kernel
theorem dM_isAsset_6 : decode prog_6_method_11_code 6 = .ok (.getfield 85, 3) := by decide +kernel
theorem dM_isAsset_9 : decode prog_6_method_11_code 9 = .ok (.if_icmp .ge 7, 3) := by decide +kernel
theorem dM_isAsset_12 : decode prog_6_method_11_code 12 = .ok (.iconst 1, 1) := by decide +kernel
theorem dM_isAsset_13 : decode prog_6_method_11_code 13 = .ok (.goto 4, 3) := by decide +kernel
theorem dM_isAsset_16 : decode prog_6_method_11_code 16 = .ok (.iconst 0, 1) := by decide +kernel
theorem dM_isAsset_17 : decode prog_6_method_11_code 17 = .ok (.ireturn, 1) := by decide +kernel
def f_M_isAsset (m : MS) (a : Int32) : Int32 := if a < 0 then 0 else (if (nI (m.1 2)) ≤ a then 0 else 1)
theorem b_M_isAsset (m : MS) (a : Int32) : f_M_isAsset m a = 0 ∨ f_M_isAsset m a = 1 := by
  unfold f_M_isAsset
  repeat' (first | split | exact Or.inl rfl | exact Or.inr rfl)
set_option maxHeartbeats 4000000 in
set_option maxRecDepth 100000 in
theorem c_M_isAsset (l : Launch) (D : va_G) (cI cL cQ : ClassId) (d : Nat → Nat) (κ : Nat → Option va_E) (m : MS) (hm : IsM cI cL d κ m) (hB : MB m) (sz : Nat) (a : Int32)  : Met l yM_isAsset wM_isAsset { frames := 0, cells := 0, slots := 0, locals := 0 } (va_Pc [.ref (d 0), .int (a)] (kC D vCl (kT cI cL cQ) d κ sz)) (vp_Si (fun r => r = f_M_isAsset m a)) 0 0 (fun _ => False) := by
  refine kMet (by decide) (Nat.le_of_ble_eq_true rfl) ?_
  intro p0 e0 s0 m0 below0 meth0 c0 hx hb hr hml hown hlocks hin hts hsz hP hK ls hl
  have hl : lv_has ls 2 [(0, .ref (d 0)), (1, .int (a))] := hl
  have hB9 := hB
  obtain ⟨hb0, hb1, hb2, hb3, hb4, hb5, hb6, hb7, hb8, hb9, hb10⟩ := hB9
  refine lv_iload_n hx hb dM_isAsset_0 rfl (lv_at hl 1 rfl) ?_
  refine lv_if_lt (tgt := 16) hx hb dM_isAsset_1 (by decide) (fun c_1 => ?_) (fun c_1 => ?_)
  · refine lv_iconst (v := 0) hx hb dM_isAsset_16 (by decide) ?_
    exact W.zret (v := 0) hx hb hr k_nar0 (fun t ht hW => ⟨_, rfl, by rw [f_M_isAsset, if_pos c_1], ht⟩) (fun q h => by cases h) dM_isAsset_17
  · refine lv_iload_n hx hb dM_isAsset_4 rfl (lv_at hl 1 rfl) ?_
    refine lv_aload_n hx hb dM_isAsset_5 rfl (lv_at hl 0 rfl) ?_
    refine ka_get (ci := 4) (C := RM) (T := TM) (N := 26) hx hb hts inM hown hK hP (q := 0) hm.1 rfl 2 (by decide) (hts _ tw_386) (fun _ h9 => h9) rfl dM_isAsset_6 ?_
    refine lv_icmp_ge (tgt := 16) hx hb dM_isAsset_9 (by decide) (fun c_9 => ?_) (fun c_9 => ?_)
    · refine lv_iconst (v := 0) hx hb dM_isAsset_16 (by decide) ?_
      exact W.zret (v := 0) hx hb hr k_nar0 (fun t ht hW => ⟨_, rfl, by rw [f_M_isAsset, if_neg c_1, if_pos c_9], ht⟩) (fun q h => by cases h) dM_isAsset_17
    · refine lv_iconst (v := 1) hx hb dM_isAsset_12 (by decide) ?_
      refine lv_goto (tgt := 17) hx hb dM_isAsset_13 (by decide) ?_
      exact W.zret (v := 1) hx hb hr k_nar1 (fun t ht hW => ⟨_, rfl, by rw [f_M_isAsset, if_neg c_1, if_neg c_9], ht⟩) (fun q h => by cases h) dM_isAsset_17

theorem dM_pair_0 : decode prog_6_method_14_code 0 = .ok (.iload_n 1, 1) := by decide +kernel
theorem dM_pair_1 : decode prog_6_method_14_code 1 = .ok (.aload_n 0, 1) := by decide +kernel
theorem dM_pair_2 : decode prog_6_method_14_code 2 = .ok (.getfield 66, 3) := by decide +kernel
theorem dM_pair_5 : decode prog_6_method_14_code 5 = .ok (.aload_n 0, 1) := by decide +kernel
theorem dM_pair_6 : decode prog_6_method_14_code 6 = .ok (.getfield 69, 3) := by decide +kernel
theorem dM_pair_9 : decode prog_6_method_14_code 9 = .ok (.imul, 1) := by decide +kernel
theorem dM_pair_10 : decode prog_6_method_14_code 10 = .ok (.isub, 1) := by decide +kernel
theorem dM_pair_11 : decode prog_6_method_14_code 11 = .ok (.ireturn, 1) := by decide +kernel
def f_M_pair (m : MS) (id : Int32) : Int32 := id - ((nI (m.1 0)) * (nI (m.1 1)))
set_option maxHeartbeats 4000000 in
set_option maxRecDepth 100000 in
theorem c_M_pair (l : Launch) (D : va_G) (cI cL cQ : ClassId) (d : Nat → Nat) (κ : Nat → Option va_E) (m : MS) (hm : IsM cI cL d κ m) (hB : MB m) (sz : Nat) (id : Int32)  : Met l yM_pair wM_pair { frames := 0, cells := 0, slots := 0, locals := 0 } (va_Pc [.ref (d 0), .int (id)] (kC D vCl (kT cI cL cQ) d κ sz)) (vp_Si (fun r => r = f_M_pair m id)) 0 0 (fun _ => False) := by
  refine kMet (by decide) (Nat.le_of_ble_eq_true rfl) ?_
  intro p0 e0 s0 m0 below0 meth0 c0 hx hb hr hml hown hlocks hin hts hsz hP hK ls hl
  have hl : lv_has ls 2 [(0, .ref (d 0)), (1, .int (id))] := hl
  have hB9 := hB
  obtain ⟨hb0, hb1, hb2, hb3, hb4, hb5, hb6, hb7, hb8, hb9, hb10⟩ := hB9
  refine lv_iload_n hx hb dM_pair_0 rfl (lv_at hl 1 rfl) ?_
  refine lv_aload_n hx hb dM_pair_1 rfl (lv_at hl 0 rfl) ?_
  refine ka_get (ci := 4) (C := RM) (T := TM) (N := 26) hx hb hts inM hown hK hP (q := 0) hm.1 rfl 0 (by decide) (hts _ tw_384) (fun _ h9 => h9) rfl dM_pair_2 ?_
  refine lv_aload_n hx hb dM_pair_5 rfl (lv_at hl 0 rfl) ?_
  refine ka_get (ci := 4) (C := RM) (T := TM) (N := 26) hx hb hts inM hown hK hP (q := 0) hm.1 rfl 1 (by decide) (hts _ tw_385) (fun _ h9 => h9) rfl dM_pair_6 ?_
  refine lv_imul hx hb dM_pair_9 ?_
  refine lv_isub hx hb dM_pair_10 ?_
  exact W.iret (v := id - ((nI (m.1 0)) * (nI (m.1 1)))) hx hb hr (fun t ht hW => ⟨_, rfl, by rw [f_M_pair], ht⟩) (fun q h => by cases h) dM_pair_11

theorem dM_position_0 : decode prog_6_method_2_code 0 = .ok (.lconst 0, 1) := by decide +kernel
theorem dM_position_1 : decode prog_6_method_2_code 1 = .ok (.lstore_n 3, 1) := by decide +kernel
theorem dM_position_2 : decode prog_6_method_2_code 2 = .ok (.iconst 0, 1) := by decide +kernel
theorem dM_position_3 : decode prog_6_method_2_code 3 = .ok (.istore 5, 2) := by decide +kernel
theorem dM_position_5 : decode prog_6_method_2_code 5 = .ok (.iload 5, 2) := by decide +kernel
theorem dM_position_7 : decode prog_6_method_2_code 7 = .ok (.aload_n 0, 1) := by decide +kernel
theorem dM_position_8 : decode prog_6_method_2_code 8 = .ok (.getfield 72, 3) := by decide +kernel
theorem dM_position_11 : decode prog_6_method_2_code 11 = .ok (.if_icmp .ge 41, 3) := by decide +kernel
theorem dM_position_14 : decode prog_6_method_2_code 14 = .ok (.aload_n 0, 1) := by decide +kernel
theorem dM_position_15 : decode prog_6_method_2_code 15 = .ok (.getfield 24, 3) := by decide +kernel
theorem dM_position_18 : decode prog_6_method_2_code 18 = .ok (.iload 5, 2) := by decide +kernel
theorem dM_position_20 : decode prog_6_method_2_code 20 = .ok (.iaload, 1) := by decide +kernel
theorem dM_position_21 : decode prog_6_method_2_code 21 = .ok (.iload_n 1, 1) := by decide +kernel
theorem dM_position_22 : decode prog_6_method_2_code 22 = .ok (.aload_n 0, 1) := by decide +kernel
theorem dM_position_23 : decode prog_6_method_2_code 23 = .ok (.getfield 69, 3) := by decide +kernel
theorem dM_position_26 : decode prog_6_method_2_code 26 = .ok (.imul, 1) := by decide +kernel
theorem dM_position_27 : decode prog_6_method_2_code 27 = .ok (.iload_n 2, 1) := by decide +kernel
theorem dM_position_28 : decode prog_6_method_2_code 28 = .ok (.iadd, 1) := by decide +kernel
theorem dM_position_29 : decode prog_6_method_2_code 29 = .ok (.if_icmp .ne 15, 3) := by decide +kernel
theorem dM_position_32 : decode prog_6_method_2_code 32 = .ok (.lload_n 3, 1) := by decide +kernel
theorem dM_position_33 : decode prog_6_method_2_code 33 = .ok (.aload_n 0, 1) := by decide +kernel
theorem dM_position_34 : decode prog_6_method_2_code 34 = .ok (.getfield 27, 3) := by decide +kernel
theorem dM_position_37 : decode prog_6_method_2_code 37 = .ok (.iload 5, 2) := by decide +kernel
theorem dM_position_39 : decode prog_6_method_2_code 39 = .ok (.laload, 1) := by decide +kernel
theorem dM_position_40 : decode prog_6_method_2_code 40 = .ok (.ladd, 1) := by decide +kernel
theorem dM_position_41 : decode prog_6_method_2_code 41 = .ok (.goto 4, 3) := by decide +kernel
theorem dM_position_44 : decode prog_6_method_2_code 44 = .ok (.lload_n 3, 1) := by decide +kernel
theorem dM_position_45 : decode prog_6_method_2_code 45 = .ok (.lstore_n 3, 1) := by decide +kernel
theorem dM_position_46 : decode prog_6_method_2_code 46 = .ok (.iinc 5 1, 3) := by decide +kernel
theorem dM_position_49 : decode prog_6_method_2_code 49 = .ok (.goto (-44), 3) := by decide +kernel
theorem dM_position_52 : decode prog_6_method_2_code 52 = .ok (.lload_n 3, 1) := by decide +kernel
theorem dM_position_53 : decode prog_6_method_2_code 53 = .ok (.lreturn, 1) := by decide +kernel
def f_M_position_l (m : MS) (p : Int32) (a : Int32) : Nat → Nat → Int64 → Int64
  | 0, _, _ => 0
  | n + 1, k, v => if (nI (m.1 3)) ≤ (nI k) then v else (if ((m.2.2.1 2) (nI k).toNatClampNeg) = ((p * (nI (m.1 1))) + a) then (f_M_position_l m p a n (k + 1) (v + ((m.2.2.2 1) (nI k).toNatClampNeg))) else (f_M_position_l m p a n (k + 1) v))
theorem f_M_position_l_s (m : MS) (p : Int32) (a : Int32) (n : Nat) (k : Nat) (v : Int64) : f_M_position_l m p a (n + 1) k v = (if (nI (m.1 3)) ≤ (nI k) then v else (if ((m.2.2.1 2) (nI k).toNatClampNeg) = ((p * (nI (m.1 1))) + a) then (f_M_position_l m p a n (k + 1) (v + ((m.2.2.2 1) (nI k).toNatClampNeg))) else (f_M_position_l m p a n (k + 1) v))) := rfl
def f_M_position (m : MS) (p : Int32) (a : Int32) : Int64 := f_M_position_l m p a (m.1 3 + 1) 0 0
set_option maxHeartbeats 4000000 in
set_option maxRecDepth 100000 in
theorem c_M_position (l : Launch) (D : va_G) (cI cL cQ : ClassId) (d : Nat → Nat) (κ : Nat → Option va_E) (m : MS) (hm : IsM cI cL d κ m) (hB : MB m) (sz : Nat) (p : Int32) (a : Int32)  : Met l yM_position wM_position { frames := 0, cells := 0, slots := 0, locals := 0 } (va_Pc [.ref (d 0), .int (p), .int (a)] (kC D vCl (kT cI cL cQ) d κ sz)) (vp_Sl (fun r => r = f_M_position m p a)) 0 0 (fun _ => False) := by
  refine kMet (by decide) (Nat.le_of_ble_eq_true rfl) ?_
  intro p0 e0 s0 m0 below0 meth0 c0 hx hb hr hml hown hlocks hin hts hsz hP hK ls hl
  have hl : lv_has ls 6 [(0, .ref (d 0)), (1, .int (p)), (2, .int (a))] := hl
  have hB9 := hB
  obtain ⟨hb0, hb1, hb2, hb3, hb4, hb5, hb6, hb7, hb8, hb9, hb10⟩ := hB9
  refine lv_lconst (v := 0) hx hb dM_position_0 (by decide) ?_
  refine lv_lstore_n (lv' := [(3, .long (0)), (0, .ref (d 0)), (1, .int (p)), (2, .int (a))]) hx hb dM_position_1 rfl hl (by decide) rfl (fun ls hl => ?_)
  refine lv_iconst (v := 0) hx hb dM_position_2 (by decide) ?_
  refine lv_istore (lv' := [(5, .int (0)), (3, .long (0)), (0, .ref (d 0)), (1, .int (p)), (2, .int (a))]) hx hb dM_position_3 hl (by decide) rfl (fun ls hl => ?_)
  refine k_rec (σ := Nat × Int64) (fun n z9 ls => z9.1 ≤ m.1 3 ∧ m.1 3 < z9.1 + n ∧ f_M_position_l m p a n z9.1 z9.2 = f_M_position m p a ∧ lv_has ls 6 [(5, .int (nI z9.1)), (3, .long z9.2), (0, .ref (d 0)), (1, .int (p)), (2, .int (a))]) (m.1 3 + 1) (0, 0) ⟨by omega, by omega, by rw [f_M_position], lv_sub hl [0, 1, 2, 3, 4] rfl⟩ ?_
  intro n z9 ls hI ih
  obtain ⟨k, v⟩ := z9
  obtain ⟨hk, hn, hE, hl⟩ := hI
  dsimp only at hk hn hE hl
  obtain ⟨n, rfl⟩ : ∃ q, n = q + 1 := ⟨n - 1, by omega⟩
  refine lv_iload hx hb dM_position_5 (lv_at hl 0 rfl) ?_
  refine lv_aload_n hx hb dM_position_7 rfl (lv_at hl 2 rfl) ?_
  refine ka_get (ci := 4) (C := RM) (T := TM) (N := 26) hx hb hts inM hown hK hP (q := 0) hm.1 rfl 7 (by decide) (hts _ tw_391) (fun _ h9 => h9) rfl dM_position_8 ?_
  refine lv_icmp_ge (tgt := 52) hx hb dM_position_11 (by decide) (fun c_11 => ?_) (fun c_11 => ?_)
  · refine lv_lload_n hx hb dM_position_52 rfl (lv_at hl 1 rfl) ?_
    exact W.lret (v := v) hx hb hr (fun t ht hW => ⟨_, rfl, by rw [← hE, f_M_position_l_s, if_pos c_11], ht⟩) (fun q h => by cases h) dM_position_53
  · have hlt : k < m.1 3 := Nat.lt_of_not_le (fun q => c_11 (nI_le q (by omega)))
    refine lv_aload_n hx hb dM_position_14 rfl (lv_at hl 2 rfl) ?_
    refine ka_get (ci := 4) (C := RM) (T := TM) (N := 26) hx hb hts inM hown hK hP (q := 0) hm.1 rfl 8 (by decide) (hts _ tw_392) (fun _ h9 => h9) rfl dM_position_15 ?_
    refine lv_iload hx hb dM_position_18 (lv_at hl 0 rfl) ?_
    refine ka_iald hx hb hK hP 0 (q := 4) hm.2.2.2.2.1 rfl (by first | assumption | exact vp_in_nI (by omega) (by omega)) dM_position_20 ?_
    refine lv_iload_n hx hb dM_position_21 rfl (lv_at hl 3 rfl) ?_
    refine lv_aload_n hx hb dM_position_22 rfl (lv_at hl 2 rfl) ?_
    refine ka_get (ci := 4) (C := RM) (T := TM) (N := 26) hx hb hts inM hown hK hP (q := 0) hm.1 rfl 1 (by decide) (hts _ tw_385) (fun _ h9 => h9) rfl dM_position_23 ?_
    refine lv_imul hx hb dM_position_26 ?_
    refine lv_iload_n hx hb dM_position_27 rfl (lv_at hl 4 rfl) ?_
    refine lv_iadd hx hb dM_position_28 ?_
    refine lv_icmp_ne (tgt := 44) hx hb dM_position_29 (by decide) (fun c_29 => ?_) (fun c_29 => ?_)
    · refine lv_lload_n hx hb dM_position_44 rfl (lv_at hl 1 rfl) ?_
      refine lv_lstore_n (lv' := [(3, .long (v)), (5, .int (nI k)), (0, .ref (d 0)), (1, .int (p)), (2, .int (a))]) hx hb dM_position_45 rfl hl (by decide) rfl (fun ls hl => ?_)
      refine lv_iinc (v := nI (k + 1)) (lv' := [(5, .int (nI (k + 1))), (3, .long (v)), (0, .ref (d 0)), (1, .int (p)), (2, .int (a))]) hx hb dM_position_46 hl (k := 1) rfl (nI_add k 1) (by decide) rfl (fun ls hl => ?_)
      refine lv_goto (tgt := 5) hx hb dM_position_49 (by decide) ?_
      exact ih n (k + 1, v) ls (by omega) ⟨by omega, by omega, by rw [← hE, f_M_position_l_s, if_neg c_11, if_neg c_29], lv_sub hl [0, 1, 2, 3, 4] rfl⟩
    · refine lv_lload_n hx hb dM_position_32 rfl (lv_at hl 1 rfl) ?_
      refine lv_aload_n hx hb dM_position_33 rfl (lv_at hl 2 rfl) ?_
      refine ka_get (ci := 4) (C := RM) (T := TM) (N := 26) hx hb hts inM hown hK hP (q := 0) hm.1 rfl 9 (by decide) (hts _ tw_393) (fun _ h9 => h9) rfl dM_position_34 ?_
      refine lv_iload hx hb dM_position_37 (lv_at hl 0 rfl) ?_
      refine ka_lald hx hb hK hP 1 (q := 5) hm.2.2.2.2.2.1 rfl (by first | assumption | exact vp_in_nI (by omega) (by omega)) dM_position_39 ?_
      refine lv_ladd hx hb dM_position_40 ?_
      refine lv_goto (tgt := 45) hx hb dM_position_41 (by decide) ?_
      refine lv_lstore_n (lv' := [(3, .long (v + ((m.2.2.2 1) (nI k).toNatClampNeg))), (5, .int (nI k)), (0, .ref (d 0)), (1, .int (p)), (2, .int (a))]) hx hb dM_position_45 rfl hl (by decide) rfl (fun ls hl => ?_)
      refine lv_iinc (v := nI (k + 1)) (lv' := [(5, .int (nI (k + 1))), (3, .long (v + ((m.2.2.2 1) (nI k).toNatClampNeg))), (0, .ref (d 0)), (1, .int (p)), (2, .int (a))]) hx hb dM_position_46 hl (k := 1) rfl (nI_add k 1) (by decide) rfl (fun ls hl => ?_)
      refine lv_goto (tgt := 5) hx hb dM_position_49 (by decide) ?_
      exact ih n (k + 1, v + ((m.2.2.2 1) (nI k).toNatClampNeg)) ls (by omega) ⟨by omega, by omega, by rw [← hE, f_M_position_l_s, if_neg c_11, if_pos c_29], lv_sub hl [0, 1, 2, 3, 4] rfl⟩

theorem dM_pledged_0 : decode prog_6_method_3_code 0 = .ok (.lconst 0, 1) := by decide +kernel
theorem dM_pledged_1 : decode prog_6_method_3_code 1 = .ok (.lstore_n 3, 1) := by decide +kernel
theorem dM_pledged_2 : decode prog_6_method_3_code 2 = .ok (.iconst 0, 1) := by decide +kernel
theorem dM_pledged_3 : decode prog_6_method_3_code 3 = .ok (.istore 5, 2) := by decide +kernel
theorem dM_pledged_5 : decode prog_6_method_3_code 5 = .ok (.iload 5, 2) := by decide +kernel
theorem dM_pledged_7 : decode prog_6_method_3_code 7 = .ok (.aload_n 0, 1) := by decide +kernel
theorem dM_pledged_8 : decode prog_6_method_3_code 8 = .ok (.getfield 75, 3) := by decide +kernel
theorem dM_pledged_11 : decode prog_6_method_3_code 11 = .ok (.if_icmp .ge 41, 3) := by decide +kernel
theorem dM_pledged_14 : decode prog_6_method_3_code 14 = .ok (.aload_n 0, 1) := by decide +kernel
theorem dM_pledged_15 : decode prog_6_method_3_code 15 = .ok (.getfield 39, 3) := by decide +kernel
theorem dM_pledged_18 : decode prog_6_method_3_code 18 = .ok (.iload 5, 2) := by decide +kernel
theorem dM_pledged_20 : decode prog_6_method_3_code 20 = .ok (.iaload, 1) := by decide +kernel
theorem dM_pledged_21 : decode prog_6_method_3_code 21 = .ok (.iload_n 1, 1) := by decide +kernel
theorem dM_pledged_22 : decode prog_6_method_3_code 22 = .ok (.aload_n 0, 1) := by decide +kernel
theorem dM_pledged_23 : decode prog_6_method_3_code 23 = .ok (.getfield 69, 3) := by decide +kernel
theorem dM_pledged_26 : decode prog_6_method_3_code 26 = .ok (.imul, 1) := by decide +kernel
theorem dM_pledged_27 : decode prog_6_method_3_code 27 = .ok (.iload_n 2, 1) := by decide +kernel
theorem dM_pledged_28 : decode prog_6_method_3_code 28 = .ok (.iadd, 1) := by decide +kernel
theorem dM_pledged_29 : decode prog_6_method_3_code 29 = .ok (.if_icmp .ne 15, 3) := by decide +kernel
theorem dM_pledged_32 : decode prog_6_method_3_code 32 = .ok (.lload_n 3, 1) := by decide +kernel
theorem dM_pledged_33 : decode prog_6_method_3_code 33 = .ok (.aload_n 0, 1) := by decide +kernel
theorem dM_pledged_34 : decode prog_6_method_3_code 34 = .ok (.getfield 42, 3) := by decide +kernel
theorem dM_pledged_37 : decode prog_6_method_3_code 37 = .ok (.iload 5, 2) := by decide +kernel
theorem dM_pledged_39 : decode prog_6_method_3_code 39 = .ok (.laload, 1) := by decide +kernel
theorem dM_pledged_40 : decode prog_6_method_3_code 40 = .ok (.ladd, 1) := by decide +kernel
theorem dM_pledged_41 : decode prog_6_method_3_code 41 = .ok (.goto 4, 3) := by decide +kernel
theorem dM_pledged_44 : decode prog_6_method_3_code 44 = .ok (.lload_n 3, 1) := by decide +kernel
theorem dM_pledged_45 : decode prog_6_method_3_code 45 = .ok (.lstore_n 3, 1) := by decide +kernel
theorem dM_pledged_46 : decode prog_6_method_3_code 46 = .ok (.iinc 5 1, 3) := by decide +kernel
theorem dM_pledged_49 : decode prog_6_method_3_code 49 = .ok (.goto (-44), 3) := by decide +kernel
theorem dM_pledged_52 : decode prog_6_method_3_code 52 = .ok (.lload_n 3, 1) := by decide +kernel
theorem dM_pledged_53 : decode prog_6_method_3_code 53 = .ok (.lreturn, 1) := by decide +kernel
def f_M_pledged_l (m : MS) (p : Int32) (a : Int32) : Nat → Nat → Int64 → Int64
  | 0, _, _ => 0
  | n + 1, k, v => if (nI (m.1 5)) ≤ (nI k) then v else (if ((m.2.2.1 5) (nI k).toNatClampNeg) = ((p * (nI (m.1 1))) + a) then (f_M_pledged_l m p a n (k + 1) (v + ((m.2.2.2 3) (nI k).toNatClampNeg))) else (f_M_pledged_l m p a n (k + 1) v))
theorem f_M_pledged_l_s (m : MS) (p : Int32) (a : Int32) (n : Nat) (k : Nat) (v : Int64) : f_M_pledged_l m p a (n + 1) k v = (if (nI (m.1 5)) ≤ (nI k) then v else (if ((m.2.2.1 5) (nI k).toNatClampNeg) = ((p * (nI (m.1 1))) + a) then (f_M_pledged_l m p a n (k + 1) (v + ((m.2.2.2 3) (nI k).toNatClampNeg))) else (f_M_pledged_l m p a n (k + 1) v))) := rfl
def f_M_pledged (m : MS) (p : Int32) (a : Int32) : Int64 := f_M_pledged_l m p a (m.1 5 + 1) 0 0
set_option maxHeartbeats 4000000 in
set_option maxRecDepth 100000 in
theorem c_M_pledged (l : Launch) (D : va_G) (cI cL cQ : ClassId) (d : Nat → Nat) (κ : Nat → Option va_E) (m : MS) (hm : IsM cI cL d κ m) (hB : MB m) (sz : Nat) (p : Int32) (a : Int32)  : Met l yM_pledged wM_pledged { frames := 0, cells := 0, slots := 0, locals := 0 } (va_Pc [.ref (d 0), .int (p), .int (a)] (kC D vCl (kT cI cL cQ) d κ sz)) (vp_Sl (fun r => r = f_M_pledged m p a)) 0 0 (fun _ => False) := by
  refine kMet (by decide) (Nat.le_of_ble_eq_true rfl) ?_
  intro p0 e0 s0 m0 below0 meth0 c0 hx hb hr hml hown hlocks hin hts hsz hP hK ls hl
  have hl : lv_has ls 6 [(0, .ref (d 0)), (1, .int (p)), (2, .int (a))] := hl
  have hB9 := hB
  obtain ⟨hb0, hb1, hb2, hb3, hb4, hb5, hb6, hb7, hb8, hb9, hb10⟩ := hB9
  refine lv_lconst (v := 0) hx hb dM_pledged_0 (by decide) ?_
  refine lv_lstore_n (lv' := [(3, .long (0)), (0, .ref (d 0)), (1, .int (p)), (2, .int (a))]) hx hb dM_pledged_1 rfl hl (by decide) rfl (fun ls hl => ?_)
  refine lv_iconst (v := 0) hx hb dM_pledged_2 (by decide) ?_
  refine lv_istore (lv' := [(5, .int (0)), (3, .long (0)), (0, .ref (d 0)), (1, .int (p)), (2, .int (a))]) hx hb dM_pledged_3 hl (by decide) rfl (fun ls hl => ?_)
  refine k_rec (σ := Nat × Int64) (fun n z9 ls => z9.1 ≤ m.1 5 ∧ m.1 5 < z9.1 + n ∧ f_M_pledged_l m p a n z9.1 z9.2 = f_M_pledged m p a ∧ lv_has ls 6 [(5, .int (nI z9.1)), (3, .long z9.2), (0, .ref (d 0)), (1, .int (p)), (2, .int (a))]) (m.1 5 + 1) (0, 0) ⟨by omega, by omega, by rw [f_M_pledged], lv_sub hl [0, 1, 2, 3, 4] rfl⟩ ?_
  intro n z9 ls hI ih
  obtain ⟨k, v⟩ := z9
  obtain ⟨hk, hn, hE, hl⟩ := hI
  dsimp only at hk hn hE hl
  obtain ⟨n, rfl⟩ : ∃ q, n = q + 1 := ⟨n - 1, by omega⟩
  refine lv_iload hx hb dM_pledged_5 (lv_at hl 0 rfl) ?_
  refine lv_aload_n hx hb dM_pledged_7 rfl (lv_at hl 2 rfl) ?_
  refine ka_get (ci := 4) (C := RM) (T := TM) (N := 26) hx hb hts inM hown hK hP (q := 0) hm.1 rfl 14 (by decide) (hts _ tw_398) (fun _ h9 => h9) rfl dM_pledged_8 ?_
  refine lv_icmp_ge (tgt := 52) hx hb dM_pledged_11 (by decide) (fun c_11 => ?_) (fun c_11 => ?_)
  · refine lv_lload_n hx hb dM_pledged_52 rfl (lv_at hl 1 rfl) ?_
    exact W.lret (v := v) hx hb hr (fun t ht hW => ⟨_, rfl, by rw [← hE, f_M_pledged_l_s, if_pos c_11], ht⟩) (fun q h => by cases h) dM_pledged_53
  · have hlt : k < m.1 5 := Nat.lt_of_not_le (fun q => c_11 (nI_le q (by omega)))
    refine lv_aload_n hx hb dM_pledged_14 rfl (lv_at hl 2 rfl) ?_
    refine ka_get (ci := 4) (C := RM) (T := TM) (N := 26) hx hb hts inM hown hK hP (q := 0) hm.1 rfl 15 (by decide) (hts _ tw_399) (fun _ h9 => h9) rfl dM_pledged_15 ?_
    refine lv_iload hx hb dM_pledged_18 (lv_at hl 0 rfl) ?_
    refine ka_iald hx hb hK hP 0 (q := 9) hm.2.2.2.2.2.2.2.2.2.1 rfl (by first | assumption | exact vp_in_nI (by omega) (by omega)) dM_pledged_20 ?_
    refine lv_iload_n hx hb dM_pledged_21 rfl (lv_at hl 3 rfl) ?_
    refine lv_aload_n hx hb dM_pledged_22 rfl (lv_at hl 2 rfl) ?_
    refine ka_get (ci := 4) (C := RM) (T := TM) (N := 26) hx hb hts inM hown hK hP (q := 0) hm.1 rfl 1 (by decide) (hts _ tw_385) (fun _ h9 => h9) rfl dM_pledged_23 ?_
    refine lv_imul hx hb dM_pledged_26 ?_
    refine lv_iload_n hx hb dM_pledged_27 rfl (lv_at hl 4 rfl) ?_
    refine lv_iadd hx hb dM_pledged_28 ?_
    refine lv_icmp_ne (tgt := 44) hx hb dM_pledged_29 (by decide) (fun c_29 => ?_) (fun c_29 => ?_)
    · refine lv_lload_n hx hb dM_pledged_44 rfl (lv_at hl 1 rfl) ?_
      refine lv_lstore_n (lv' := [(3, .long (v)), (5, .int (nI k)), (0, .ref (d 0)), (1, .int (p)), (2, .int (a))]) hx hb dM_pledged_45 rfl hl (by decide) rfl (fun ls hl => ?_)
      refine lv_iinc (v := nI (k + 1)) (lv' := [(5, .int (nI (k + 1))), (3, .long (v)), (0, .ref (d 0)), (1, .int (p)), (2, .int (a))]) hx hb dM_pledged_46 hl (k := 1) rfl (nI_add k 1) (by decide) rfl (fun ls hl => ?_)
      refine lv_goto (tgt := 5) hx hb dM_pledged_49 (by decide) ?_
      exact ih n (k + 1, v) ls (by omega) ⟨by omega, by omega, by rw [← hE, f_M_pledged_l_s, if_neg c_11, if_neg c_29], lv_sub hl [0, 1, 2, 3, 4] rfl⟩
    · refine lv_lload_n hx hb dM_pledged_32 rfl (lv_at hl 1 rfl) ?_
      refine lv_aload_n hx hb dM_pledged_33 rfl (lv_at hl 2 rfl) ?_
      refine ka_get (ci := 4) (C := RM) (T := TM) (N := 26) hx hb hts inM hown hK hP (q := 0) hm.1 rfl 16 (by decide) (hts _ tw_400) (fun _ h9 => h9) rfl dM_pledged_34 ?_
      refine lv_iload hx hb dM_pledged_37 (lv_at hl 0 rfl) ?_
      refine ka_lald hx hb hK hP 1 (q := 10) hm.2.2.2.2.2.2.2.2.2.2.1 rfl (by first | assumption | exact vp_in_nI (by omega) (by omega)) dM_pledged_39 ?_
      refine lv_ladd hx hb dM_pledged_40 ?_
      refine lv_goto (tgt := 45) hx hb dM_pledged_41 (by decide) ?_
      refine lv_lstore_n (lv' := [(3, .long (v + ((m.2.2.2 3) (nI k).toNatClampNeg))), (5, .int (nI k)), (0, .ref (d 0)), (1, .int (p)), (2, .int (a))]) hx hb dM_pledged_45 rfl hl (by decide) rfl (fun ls hl => ?_)
      refine lv_iinc (v := nI (k + 1)) (lv' := [(5, .int (nI (k + 1))), (3, .long (v + ((m.2.2.2 3) (nI k).toNatClampNeg))), (0, .ref (d 0)), (1, .int (p)), (2, .int (a))]) hx hb dM_pledged_46 hl (k := 1) rfl (nI_add k 1) (by decide) rfl (fun ls hl => ?_)
      refine lv_goto (tgt := 5) hx hb dM_pledged_49 (by decide) ?_
      exact ih n (k + 1, v + ((m.2.2.2 3) (nI k).toNatClampNeg)) ls (by omega) ⟨by omega, by omega, by rw [← hE, f_M_pledged_l_s, if_neg c_11, if_pos c_29], lv_sub hl [0, 1, 2, 3, 4] rfl⟩

theorem dM_netPaid_0 : decode prog_6_method_4_code 0 = .ok (.lconst 0, 1) := by decide +kernel
theorem dM_netPaid_1 : decode prog_6_method_4_code 1 = .ok (.lstore_n 3, 1) := by decide +kernel
theorem dM_netPaid_2 : decode prog_6_method_4_code 2 = .ok (.iconst 0, 1) := by decide +kernel
theorem dM_netPaid_3 : decode prog_6_method_4_code 3 = .ok (.istore 5, 2) := by decide +kernel
theorem dM_netPaid_5 : decode prog_6_method_4_code 5 = .ok (.iload 5, 2) := by decide +kernel
theorem dM_netPaid_7 : decode prog_6_method_4_code 7 = .ok (.aload_n 0, 1) := by decide +kernel
theorem dM_netPaid_8 : decode prog_6_method_4_code 8 = .ok (.getfield 78, 3) := by decide +kernel
theorem dM_netPaid_11 : decode prog_6_method_4_code 11 = .ok (.if_icmp .ge 79, 3) := by decide +kernel
theorem dM_netPaid_14 : decode prog_6_method_4_code 14 = .ok (.aload_n 0, 1) := by decide +kernel
theorem dM_netPaid_15 : decode prog_6_method_4_code 15 = .ok (.getfield 30, 3) := by decide +kernel
theorem dM_netPaid_18 : decode prog_6_method_4_code 18 = .ok (.iload 5, 2) := by decide +kernel
theorem dM_netPaid_20 : decode prog_6_method_4_code 20 = .ok (.iaload, 1) := by decide +kernel
theorem dM_netPaid_21 : decode prog_6_method_4_code 21 = .ok (.iload_n 1, 1) := by decide +kernel
theorem dM_netPaid_22 : decode prog_6_method_4_code 22 = .ok (.if_icmp .ne 26, 3) := by decide +kernel
theorem dM_netPaid_25 : decode prog_6_method_4_code 25 = .ok (.aload_n 0, 1) := by decide +kernel
theorem dM_netPaid_26 : decode prog_6_method_4_code 26 = .ok (.getfield 33, 3) := by decide +kernel
theorem dM_netPaid_29 : decode prog_6_method_4_code 29 = .ok (.iload 5, 2) := by decide +kernel
theorem dM_netPaid_31 : decode prog_6_method_4_code 31 = .ok (.iaload, 1) := by decide +kernel
theorem dM_netPaid_32 : decode prog_6_method_4_code 32 = .ok (.iload_n 2, 1) := by decide +kernel
theorem dM_netPaid_33 : decode prog_6_method_4_code 33 = .ok (.if_icmp .ne 15, 3) := by decide +kernel
theorem dM_netPaid_36 : decode prog_6_method_4_code 36 = .ok (.lload_n 3, 1) := by decide +kernel
theorem dM_netPaid_37 : decode prog_6_method_4_code 37 = .ok (.aload_n 0, 1) := by decide +kernel
theorem dM_netPaid_38 : decode prog_6_method_4_code 38 = .ok (.getfield 36, 3) := by decide +kernel
theorem dM_netPaid_41 : decode prog_6_method_4_code 41 = .ok (.iload 5, 2) := by decide +kernel
theorem dM_netPaid_43 : decode prog_6_method_4_code 43 = .ok (.laload, 1) := by decide +kernel
theorem dM_netPaid_44 : decode prog_6_method_4_code 44 = .ok (.ladd, 1) := by decide +kernel
theorem dM_netPaid_45 : decode prog_6_method_4_code 45 = .ok (.goto 38, 3) := by decide +kernel
theorem dM_netPaid_48 : decode prog_6_method_4_code 48 = .ok (.aload_n 0, 1) := by decide +kernel
theorem dM_netPaid_49 : decode prog_6_method_4_code 49 = .ok (.getfield 30, 3) := by decide +kernel
theorem dM_netPaid_52 : decode prog_6_method_4_code 52 = .ok (.iload 5, 2) := by decide +kernel
theorem dM_netPaid_54 : decode prog_6_method_4_code 54 = .ok (.iaload, 1) := by decide +kernel
theorem dM_netPaid_55 : decode prog_6_method_4_code 55 = .ok (.iload_n 2, 1) := by decide +kernel
theorem dM_netPaid_56 : decode prog_6_method_4_code 56 = .ok (.if_icmp .ne 26, 3) := by decide +kernel
theorem dM_netPaid_59 : decode prog_6_method_4_code 59 = .ok (.aload_n 0, 1) := by decide +kernel
theorem dM_netPaid_60 : decode prog_6_method_4_code 60 = .ok (.getfield 33, 3) := by decide +kernel
theorem dM_netPaid_63 : decode prog_6_method_4_code 63 = .ok (.iload 5, 2) := by decide +kernel
theorem dM_netPaid_65 : decode prog_6_method_4_code 65 = .ok (.iaload, 1) := by decide +kernel
theorem dM_netPaid_66 : decode prog_6_method_4_code 66 = .ok (.iload_n 1, 1) := by decide +kernel
theorem dM_netPaid_67 : decode prog_6_method_4_code 67 = .ok (.if_icmp .ne 15, 3) := by decide +kernel
theorem dM_netPaid_70 : decode prog_6_method_4_code 70 = .ok (.lload_n 3, 1) := by decide +kernel
theorem dM_netPaid_71 : decode prog_6_method_4_code 71 = .ok (.aload_n 0, 1) := by decide +kernel
theorem dM_netPaid_72 : decode prog_6_method_4_code 72 = .ok (.getfield 36, 3) := by decide +kernel
theorem dM_netPaid_75 : decode prog_6_method_4_code 75 = .ok (.iload 5, 2) := by decide +kernel
theorem dM_netPaid_77 : decode prog_6_method_4_code 77 = .ok (.laload, 1) := by decide +kernel
theorem dM_netPaid_78 : decode prog_6_method_4_code 78 = .ok (.lsub, 1) := by decide +kernel
theorem dM_netPaid_79 : decode prog_6_method_4_code 79 = .ok (.goto 4, 3) := by decide +kernel
theorem dM_netPaid_82 : decode prog_6_method_4_code 82 = .ok (.lload_n 3, 1) := by decide +kernel
theorem dM_netPaid_83 : decode prog_6_method_4_code 83 = .ok (.lstore_n 3, 1) := by decide +kernel
theorem dM_netPaid_84 : decode prog_6_method_4_code 84 = .ok (.iinc 5 1, 3) := by decide +kernel
theorem dM_netPaid_87 : decode prog_6_method_4_code 87 = .ok (.goto (-82), 3) := by decide +kernel
theorem dM_netPaid_90 : decode prog_6_method_4_code 90 = .ok (.lload_n 3, 1) := by decide +kernel
theorem dM_netPaid_91 : decode prog_6_method_4_code 91 = .ok (.lreturn, 1) := by decide +kernel
def f_M_netPaid_l (m : MS) (p : Int32) (q : Int32) : Nat → Nat → Int64 → Int64
  | 0, _, _ => 0
  | n + 1, k, v => if (nI (m.1 4)) ≤ (nI k) then v else (if ((m.2.2.1 3) (nI k).toNatClampNeg) = p then (if ((m.2.2.1 4) (nI k).toNatClampNeg) = q then (f_M_netPaid_l m p q n (k + 1) (v + ((m.2.2.2 2) (nI k).toNatClampNeg))) else (if ((m.2.2.1 3) (nI k).toNatClampNeg) = q then (if ((m.2.2.1 4) (nI k).toNatClampNeg) = p then (f_M_netPaid_l m p q n (k + 1) (v - ((m.2.2.2 2) (nI k).toNatClampNeg))) else (f_M_netPaid_l m p q n (k + 1) v)) else (f_M_netPaid_l m p q n (k + 1) v))) else (if ((m.2.2.1 3) (nI k).toNatClampNeg) = q then (if ((m.2.2.1 4) (nI k).toNatClampNeg) = p then (f_M_netPaid_l m p q n (k + 1) (v - ((m.2.2.2 2) (nI k).toNatClampNeg))) else (f_M_netPaid_l m p q n (k + 1) v)) else (f_M_netPaid_l m p q n (k + 1) v)))
theorem f_M_netPaid_l_s (m : MS) (p : Int32) (q : Int32) (n : Nat) (k : Nat) (v : Int64) : f_M_netPaid_l m p q (n + 1) k v = (if (nI (m.1 4)) ≤ (nI k) then v else (if ((m.2.2.1 3) (nI k).toNatClampNeg) = p then (if ((m.2.2.1 4) (nI k).toNatClampNeg) = q then (f_M_netPaid_l m p q n (k + 1) (v + ((m.2.2.2 2) (nI k).toNatClampNeg))) else (if ((m.2.2.1 3) (nI k).toNatClampNeg) = q then (if ((m.2.2.1 4) (nI k).toNatClampNeg) = p then (f_M_netPaid_l m p q n (k + 1) (v - ((m.2.2.2 2) (nI k).toNatClampNeg))) else (f_M_netPaid_l m p q n (k + 1) v)) else (f_M_netPaid_l m p q n (k + 1) v))) else (if ((m.2.2.1 3) (nI k).toNatClampNeg) = q then (if ((m.2.2.1 4) (nI k).toNatClampNeg) = p then (f_M_netPaid_l m p q n (k + 1) (v - ((m.2.2.2 2) (nI k).toNatClampNeg))) else (f_M_netPaid_l m p q n (k + 1) v)) else (f_M_netPaid_l m p q n (k + 1) v)))) := rfl
def f_M_netPaid (m : MS) (p : Int32) (q : Int32) : Int64 := f_M_netPaid_l m p q (m.1 4 + 1) 0 0
set_option maxHeartbeats 4000000 in
set_option maxRecDepth 100000 in
theorem c_M_netPaid (l : Launch) (D : va_G) (cI cL cQ : ClassId) (d : Nat → Nat) (κ : Nat → Option va_E) (m : MS) (hm : IsM cI cL d κ m) (hB : MB m) (sz : Nat) (p : Int32) (q : Int32)  : Met l yM_netPaid wM_netPaid { frames := 0, cells := 0, slots := 0, locals := 0 } (va_Pc [.ref (d 0), .int (p), .int (q)] (kC D vCl (kT cI cL cQ) d κ sz)) (vp_Sl (fun r => r = f_M_netPaid m p q)) 0 0 (fun _ => False) := by
  refine kMet (by decide) (Nat.le_of_ble_eq_true rfl) ?_
  intro p0 e0 s0 m0 below0 meth0 c0 hx hb hr hml hown hlocks hin hts hsz hP hK ls hl
  have hl : lv_has ls 6 [(0, .ref (d 0)), (1, .int (p)), (2, .int (q))] := hl
  have hB9 := hB
  obtain ⟨hb0, hb1, hb2, hb3, hb4, hb5, hb6, hb7, hb8, hb9, hb10⟩ := hB9
  refine lv_lconst (v := 0) hx hb dM_netPaid_0 (by decide) ?_
  refine lv_lstore_n (lv' := [(3, .long (0)), (0, .ref (d 0)), (1, .int (p)), (2, .int (q))]) hx hb dM_netPaid_1 rfl hl (by decide) rfl (fun ls hl => ?_)
  refine lv_iconst (v := 0) hx hb dM_netPaid_2 (by decide) ?_
  refine lv_istore (lv' := [(5, .int (0)), (3, .long (0)), (0, .ref (d 0)), (1, .int (p)), (2, .int (q))]) hx hb dM_netPaid_3 hl (by decide) rfl (fun ls hl => ?_)
  refine k_rec (σ := Nat × Int64) (fun n z9 ls => z9.1 ≤ m.1 4 ∧ m.1 4 < z9.1 + n ∧ f_M_netPaid_l m p q n z9.1 z9.2 = f_M_netPaid m p q ∧ lv_has ls 6 [(5, .int (nI z9.1)), (3, .long z9.2), (0, .ref (d 0)), (1, .int (p)), (2, .int (q))]) (m.1 4 + 1) (0, 0) ⟨by omega, by omega, by rw [f_M_netPaid], lv_sub hl [0, 1, 2, 3, 4] rfl⟩ ?_
  intro n z9 ls hI ih
  obtain ⟨k, v⟩ := z9
  obtain ⟨hk, hn, hE, hl⟩ := hI
  dsimp only at hk hn hE hl
  obtain ⟨n, rfl⟩ : ∃ q, n = q + 1 := ⟨n - 1, by omega⟩
  refine lv_iload hx hb dM_netPaid_5 (lv_at hl 0 rfl) ?_
  refine lv_aload_n hx hb dM_netPaid_7 rfl (lv_at hl 2 rfl) ?_
  refine ka_get (ci := 4) (C := RM) (T := TM) (N := 26) hx hb hts inM hown hK hP (q := 0) hm.1 rfl 10 (by decide) (hts _ tw_394) (fun _ h9 => h9) rfl dM_netPaid_8 ?_
  refine lv_icmp_ge (tgt := 90) hx hb dM_netPaid_11 (by decide) (fun c_11 => ?_) (fun c_11 => ?_)
  · refine lv_lload_n hx hb dM_netPaid_90 rfl (lv_at hl 1 rfl) ?_
    exact W.lret (v := v) hx hb hr (fun t ht hW => ⟨_, rfl, by rw [← hE, f_M_netPaid_l_s, if_pos c_11], ht⟩) (fun q h => by cases h) dM_netPaid_91
  · have hlt : k < m.1 4 := Nat.lt_of_not_le (fun q => c_11 (nI_le q (by omega)))
    refine lv_aload_n hx hb dM_netPaid_14 rfl (lv_at hl 2 rfl) ?_
    refine ka_get (ci := 4) (C := RM) (T := TM) (N := 26) hx hb hts inM hown hK hP (q := 0) hm.1 rfl 11 (by decide) (hts _ tw_395) (fun _ h9 => h9) rfl dM_netPaid_15 ?_
    refine lv_iload hx hb dM_netPaid_18 (lv_at hl 0 rfl) ?_
    refine ka_iald hx hb hK hP 0 (q := 6) hm.2.2.2.2.2.2.1 rfl (by first | assumption | exact vp_in_nI (by omega) (by omega)) dM_netPaid_20 ?_
    refine lv_iload_n hx hb dM_netPaid_21 rfl (lv_at hl 3 rfl) ?_
    refine lv_icmp_ne (tgt := 48) hx hb dM_netPaid_22 (by decide) (fun c_22 => ?_) (fun c_22 => ?_)
    · refine lv_aload_n hx hb dM_netPaid_48 rfl (lv_at hl 2 rfl) ?_
      refine ka_get (ci := 4) (C := RM) (T := TM) (N := 26) hx hb hts inM hown hK hP (q := 0) hm.1 rfl 11 (by decide) (hts _ tw_395) (fun _ h9 => h9) rfl dM_netPaid_49 ?_
      refine lv_iload hx hb dM_netPaid_52 (lv_at hl 0 rfl) ?_
      refine ka_iald hx hb hK hP 0 (q := 6) hm.2.2.2.2.2.2.1 rfl (by first | assumption | exact vp_in_nI (by omega) (by omega)) dM_netPaid_54 ?_
      refine lv_iload_n hx hb dM_netPaid_55 rfl (lv_at hl 4 rfl) ?_
      refine lv_icmp_ne (tgt := 82) hx hb dM_netPaid_56 (by decide) (fun c_56 => ?_) (fun c_56 => ?_)
      · refine lv_lload_n hx hb dM_netPaid_82 rfl (lv_at hl 1 rfl) ?_
        refine lv_lstore_n (lv' := [(3, .long (v)), (5, .int (nI k)), (0, .ref (d 0)), (1, .int (p)), (2, .int (q))]) hx hb dM_netPaid_83 rfl hl (by decide) rfl (fun ls hl => ?_)
        refine lv_iinc (v := nI (k + 1)) (lv' := [(5, .int (nI (k + 1))), (3, .long (v)), (0, .ref (d 0)), (1, .int (p)), (2, .int (q))]) hx hb dM_netPaid_84 hl (k := 1) rfl (nI_add k 1) (by decide) rfl (fun ls hl => ?_)
        refine lv_goto (tgt := 5) hx hb dM_netPaid_87 (by decide) ?_
        exact ih n (k + 1, v) ls (by omega) ⟨by omega, by omega, by rw [← hE, f_M_netPaid_l_s, if_neg c_11, if_neg c_22, if_neg c_56], lv_sub hl [0, 1, 2, 3, 4] rfl⟩
      · refine lv_aload_n hx hb dM_netPaid_59 rfl (lv_at hl 2 rfl) ?_
        refine ka_get (ci := 4) (C := RM) (T := TM) (N := 26) hx hb hts inM hown hK hP (q := 0) hm.1 rfl 12 (by decide) (hts _ tw_396) (fun _ h9 => h9) rfl dM_netPaid_60 ?_
        refine lv_iload hx hb dM_netPaid_63 (lv_at hl 0 rfl) ?_
        refine ka_iald hx hb hK hP 0 (q := 7) hm.2.2.2.2.2.2.2.1 rfl (by first | assumption | exact vp_in_nI (by omega) (by omega)) dM_netPaid_65 ?_
        refine lv_iload_n hx hb dM_netPaid_66 rfl (lv_at hl 3 rfl) ?_
        refine lv_icmp_ne (tgt := 82) hx hb dM_netPaid_67 (by decide) (fun c_67 => ?_) (fun c_67 => ?_)
        · refine lv_lload_n hx hb dM_netPaid_82 rfl (lv_at hl 1 rfl) ?_
          refine lv_lstore_n (lv' := [(3, .long (v)), (5, .int (nI k)), (0, .ref (d 0)), (1, .int (p)), (2, .int (q))]) hx hb dM_netPaid_83 rfl hl (by decide) rfl (fun ls hl => ?_)
          refine lv_iinc (v := nI (k + 1)) (lv' := [(5, .int (nI (k + 1))), (3, .long (v)), (0, .ref (d 0)), (1, .int (p)), (2, .int (q))]) hx hb dM_netPaid_84 hl (k := 1) rfl (nI_add k 1) (by decide) rfl (fun ls hl => ?_)
          refine lv_goto (tgt := 5) hx hb dM_netPaid_87 (by decide) ?_
          exact ih n (k + 1, v) ls (by omega) ⟨by omega, by omega, by rw [← hE, f_M_netPaid_l_s, if_neg c_11, if_neg c_22, if_pos c_56, if_neg c_67], lv_sub hl [0, 1, 2, 3, 4] rfl⟩
        · refine lv_lload_n hx hb dM_netPaid_70 rfl (lv_at hl 1 rfl) ?_
          refine lv_aload_n hx hb dM_netPaid_71 rfl (lv_at hl 2 rfl) ?_
          refine ka_get (ci := 4) (C := RM) (T := TM) (N := 26) hx hb hts inM hown hK hP (q := 0) hm.1 rfl 13 (by decide) (hts _ tw_397) (fun _ h9 => h9) rfl dM_netPaid_72 ?_
          refine lv_iload hx hb dM_netPaid_75 (lv_at hl 0 rfl) ?_
          refine ka_lald hx hb hK hP 1 (q := 8) hm.2.2.2.2.2.2.2.2.1 rfl (by first | assumption | exact vp_in_nI (by omega) (by omega)) dM_netPaid_77 ?_
          refine lv_lsub hx hb dM_netPaid_78 ?_
          refine lv_goto (tgt := 83) hx hb dM_netPaid_79 (by decide) ?_
          refine lv_lstore_n (lv' := [(3, .long (v - ((m.2.2.2 2) (nI k).toNatClampNeg))), (5, .int (nI k)), (0, .ref (d 0)), (1, .int (p)), (2, .int (q))]) hx hb dM_netPaid_83 rfl hl (by decide) rfl (fun ls hl => ?_)
          refine lv_iinc (v := nI (k + 1)) (lv' := [(5, .int (nI (k + 1))), (3, .long (v - ((m.2.2.2 2) (nI k).toNatClampNeg))), (0, .ref (d 0)), (1, .int (p)), (2, .int (q))]) hx hb dM_netPaid_84 hl (k := 1) rfl (nI_add k 1) (by decide) rfl (fun ls hl => ?_)
          refine lv_goto (tgt := 5) hx hb dM_netPaid_87 (by decide) ?_
          exact ih n (k + 1, v - ((m.2.2.2 2) (nI k).toNatClampNeg)) ls (by omega) ⟨by omega, by omega, by rw [← hE, f_M_netPaid_l_s, if_neg c_11, if_neg c_22, if_pos c_56, if_pos c_67], lv_sub hl [0, 1, 2, 3, 4] rfl⟩
    · refine lv_aload_n hx hb dM_netPaid_25 rfl (lv_at hl 2 rfl) ?_
      refine ka_get (ci := 4) (C := RM) (T := TM) (N := 26) hx hb hts inM hown hK hP (q := 0) hm.1 rfl 12 (by decide) (hts _ tw_396) (fun _ h9 => h9) rfl dM_netPaid_26 ?_
      refine lv_iload hx hb dM_netPaid_29 (lv_at hl 0 rfl) ?_
      refine ka_iald hx hb hK hP 0 (q := 7) hm.2.2.2.2.2.2.2.1 rfl (by first | assumption | exact vp_in_nI (by omega) (by omega)) dM_netPaid_31 ?_
      refine lv_iload_n hx hb dM_netPaid_32 rfl (lv_at hl 4 rfl) ?_
      refine lv_icmp_ne (tgt := 48) hx hb dM_netPaid_33 (by decide) (fun c_33 => ?_) (fun c_33 => ?_)
      · refine lv_aload_n hx hb dM_netPaid_48 rfl (lv_at hl 2 rfl) ?_
        refine ka_get (ci := 4) (C := RM) (T := TM) (N := 26) hx hb hts inM hown hK hP (q := 0) hm.1 rfl 11 (by decide) (hts _ tw_395) (fun _ h9 => h9) rfl dM_netPaid_49 ?_
        refine lv_iload hx hb dM_netPaid_52 (lv_at hl 0 rfl) ?_
        refine ka_iald hx hb hK hP 0 (q := 6) hm.2.2.2.2.2.2.1 rfl (by first | assumption | exact vp_in_nI (by omega) (by omega)) dM_netPaid_54 ?_
        refine lv_iload_n hx hb dM_netPaid_55 rfl (lv_at hl 4 rfl) ?_
        refine lv_icmp_ne (tgt := 82) hx hb dM_netPaid_56 (by decide) (fun c_56 => ?_) (fun c_56 => ?_)
        · refine lv_lload_n hx hb dM_netPaid_82 rfl (lv_at hl 1 rfl) ?_
          refine lv_lstore_n (lv' := [(3, .long (v)), (5, .int (nI k)), (0, .ref (d 0)), (1, .int (p)), (2, .int (q))]) hx hb dM_netPaid_83 rfl hl (by decide) rfl (fun ls hl => ?_)
          refine lv_iinc (v := nI (k + 1)) (lv' := [(5, .int (nI (k + 1))), (3, .long (v)), (0, .ref (d 0)), (1, .int (p)), (2, .int (q))]) hx hb dM_netPaid_84 hl (k := 1) rfl (nI_add k 1) (by decide) rfl (fun ls hl => ?_)
          refine lv_goto (tgt := 5) hx hb dM_netPaid_87 (by decide) ?_
          exact ih n (k + 1, v) ls (by omega) ⟨by omega, by omega, by rw [← hE, f_M_netPaid_l_s, if_neg c_11, if_pos c_22, if_neg c_33, if_neg c_56], lv_sub hl [0, 1, 2, 3, 4] rfl⟩
        · refine lv_aload_n hx hb dM_netPaid_59 rfl (lv_at hl 2 rfl) ?_
          refine ka_get (ci := 4) (C := RM) (T := TM) (N := 26) hx hb hts inM hown hK hP (q := 0) hm.1 rfl 12 (by decide) (hts _ tw_396) (fun _ h9 => h9) rfl dM_netPaid_60 ?_
          refine lv_iload hx hb dM_netPaid_63 (lv_at hl 0 rfl) ?_
          refine ka_iald hx hb hK hP 0 (q := 7) hm.2.2.2.2.2.2.2.1 rfl (by first | assumption | exact vp_in_nI (by omega) (by omega)) dM_netPaid_65 ?_
          refine lv_iload_n hx hb dM_netPaid_66 rfl (lv_at hl 3 rfl) ?_
          refine lv_icmp_ne (tgt := 82) hx hb dM_netPaid_67 (by decide) (fun c_67 => ?_) (fun c_67 => ?_)
          · refine lv_lload_n hx hb dM_netPaid_82 rfl (lv_at hl 1 rfl) ?_
            refine lv_lstore_n (lv' := [(3, .long (v)), (5, .int (nI k)), (0, .ref (d 0)), (1, .int (p)), (2, .int (q))]) hx hb dM_netPaid_83 rfl hl (by decide) rfl (fun ls hl => ?_)
            refine lv_iinc (v := nI (k + 1)) (lv' := [(5, .int (nI (k + 1))), (3, .long (v)), (0, .ref (d 0)), (1, .int (p)), (2, .int (q))]) hx hb dM_netPaid_84 hl (k := 1) rfl (nI_add k 1) (by decide) rfl (fun ls hl => ?_)
            refine lv_goto (tgt := 5) hx hb dM_netPaid_87 (by decide) ?_
            exact ih n (k + 1, v) ls (by omega) ⟨by omega, by omega, by rw [← hE, f_M_netPaid_l_s, if_neg c_11, if_pos c_22, if_neg c_33, if_pos c_56, if_neg c_67], lv_sub hl [0, 1, 2, 3, 4] rfl⟩
          · refine lv_lload_n hx hb dM_netPaid_70 rfl (lv_at hl 1 rfl) ?_
            refine lv_aload_n hx hb dM_netPaid_71 rfl (lv_at hl 2 rfl) ?_
            refine ka_get (ci := 4) (C := RM) (T := TM) (N := 26) hx hb hts inM hown hK hP (q := 0) hm.1 rfl 13 (by decide) (hts _ tw_397) (fun _ h9 => h9) rfl dM_netPaid_72 ?_
            refine lv_iload hx hb dM_netPaid_75 (lv_at hl 0 rfl) ?_
            refine ka_lald hx hb hK hP 1 (q := 8) hm.2.2.2.2.2.2.2.2.1 rfl (by first | assumption | exact vp_in_nI (by omega) (by omega)) dM_netPaid_77 ?_
            refine lv_lsub hx hb dM_netPaid_78 ?_
            refine lv_goto (tgt := 83) hx hb dM_netPaid_79 (by decide) ?_
            refine lv_lstore_n (lv' := [(3, .long (v - ((m.2.2.2 2) (nI k).toNatClampNeg))), (5, .int (nI k)), (0, .ref (d 0)), (1, .int (p)), (2, .int (q))]) hx hb dM_netPaid_83 rfl hl (by decide) rfl (fun ls hl => ?_)
            refine lv_iinc (v := nI (k + 1)) (lv' := [(5, .int (nI (k + 1))), (3, .long (v - ((m.2.2.2 2) (nI k).toNatClampNeg))), (0, .ref (d 0)), (1, .int (p)), (2, .int (q))]) hx hb dM_netPaid_84 hl (k := 1) rfl (nI_add k 1) (by decide) rfl (fun ls hl => ?_)
            refine lv_goto (tgt := 5) hx hb dM_netPaid_87 (by decide) ?_
            exact ih n (k + 1, v - ((m.2.2.2 2) (nI k).toNatClampNeg)) ls (by omega) ⟨by omega, by omega, by rw [← hE, f_M_netPaid_l_s, if_neg c_11, if_pos c_22, if_neg c_33, if_pos c_56, if_pos c_67], lv_sub hl [0, 1, 2, 3, 4] rfl⟩
      · refine lv_lload_n hx hb dM_netPaid_36 rfl (lv_at hl 1 rfl) ?_
        refine lv_aload_n hx hb dM_netPaid_37 rfl (lv_at hl 2 rfl) ?_
        refine ka_get (ci := 4) (C := RM) (T := TM) (N := 26) hx hb hts inM hown hK hP (q := 0) hm.1 rfl 13 (by decide) (hts _ tw_397) (fun _ h9 => h9) rfl dM_netPaid_38 ?_
        refine lv_iload hx hb dM_netPaid_41 (lv_at hl 0 rfl) ?_
        refine ka_lald hx hb hK hP 1 (q := 8) hm.2.2.2.2.2.2.2.2.1 rfl (by first | assumption | exact vp_in_nI (by omega) (by omega)) dM_netPaid_43 ?_
        refine lv_ladd hx hb dM_netPaid_44 ?_
        refine lv_goto (tgt := 83) hx hb dM_netPaid_45 (by decide) ?_
        refine lv_lstore_n (lv' := [(3, .long (v + ((m.2.2.2 2) (nI k).toNatClampNeg))), (5, .int (nI k)), (0, .ref (d 0)), (1, .int (p)), (2, .int (q))]) hx hb dM_netPaid_83 rfl hl (by decide) rfl (fun ls hl => ?_)
        refine lv_iinc (v := nI (k + 1)) (lv' := [(5, .int (nI (k + 1))), (3, .long (v + ((m.2.2.2 2) (nI k).toNatClampNeg))), (0, .ref (d 0)), (1, .int (p)), (2, .int (q))]) hx hb dM_netPaid_84 hl (k := 1) rfl (nI_add k 1) (by decide) rfl (fun ls hl => ?_)
        refine lv_goto (tgt := 5) hx hb dM_netPaid_87 (by decide) ?_
        exact ih n (k + 1, v + ((m.2.2.2 2) (nI k).toNatClampNeg)) ls (by omega) ⟨by omega, by omega, by rw [← hE, f_M_netPaid_l_s, if_neg c_11, if_pos c_22, if_pos c_33], lv_sub hl [0, 1, 2, 3, 4] rfl⟩

theorem dM_limitAt_0 : decode prog_6_method_13_code 0 = .ok (.iconst (-1), 1) := by decide +kernel
theorem dM_limitAt_1 : decode prog_6_method_13_code 1 = .ok (.istore_n 3, 1) := by decide +kernel
theorem dM_limitAt_2 : decode prog_6_method_13_code 2 = .ok (.iconst 0, 1) := by decide +kernel
theorem dM_limitAt_3 : decode prog_6_method_13_code 3 = .ok (.istore 4, 2) := by decide +kernel
theorem dM_limitAt_5 : decode prog_6_method_13_code 5 = .ok (.iload 4, 2) := by decide +kernel
theorem dM_limitAt_7 : decode prog_6_method_13_code 7 = .ok (.aload_n 0, 1) := by decide +kernel
theorem dM_limitAt_8 : decode prog_6_method_13_code 8 = .ok (.getfield 109, 3) := by decide +kernel
theorem dM_limitAt_11 : decode prog_6_method_13_code 11 = .ok (.if_icmp .ge 38, 3) := by decide +kernel
theorem dM_limitAt_14 : decode prog_6_method_13_code 14 = .ok (.aload_n 0, 1) := by decide +kernel
theorem dM_limitAt_15 : decode prog_6_method_13_code 15 = .ok (.getfield 45, 3) := by decide +kernel
theorem dM_limitAt_18 : decode prog_6_method_13_code 18 = .ok (.iload 4, 2) := by decide +kernel
theorem dM_limitAt_20 : decode prog_6_method_13_code 20 = .ok (.iaload, 1) := by decide +kernel
theorem dM_limitAt_21 : decode prog_6_method_13_code 21 = .ok (.iload_n 1, 1) := by decide +kernel
theorem dM_limitAt_22 : decode prog_6_method_13_code 22 = .ok (.if_icmp .ne 19, 3) := by decide +kernel
theorem dM_limitAt_25 : decode prog_6_method_13_code 25 = .ok (.aload_n 0, 1) := by decide +kernel
theorem dM_limitAt_26 : decode prog_6_method_13_code 26 = .ok (.getfield 48, 3) := by decide +kernel
theorem dM_limitAt_29 : decode prog_6_method_13_code 29 = .ok (.iload 4, 2) := by decide +kernel
theorem dM_limitAt_31 : decode prog_6_method_13_code 31 = .ok (.iaload, 1) := by decide +kernel
theorem dM_limitAt_32 : decode prog_6_method_13_code 32 = .ok (.iload_n 2, 1) := by decide +kernel
theorem dM_limitAt_33 : decode prog_6_method_13_code 33 = .ok (.if_icmp .ne 8, 3) := by decide +kernel
theorem dM_limitAt_36 : decode prog_6_method_13_code 36 = .ok (.iload 4, 2) := by decide +kernel
theorem dM_limitAt_38 : decode prog_6_method_13_code 38 = .ok (.goto 4, 3) := by decide +kernel
theorem dM_limitAt_41 : decode prog_6_method_13_code 41 = .ok (.iload_n 3, 1) := by decide +kernel
theorem dM_limitAt_42 : decode prog_6_method_13_code 42 = .ok (.istore_n 3, 1) := by decide +kernel
theorem dM_limitAt_43 : decode prog_6_method_13_code 43 = .ok (.iinc 4 1, 3) := by decide +kernel
theorem dM_limitAt_46 : decode prog_6_method_13_code 46 = .ok (.goto (-41), 3) := by decide +kernel
theorem dM_limitAt_49 : decode prog_6_method_13_code 49 = .ok (.iload_n 3, 1) := by decide +kernel
theorem dM_limitAt_50 : decode prog_6_method_13_code 50 = .ok (.ireturn, 1) := by decide +kernel
def f_M_limitAt_l (m : MS) (p : Int32) (q : Int32) : Nat → Nat → Int32 → Int32
  | 0, _, _ => 0
  | n + 1, k, at9 => if (nI (m.1 6)) ≤ (nI k) then at9 else (if ((m.2.2.1 6) (nI k).toNatClampNeg) = p then (if ((m.2.2.1 7) (nI k).toNatClampNeg) = q then (f_M_limitAt_l m p q n (k + 1) (nI k)) else (f_M_limitAt_l m p q n (k + 1) at9)) else (f_M_limitAt_l m p q n (k + 1) at9))
theorem f_M_limitAt_l_s (m : MS) (p : Int32) (q : Int32) (n : Nat) (k : Nat) (at9 : Int32) : f_M_limitAt_l m p q (n + 1) k at9 = (if (nI (m.1 6)) ≤ (nI k) then at9 else (if ((m.2.2.1 6) (nI k).toNatClampNeg) = p then (if ((m.2.2.1 7) (nI k).toNatClampNeg) = q then (f_M_limitAt_l m p q n (k + 1) (nI k)) else (f_M_limitAt_l m p q n (k + 1) at9)) else (f_M_limitAt_l m p q n (k + 1) at9))) := rfl
def f_M_limitAt (m : MS) (p : Int32) (q : Int32) : Int32 := f_M_limitAt_l m p q (m.1 6 + 1) 0 (-1)
set_option maxHeartbeats 4000000 in
set_option maxRecDepth 100000 in
theorem c_M_limitAt (l : Launch) (D : va_G) (cI cL cQ : ClassId) (d : Nat → Nat) (κ : Nat → Option va_E) (m : MS) (hm : IsM cI cL d κ m) (hB : MB m) (sz : Nat) (p : Int32) (q : Int32)  : Met l yM_limitAt wM_limitAt { frames := 0, cells := 0, slots := 0, locals := 0 } (va_Pc [.ref (d 0), .int (p), .int (q)] (kC D vCl (kT cI cL cQ) d κ sz)) (vp_Si (fun r => r = f_M_limitAt m p q)) 0 0 (fun _ => False) := by
  refine kMet (by decide) (Nat.le_of_ble_eq_true rfl) ?_
  intro p0 e0 s0 m0 below0 meth0 c0 hx hb hr hml hown hlocks hin hts hsz hP hK ls hl
  have hl : lv_has ls 5 [(0, .ref (d 0)), (1, .int (p)), (2, .int (q))] := hl
  have hB9 := hB
  obtain ⟨hb0, hb1, hb2, hb3, hb4, hb5, hb6, hb7, hb8, hb9, hb10⟩ := hB9
  refine lv_iconst (v := -1) hx hb dM_limitAt_0 (by decide) ?_
  refine lv_istore_n (lv' := [(3, .int (-1)), (0, .ref (d 0)), (1, .int (p)), (2, .int (q))]) hx hb dM_limitAt_1 rfl hl (by decide) rfl (fun ls hl => ?_)
  refine lv_iconst (v := 0) hx hb dM_limitAt_2 (by decide) ?_
  refine lv_istore (lv' := [(4, .int (0)), (3, .int (-1)), (0, .ref (d 0)), (1, .int (p)), (2, .int (q))]) hx hb dM_limitAt_3 hl (by decide) rfl (fun ls hl => ?_)
  refine k_rec (σ := Nat × Int32) (fun n z9 ls => z9.1 ≤ m.1 6 ∧ m.1 6 < z9.1 + n ∧ f_M_limitAt_l m p q n z9.1 z9.2 = f_M_limitAt m p q ∧ lv_has ls 5 [(4, .int (nI z9.1)), (3, .int z9.2), (0, .ref (d 0)), (1, .int (p)), (2, .int (q))]) (m.1 6 + 1) (0, -1) ⟨by omega, by omega, by rw [f_M_limitAt], lv_sub hl [0, 1, 2, 3, 4] rfl⟩ ?_
  intro n z9 ls hI ih
  obtain ⟨k, at9⟩ := z9
  obtain ⟨hk, hn, hE, hl⟩ := hI
  dsimp only at hk hn hE hl
  obtain ⟨n, rfl⟩ : ∃ q, n = q + 1 := ⟨n - 1, by omega⟩
  refine lv_iload hx hb dM_limitAt_5 (lv_at hl 0 rfl) ?_
  refine lv_aload_n hx hb dM_limitAt_7 rfl (lv_at hl 2 rfl) ?_
  refine ka_get (ci := 4) (C := RM) (T := TM) (N := 26) hx hb hts inM hown hK hP (q := 0) hm.1 rfl 17 (by decide) (hts _ tw_401) (fun _ h9 => h9) rfl dM_limitAt_8 ?_
  refine lv_icmp_ge (tgt := 49) hx hb dM_limitAt_11 (by decide) (fun c_11 => ?_) (fun c_11 => ?_)
  · refine lv_iload_n hx hb dM_limitAt_49 rfl (lv_at hl 1 rfl) ?_
    exact W.iret (v := at9) hx hb hr (fun t ht hW => ⟨_, rfl, by rw [← hE, f_M_limitAt_l_s, if_pos c_11], ht⟩) (fun q h => by cases h) dM_limitAt_50
  · have hlt : k < m.1 6 := Nat.lt_of_not_le (fun q => c_11 (nI_le q (by omega)))
    refine lv_aload_n hx hb dM_limitAt_14 rfl (lv_at hl 2 rfl) ?_
    refine ka_get (ci := 4) (C := RM) (T := TM) (N := 26) hx hb hts inM hown hK hP (q := 0) hm.1 rfl 18 (by decide) (hts _ tw_402) (fun _ h9 => h9) rfl dM_limitAt_15 ?_
    refine lv_iload hx hb dM_limitAt_18 (lv_at hl 0 rfl) ?_
    refine ka_iald hx hb hK hP 0 (q := 11) hm.2.2.2.2.2.2.2.2.2.2.2.1 rfl (by first | assumption | exact vp_in_nI (by omega) (by omega)) dM_limitAt_20 ?_
    refine lv_iload_n hx hb dM_limitAt_21 rfl (lv_at hl 3 rfl) ?_
    refine lv_icmp_ne (tgt := 41) hx hb dM_limitAt_22 (by decide) (fun c_22 => ?_) (fun c_22 => ?_)
    · refine lv_iload_n hx hb dM_limitAt_41 rfl (lv_at hl 1 rfl) ?_
      refine lv_istore_n (lv' := [(3, .int (at9)), (4, .int (nI k)), (0, .ref (d 0)), (1, .int (p)), (2, .int (q))]) hx hb dM_limitAt_42 rfl hl (by decide) rfl (fun ls hl => ?_)
      refine lv_iinc (v := nI (k + 1)) (lv' := [(4, .int (nI (k + 1))), (3, .int (at9)), (0, .ref (d 0)), (1, .int (p)), (2, .int (q))]) hx hb dM_limitAt_43 hl (k := 1) rfl (nI_add k 1) (by decide) rfl (fun ls hl => ?_)
      refine lv_goto (tgt := 5) hx hb dM_limitAt_46 (by decide) ?_
      exact ih n (k + 1, at9) ls (by omega) ⟨by omega, by omega, by rw [← hE, f_M_limitAt_l_s, if_neg c_11, if_neg c_22], lv_sub hl [0, 1, 2, 3, 4] rfl⟩
    · refine lv_aload_n hx hb dM_limitAt_25 rfl (lv_at hl 2 rfl) ?_
      refine ka_get (ci := 4) (C := RM) (T := TM) (N := 26) hx hb hts inM hown hK hP (q := 0) hm.1 rfl 19 (by decide) (hts _ tw_403) (fun _ h9 => h9) rfl dM_limitAt_26 ?_
      refine lv_iload hx hb dM_limitAt_29 (lv_at hl 0 rfl) ?_
      refine ka_iald hx hb hK hP 0 (q := 12) hm.2.2.2.2.2.2.2.2.2.2.2.2.1 rfl (by first | assumption | exact vp_in_nI (by omega) (by omega)) dM_limitAt_31 ?_
      refine lv_iload_n hx hb dM_limitAt_32 rfl (lv_at hl 4 rfl) ?_
      refine lv_icmp_ne (tgt := 41) hx hb dM_limitAt_33 (by decide) (fun c_33 => ?_) (fun c_33 => ?_)
      · refine lv_iload_n hx hb dM_limitAt_41 rfl (lv_at hl 1 rfl) ?_
        refine lv_istore_n (lv' := [(3, .int (at9)), (4, .int (nI k)), (0, .ref (d 0)), (1, .int (p)), (2, .int (q))]) hx hb dM_limitAt_42 rfl hl (by decide) rfl (fun ls hl => ?_)
        refine lv_iinc (v := nI (k + 1)) (lv' := [(4, .int (nI (k + 1))), (3, .int (at9)), (0, .ref (d 0)), (1, .int (p)), (2, .int (q))]) hx hb dM_limitAt_43 hl (k := 1) rfl (nI_add k 1) (by decide) rfl (fun ls hl => ?_)
        refine lv_goto (tgt := 5) hx hb dM_limitAt_46 (by decide) ?_
        exact ih n (k + 1, at9) ls (by omega) ⟨by omega, by omega, by rw [← hE, f_M_limitAt_l_s, if_neg c_11, if_pos c_22, if_neg c_33], lv_sub hl [0, 1, 2, 3, 4] rfl⟩
      · refine lv_iload hx hb dM_limitAt_36 (lv_at hl 0 rfl) ?_
        refine lv_goto (tgt := 42) hx hb dM_limitAt_38 (by decide) ?_
        refine lv_istore_n (lv' := [(3, .int (nI k)), (4, .int (nI k)), (0, .ref (d 0)), (1, .int (p)), (2, .int (q))]) hx hb dM_limitAt_42 rfl hl (by decide) rfl (fun ls hl => ?_)
        refine lv_iinc (v := nI (k + 1)) (lv' := [(4, .int (nI (k + 1))), (3, .int (nI k)), (0, .ref (d 0)), (1, .int (p)), (2, .int (q))]) hx hb dM_limitAt_43 hl (k := 1) rfl (nI_add k 1) (by decide) rfl (fun ls hl => ?_)
        refine lv_goto (tgt := 5) hx hb dM_limitAt_46 (by decide) ?_
        exact ih n (k + 1, nI k) ls (by omega) ⟨by omega, by omega, by rw [← hE, f_M_limitAt_l_s, if_neg c_11, if_pos c_22, if_pos c_33], lv_sub hl [0, 1, 2, 3, 4] rfl⟩

theorem dM_creditOf_0 : decode prog_6_method_6_code 0 = .ok (.lconst 0, 1) := by decide +kernel
theorem dM_creditOf_1 : decode prog_6_method_6_code 1 = .ok (.lstore_n 2, 1) := by decide +kernel
theorem dM_creditOf_2 : decode prog_6_method_6_code 2 = .ok (.iconst 0, 1) := by decide +kernel
theorem dM_creditOf_3 : decode prog_6_method_6_code 3 = .ok (.istore 4, 2) := by decide +kernel
theorem dM_creditOf_5 : decode prog_6_method_6_code 5 = .ok (.iload 4, 2) := by decide +kernel
theorem dM_creditOf_7 : decode prog_6_method_6_code 7 = .ok (.aload_n 0, 1) := by decide +kernel
theorem dM_creditOf_8 : decode prog_6_method_6_code 8 = .ok (.getfield 85, 3) := by decide +kernel
theorem dM_creditOf_11 : decode prog_6_method_6_code 11 = .ok (.if_icmp .ge 67, 3) := by decide +kernel
theorem dM_creditOf_14 : decode prog_6_method_6_code 14 = .ok (.aload_n 0, 1) := by decide +kernel
theorem dM_creditOf_15 : decode prog_6_method_6_code 15 = .ok (.getfield 13, 3) := by decide +kernel
theorem dM_creditOf_18 : decode prog_6_method_6_code 18 = .ok (.iload 4, 2) := by decide +kernel
theorem dM_creditOf_20 : decode prog_6_method_6_code 20 = .ok (.iaload, 1) := by decide +kernel
theorem dM_creditOf_21 : decode prog_6_method_6_code 21 = .ok (.iconst 1, 1) := by decide +kernel
theorem dM_creditOf_22 : decode prog_6_method_6_code 22 = .ok (.if_icmp .ne 32, 3) := by decide +kernel
theorem dM_creditOf_25 : decode prog_6_method_6_code 25 = .ok (.lload_n 2, 1) := by decide +kernel
theorem dM_creditOf_26 : decode prog_6_method_6_code 26 = .ok (.aload_n 0, 1) := by decide +kernel
theorem dM_creditOf_27 : decode prog_6_method_6_code 27 = .ok (.iload_n 1, 1) := by decide +kernel
theorem dM_creditOf_28 : decode prog_6_method_6_code 28 = .ok (.iload 4, 2) := by decide +kernel
theorem dM_creditOf_30 : decode prog_6_method_6_code 30 = .ok (.invokevirtual 88, 3) := by decide +kernel
theorem dM_creditOf_33 : decode prog_6_method_6_code 33 = .ok (.aload_n 0, 1) := by decide +kernel
theorem dM_creditOf_34 : decode prog_6_method_6_code 34 = .ok (.getfield 17, 3) := by decide +kernel
theorem dM_creditOf_37 : decode prog_6_method_6_code 37 = .ok (.iload 4, 2) := by decide +kernel
theorem dM_creditOf_39 : decode prog_6_method_6_code 39 = .ok (.laload, 1) := by decide +kernel
theorem dM_creditOf_40 : decode prog_6_method_6_code 40 = .ok (.aload_n 0, 1) := by decide +kernel
theorem dM_creditOf_41 : decode prog_6_method_6_code 41 = .ok (.getfield 21, 3) := by decide +kernel
theorem dM_creditOf_44 : decode prog_6_method_6_code 44 = .ok (.iload 4, 2) := by decide +kernel
theorem dM_creditOf_46 : decode prog_6_method_6_code 46 = .ok (.iaload, 1) := by decide +kernel
theorem dM_creditOf_47 : decode prog_6_method_6_code 47 = .ok (.invokestatic 92, 3) := by decide +kernel
theorem dM_creditOf_50 : decode prog_6_method_6_code 50 = .ok (.ladd, 1) := by decide +kernel
theorem dM_creditOf_51 : decode prog_6_method_6_code 51 = .ok (.goto 4, 3) := by decide +kernel
theorem dM_creditOf_54 : decode prog_6_method_6_code 54 = .ok (.lload_n 2, 1) := by decide +kernel
theorem dM_creditOf_55 : decode prog_6_method_6_code 55 = .ok (.lstore_n 2, 1) := by decide +kernel
theorem dM_creditOf_56 : decode prog_6_method_6_code 56 = .ok (.lload_n 2, 1) := by decide +kernel
theorem dM_creditOf_57 : decode prog_6_method_6_code 57 = .ok (.ldc2_w 83, 3) := by decide +kernel
theorem dM_creditOf_60 : decode prog_6_method_6_code 60 = .ok (.lcmp, 1) := by decide +kernel
theorem dM_creditOf_61 : decode prog_6_method_6_code 61 = .ok (.ifCond .le 9, 3) := by decide +kernel
theorem dM_creditOf_64 : decode prog_6_method_6_code 64 = .ok (.ldc2_w 83, 3) := by decide +kernel
theorem dM_creditOf_67 : decode prog_6_method_6_code 67 = .ok (.goto 4, 3) := by decide +kernel
theorem dM_creditOf_70 : decode prog_6_method_6_code 70 = .ok (.lload_n 2, 1) := by decide +kernel
theorem dM_creditOf_71 : decode prog_6_method_6_code 71 = .ok (.lstore_n 2, 1) := by decide +kernel
theorem dM_creditOf_72 : decode prog_6_method_6_code 72 = .ok (.iinc 4 1, 3) := by decide +kernel
theorem dM_creditOf_75 : decode prog_6_method_6_code 75 = .ok (.goto (-70), 3) := by decide +kernel
theorem dM_creditOf_78 : decode prog_6_method_6_code 78 = .ok (.lload_n 2, 1) := by decide +kernel
theorem dM_creditOf_79 : decode prog_6_method_6_code 79 = .ok (.lreturn, 1) := by decide +kernel
def f_M_creditOf_l (m : MS) (p : Int32) : Nat → Nat → Int64 → Int64
  | 0, _, _ => 0
  | n + 1, a, v => if (nI (m.1 2)) ≤ (nI a) then v else (if ((m.2.2.1 0) (nI a).toNatClampNeg) = 1 then (if 4100000000000000000 < (v + (f_M_worth (f_M_pledged m p (nI a)) ((m.2.2.2 0) (nI a).toNatClampNeg) ((m.2.2.1 1) (nI a).toNatClampNeg))) then (f_M_creditOf_l m p n (a + 1) 4100000000000000000) else (f_M_creditOf_l m p n (a + 1) (v + (f_M_worth (f_M_pledged m p (nI a)) ((m.2.2.2 0) (nI a).toNatClampNeg) ((m.2.2.1 1) (nI a).toNatClampNeg))))) else (if 4100000000000000000 < v then (f_M_creditOf_l m p n (a + 1) 4100000000000000000) else (f_M_creditOf_l m p n (a + 1) v)))
theorem f_M_creditOf_l_s (m : MS) (p : Int32) (n : Nat) (a : Nat) (v : Int64) : f_M_creditOf_l m p (n + 1) a v = (if (nI (m.1 2)) ≤ (nI a) then v else (if ((m.2.2.1 0) (nI a).toNatClampNeg) = 1 then (if 4100000000000000000 < (v + (f_M_worth (f_M_pledged m p (nI a)) ((m.2.2.2 0) (nI a).toNatClampNeg) ((m.2.2.1 1) (nI a).toNatClampNeg))) then (f_M_creditOf_l m p n (a + 1) 4100000000000000000) else (f_M_creditOf_l m p n (a + 1) (v + (f_M_worth (f_M_pledged m p (nI a)) ((m.2.2.2 0) (nI a).toNatClampNeg) ((m.2.2.1 1) (nI a).toNatClampNeg))))) else (if 4100000000000000000 < v then (f_M_creditOf_l m p n (a + 1) 4100000000000000000) else (f_M_creditOf_l m p n (a + 1) v)))) := rfl
def f_M_creditOf (m : MS) (p : Int32) : Int64 := f_M_creditOf_l m p (m.1 2 + 1) 0 0
set_option maxHeartbeats 4000000 in
set_option maxRecDepth 100000 in
theorem c_M_creditOf (l : Launch) (D : va_G) (cI cL cQ : ClassId) (d : Nat → Nat) (κ : Nat → Option va_E) (m : MS) (hm : IsM cI cL d κ m) (hB : MB m) (sz : Nat) (p : Int32)  : Met l yM_creditOf wM_creditOf { frames := 1, cells := 0, slots := 0, locals := 32 } (va_Pc [.ref (d 0), .int (p)] (kC D vCl (kT cI cL cQ) d κ sz)) (vp_Sl (fun r => r = f_M_creditOf m p)) 0 0 (fun _ => False) := by
  refine kMet (by decide) (Nat.le_of_ble_eq_true rfl) ?_
  intro p0 e0 s0 m0 below0 meth0 c0 hx hb hr hml hown hlocks hin hts hsz hP hK ls hl
  have hl : lv_has ls 5 [(0, .ref (d 0)), (1, .int (p))] := hl
  have hB9 := hB
  obtain ⟨hb0, hb1, hb2, hb3, hb4, hb5, hb6, hb7, hb8, hb9, hb10⟩ := hB9
  refine lv_lconst (v := 0) hx hb dM_creditOf_0 (by decide) ?_
  refine lv_lstore_n (lv' := [(2, .long (0)), (0, .ref (d 0)), (1, .int (p))]) hx hb dM_creditOf_1 rfl hl (by decide) rfl (fun ls hl => ?_)
  refine lv_iconst (v := 0) hx hb dM_creditOf_2 (by decide) ?_
  refine lv_istore (lv' := [(4, .int (0)), (2, .long (0)), (0, .ref (d 0)), (1, .int (p))]) hx hb dM_creditOf_3 hl (by decide) rfl (fun ls hl => ?_)
  refine k_rec (σ := Nat × Int64) (fun n z9 ls => z9.1 ≤ m.1 2 ∧ m.1 2 < z9.1 + n ∧ f_M_creditOf_l m p n z9.1 z9.2 = f_M_creditOf m p ∧ lv_has ls 5 [(4, .int (nI z9.1)), (2, .long z9.2), (0, .ref (d 0)), (1, .int (p))]) (m.1 2 + 1) (0, 0) ⟨by omega, by omega, by rw [f_M_creditOf], lv_sub hl [0, 1, 2, 3] rfl⟩ ?_
  intro n z9 ls hI ih
  obtain ⟨a, v⟩ := z9
  obtain ⟨hk, hn, hE, hl⟩ := hI
  dsimp only at hk hn hE hl
  obtain ⟨n, rfl⟩ : ∃ q, n = q + 1 := ⟨n - 1, by omega⟩
  refine lv_iload hx hb dM_creditOf_5 (lv_at hl 0 rfl) ?_
  refine lv_aload_n hx hb dM_creditOf_7 rfl (lv_at hl 2 rfl) ?_
  refine ka_get (ci := 4) (C := RM) (T := TM) (N := 26) hx hb hts inM hown hK hP (q := 0) hm.1 rfl 2 (by decide) (hts _ tw_386) (fun _ h9 => h9) rfl dM_creditOf_8 ?_
  refine lv_icmp_ge (tgt := 78) hx hb dM_creditOf_11 (by decide) (fun c_11 => ?_) (fun c_11 => ?_)
  · refine lv_lload_n hx hb dM_creditOf_78 rfl (lv_at hl 1 rfl) ?_
    exact W.lret (v := v) hx hb hr (fun t ht hW => ⟨_, rfl, by rw [← hE, f_M_creditOf_l_s, if_pos c_11], ht⟩) (fun q h => by cases h) dM_creditOf_79
  · have hlt : a < m.1 2 := Nat.lt_of_not_le (fun q => c_11 (nI_le q (by omega)))
    refine lv_aload_n hx hb dM_creditOf_14 rfl (lv_at hl 2 rfl) ?_
    refine ka_get (ci := 4) (C := RM) (T := TM) (N := 26) hx hb hts inM hown hK hP (q := 0) hm.1 rfl 4 (by decide) (hts _ tw_388) (fun _ h9 => h9) rfl dM_creditOf_15 ?_
    refine lv_iload hx hb dM_creditOf_18 (lv_at hl 0 rfl) ?_
    refine ka_iald hx hb hK hP 0 (q := 1) hm.2.1 rfl (by first | assumption | exact vp_in_nI (by omega) (by omega)) dM_creditOf_20 ?_
    refine lv_iconst (v := 1) hx hb dM_creditOf_21 (by decide) ?_
    refine lv_icmp_ne (tgt := 54) hx hb dM_creditOf_22 (by decide) (fun c_22 => ?_) (fun c_22 => ?_)
    · refine lv_lload_n hx hb dM_creditOf_54 rfl (lv_at hl 1 rfl) ?_
      refine lv_lstore_n (lv' := [(2, .long (v)), (4, .int (nI a)), (0, .ref (d 0)), (1, .int (p))]) hx hb dM_creditOf_55 rfl hl (by decide) rfl (fun ls hl => ?_)
      refine lv_lload_n hx hb dM_creditOf_56 rfl (lv_at hl 0 rfl) ?_
      refine lv_ldc2 (v := 4100000000000000000) hx hb hown (hts _ tw_519) dM_creditOf_57 ?_
      refine kl_le (tgt := 70) hx hb dM_creditOf_60 dM_creditOf_61 (by decide) (fun c_60 => ?_) (fun c_60 => ?_)
      · refine lv_lload_n hx hb dM_creditOf_70 rfl (lv_at hl 0 rfl) ?_
        refine lv_lstore_n (lv' := [(2, .long (v)), (4, .int (nI a)), (0, .ref (d 0)), (1, .int (p))]) hx hb dM_creditOf_71 rfl hl (by decide) rfl (fun ls hl => ?_)
        refine lv_iinc (v := nI (a + 1)) (lv' := [(4, .int (nI (a + 1))), (2, .long (v)), (0, .ref (d 0)), (1, .int (p))]) hx hb dM_creditOf_72 hl (k := 1) rfl (nI_add a 1) (by decide) rfl (fun ls hl => ?_)
        refine lv_goto (tgt := 5) hx hb dM_creditOf_75 (by decide) ?_
        exact ih n (a + 1, v) ls (by omega) ⟨by omega, by omega, by rw [← hE, f_M_creditOf_l_s, if_neg c_11, if_neg c_22, if_neg c_60], lv_sub hl [0, 1, 2, 3] rfl⟩
      · refine lv_ldc2 (v := 4100000000000000000) hx hb hown (hts _ tw_519) dM_creditOf_64 ?_
        refine lv_goto (tgt := 71) hx hb dM_creditOf_67 (by decide) ?_
        refine lv_lstore_n (lv' := [(2, .long (4100000000000000000)), (4, .int (nI a)), (0, .ref (d 0)), (1, .int (p))]) hx hb dM_creditOf_71 rfl hl (by decide) rfl (fun ls hl => ?_)
        refine lv_iinc (v := nI (a + 1)) (lv' := [(4, .int (nI (a + 1))), (2, .long (4100000000000000000)), (0, .ref (d 0)), (1, .int (p))]) hx hb dM_creditOf_72 hl (k := 1) rfl (nI_add a 1) (by decide) rfl (fun ls hl => ?_)
        refine lv_goto (tgt := 5) hx hb dM_creditOf_75 (by decide) ?_
        exact ih n (a + 1, 4100000000000000000) ls (by omega) ⟨by omega, by omega, by rw [← hE, f_M_creditOf_l_s, if_neg c_11, if_neg c_22, if_pos c_60], lv_sub hl [0, 1, 2, 3] rfl⟩
    · refine lv_lload_n hx hb dM_creditOf_25 rfl (lv_at hl 1 rfl) ?_
      refine lv_aload_n hx hb dM_creditOf_26 rfl (lv_at hl 2 rfl) ?_
      refine lv_iload_n hx hb dM_creditOf_27 rfl (lv_at hl 3 rfl) ?_
      refine lv_iload hx hb dM_creditOf_28 (lv_at hl 0 rfl) ?_
      refine vp_callSl (W.runV (C := RM) (As := [.int (p), .int (nI a)]) (rest := [.long (v)]) ⟨hx, hb, hml, hown, hts⟩ (c_M_pledged l D cI cL cQ d κ m hm hB _ p (nI a)) (cwV 2 hts (k_gV tw_511 tw_513 tw_29 tw_41 tw_514) rfl rfl rfl (by decide +kernel) ⟨Nat.le_of_ble_eq_true rfl, Nat.le_of_ble_eq_true rfl⟩) (kPreV hP hK (q := 0) hm.1 rfl) rfl rfl hl.1 rfl (lv_room (Nat.le_of_ble_eq_true rfl)) dM_creditOf_30 ⟨Nat.le_of_ble_eq_true rfl, Nat.le_of_ble_eq_true rfl⟩) (fun r_30 e_30 => ?_)
      subst e_30
      refine lv_aload_n hx hb dM_creditOf_33 rfl (lv_at hl 2 rfl) ?_
      refine ka_get (ci := 4) (C := RM) (T := TM) (N := 26) hx hb hts inM hown hK hP (q := 0) hm.1 rfl 5 (by decide) (hts _ tw_389) (fun _ h9 => h9) rfl dM_creditOf_34 ?_
      refine lv_iload hx hb dM_creditOf_37 (lv_at hl 0 rfl) ?_
      refine ka_lald hx hb hK hP 1 (q := 2) hm.2.2.1 rfl (by first | assumption | exact vp_in_nI (by omega) (by omega)) dM_creditOf_39 ?_
      refine lv_aload_n hx hb dM_creditOf_40 rfl (lv_at hl 2 rfl) ?_
      refine ka_get (ci := 4) (C := RM) (T := TM) (N := 26) hx hb hts inM hown hK hP (q := 0) hm.1 rfl 6 (by decide) (hts _ tw_390) (fun _ h9 => h9) rfl dM_creditOf_41 ?_
      refine lv_iload hx hb dM_creditOf_44 (lv_at hl 0 rfl) ?_
      refine ka_iald hx hb hK hP 0 (q := 3) hm.2.2.2.1 rfl (by first | assumption | exact vp_in_nI (by omega) (by omega)) dM_creditOf_46 ?_
      refine vp_callSl (W.runS (As := [.long (f_M_pledged m p (nI a)), .long ((m.2.2.2 0) (nI a).toNatClampNeg), .int ((m.2.2.1 1) (nI a).toNatClampNeg)]) (rest := [.long (v)]) ⟨hx, hb, hml, hown, hts⟩ (c_M_worth l D cI cL cQ d κ _ (f_M_pledged m p (nI a)) ((m.2.2.2 0) (nI a).toNatClampNeg) ((m.2.2.1 1) (nI a).toNatClampNeg) (hB.pr hlt (by assumption))) (cwS 3 hts (k_gS tw_515 tw_516 tw_41 tw_517) rfl rfl rfl (by decide +kernel) ⟨Nat.le_of_ble_eq_true rfl, Nat.le_of_ble_eq_true rfl⟩) (kPreS hP hK) rfl rfl hl.1 rfl (lv_room (Nat.le_of_ble_eq_true rfl)) dM_creditOf_47 ⟨Nat.le_of_ble_eq_true rfl, Nat.le_of_ble_eq_true rfl⟩) (fun r_47 e_47 => ?_)
      subst e_47
      refine lv_ladd hx hb dM_creditOf_50 ?_
      refine lv_goto (tgt := 55) hx hb dM_creditOf_51 (by decide) ?_
      refine lv_lstore_n (lv' := [(2, .long (v + (f_M_worth (f_M_pledged m p (nI a)) ((m.2.2.2 0) (nI a).toNatClampNeg) ((m.2.2.1 1) (nI a).toNatClampNeg)))), (4, .int (nI a)), (0, .ref (d 0)), (1, .int (p))]) hx hb dM_creditOf_55 rfl hl (by decide) rfl (fun ls hl => ?_)
      refine lv_lload_n hx hb dM_creditOf_56 rfl (lv_at hl 0 rfl) ?_
      refine lv_ldc2 (v := 4100000000000000000) hx hb hown (hts _ tw_519) dM_creditOf_57 ?_
      refine kl_le (tgt := 70) hx hb dM_creditOf_60 dM_creditOf_61 (by decide) (fun c_60 => ?_) (fun c_60 => ?_)
      · refine lv_lload_n hx hb dM_creditOf_70 rfl (lv_at hl 0 rfl) ?_
        refine lv_lstore_n (lv' := [(2, .long (v + (f_M_worth (f_M_pledged m p (nI a)) ((m.2.2.2 0) (nI a).toNatClampNeg) ((m.2.2.1 1) (nI a).toNatClampNeg)))), (4, .int (nI a)), (0, .ref (d 0)), (1, .int (p))]) hx hb dM_creditOf_71 rfl hl (by decide) rfl (fun ls hl => ?_)
        refine lv_iinc (v := nI (a + 1)) (lv' := [(4, .int (nI (a + 1))), (2, .long (v + (f_M_worth (f_M_pledged m p (nI a)) ((m.2.2.2 0) (nI a).toNatClampNeg) ((m.2.2.1 1) (nI a).toNatClampNeg)))), (0, .ref (d 0)), (1, .int (p))]) hx hb dM_creditOf_72 hl (k := 1) rfl (nI_add a 1) (by decide) rfl (fun ls hl => ?_)
        refine lv_goto (tgt := 5) hx hb dM_creditOf_75 (by decide) ?_
        exact ih n (a + 1, v + (f_M_worth (f_M_pledged m p (nI a)) ((m.2.2.2 0) (nI a).toNatClampNeg) ((m.2.2.1 1) (nI a).toNatClampNeg))) ls (by omega) ⟨by omega, by omega, by rw [← hE, f_M_creditOf_l_s, if_neg c_11, if_pos c_22, if_neg c_60], lv_sub hl [0, 1, 2, 3] rfl⟩
      · refine lv_ldc2 (v := 4100000000000000000) hx hb hown (hts _ tw_519) dM_creditOf_64 ?_
        refine lv_goto (tgt := 71) hx hb dM_creditOf_67 (by decide) ?_
        refine lv_lstore_n (lv' := [(2, .long (4100000000000000000)), (4, .int (nI a)), (0, .ref (d 0)), (1, .int (p))]) hx hb dM_creditOf_71 rfl hl (by decide) rfl (fun ls hl => ?_)
        refine lv_iinc (v := nI (a + 1)) (lv' := [(4, .int (nI (a + 1))), (2, .long (4100000000000000000)), (0, .ref (d 0)), (1, .int (p))]) hx hb dM_creditOf_72 hl (k := 1) rfl (nI_add a 1) (by decide) rfl (fun ls hl => ?_)
        refine lv_goto (tgt := 5) hx hb dM_creditOf_75 (by decide) ?_
        exact ih n (a + 1, 4100000000000000000) ls (by omega) ⟨by omega, by omega, by rw [← hE, f_M_creditOf_l_s, if_neg c_11, if_pos c_22, if_pos c_60], lv_sub hl [0, 1, 2, 3] rfl⟩

theorem dM_isOwed_0 : decode prog_6_method_7_code 0 = .ok (.lconst 0, 1) := by decide +kernel
theorem dM_isOwed_1 : decode prog_6_method_7_code 1 = .ok (.lstore_n 1, 1) := by decide +kernel
theorem dM_isOwed_2 : decode prog_6_method_7_code 2 = .ok (.iconst 1, 1) := by decide +kernel
theorem dM_isOwed_3 : decode prog_6_method_7_code 3 = .ok (.istore_n 3, 1) := by decide +kernel
theorem dM_isOwed_4 : decode prog_6_method_7_code 4 = .ok (.iload_n 3, 1) := by decide +kernel
theorem dM_isOwed_5 : decode prog_6_method_7_code 5 = .ok (.aload_n 0, 1) := by decide +kernel
theorem dM_isOwed_6 : decode prog_6_method_7_code 6 = .ok (.getfield 66, 3) := by decide +kernel
theorem dM_isOwed_9 : decode prog_6_method_7_code 9 = .ok (.if_icmp .ge 33, 3) := by decide +kernel
theorem dM_isOwed_12 : decode prog_6_method_7_code 12 = .ok (.lload_n 1, 1) := by decide +kernel
theorem dM_isOwed_13 : decode prog_6_method_7_code 13 = .ok (.aload_n 0, 1) := by decide +kernel
theorem dM_isOwed_14 : decode prog_6_method_7_code 14 = .ok (.iload_n 3, 1) := by decide +kernel
theorem dM_isOwed_15 : decode prog_6_method_7_code 15 = .ok (.invokevirtual 96, 3) := by decide +kernel
theorem dM_isOwed_18 : decode prog_6_method_7_code 18 = .ok (.ladd, 1) := by decide +kernel
theorem dM_isOwed_19 : decode prog_6_method_7_code 19 = .ok (.lstore_n 1, 1) := by decide +kernel
theorem dM_isOwed_20 : decode prog_6_method_7_code 20 = .ok (.lload_n 1, 1) := by decide +kernel
theorem dM_isOwed_21 : decode prog_6_method_7_code 21 = .ok (.ldc2_w 83, 3) := by decide +kernel
theorem dM_isOwed_24 : decode prog_6_method_7_code 24 = .ok (.lcmp, 1) := by decide +kernel
theorem dM_isOwed_25 : decode prog_6_method_7_code 25 = .ok (.ifCond .le 9, 3) := by decide +kernel
theorem dM_isOwed_28 : decode prog_6_method_7_code 28 = .ok (.ldc2_w 83, 3) := by decide +kernel
theorem dM_isOwed_31 : decode prog_6_method_7_code 31 = .ok (.goto 4, 3) := by decide +kernel
theorem dM_isOwed_34 : decode prog_6_method_7_code 34 = .ok (.lload_n 1, 1) := by decide +kernel
theorem dM_isOwed_35 : decode prog_6_method_7_code 35 = .ok (.lstore_n 1, 1) := by decide +kernel
theorem dM_isOwed_36 : decode prog_6_method_7_code 36 = .ok (.iinc 3 1, 3) := by decide +kernel
theorem dM_isOwed_39 : decode prog_6_method_7_code 39 = .ok (.goto (-35), 3) := by decide +kernel
theorem dM_isOwed_42 : decode prog_6_method_7_code 42 = .ok (.lload_n 1, 1) := by decide +kernel
theorem dM_isOwed_43 : decode prog_6_method_7_code 43 = .ok (.ldc2_w 100, 3) := by decide +kernel
theorem dM_isOwed_46 : decode prog_6_method_7_code 46 = .ok (.lcmp, 1) := by decide +kernel
theorem dM_isOwed_47 : decode prog_6_method_7_code 47 = .ok (.ifCond .le 7, 3) := by decide +kernel
theorem dM_isOwed_50 : decode prog_6_method_7_code 50 = .ok (.iconst 1, 1) := by decide +kernel
theorem dM_isOwed_51 : decode prog_6_method_7_code 51 = .ok (.goto 4, 3) := by decide +kernel
theorem dM_isOwed_54 : decode prog_6_method_7_code 54 = .ok (.iconst 0, 1) := by decide +kernel
theorem dM_isOwed_55 : decode prog_6_method_7_code 55 = .ok (.ireturn, 1) := by decide +kernel
def f_M_isOwed_l (m : MS) : Nat → Nat → Int64 → Int32
  | 0, _, _ => 0
  | n + 1, p, v => if (nI (m.1 0)) ≤ (nI p) then (if 4000000000000000000 < v then 1 else 0) else (if 4100000000000000000 < (v + (f_M_creditOf m (nI p))) then (f_M_isOwed_l m n (p + 1) 4100000000000000000) else (f_M_isOwed_l m n (p + 1) (v + (f_M_creditOf m (nI p)))))
theorem f_M_isOwed_l_s (m : MS) (n : Nat) (p : Nat) (v : Int64) : f_M_isOwed_l m (n + 1) p v = (if (nI (m.1 0)) ≤ (nI p) then (if 4000000000000000000 < v then 1 else 0) else (if 4100000000000000000 < (v + (f_M_creditOf m (nI p))) then (f_M_isOwed_l m n (p + 1) 4100000000000000000) else (f_M_isOwed_l m n (p + 1) (v + (f_M_creditOf m (nI p)))))) := rfl
def f_M_isOwed (m : MS) : Int32 := f_M_isOwed_l m (m.1 0 + 1) 1 0
set_option maxHeartbeats 4000000 in
set_option maxRecDepth 100000 in
theorem c_M_isOwed (l : Launch) (D : va_G) (cI cL cQ : ClassId) (d : Nat → Nat) (κ : Nat → Option va_E) (m : MS) (hm : IsM cI cL d κ m) (hB : MB m) (sz : Nat)   : Met l yM_isOwed wM_isOwed { frames := 2, cells := 0, slots := 0, locals := 56 } (va_Pc [.ref (d 0)] (kC D vCl (kT cI cL cQ) d κ sz)) (vp_Si (fun r => r = f_M_isOwed m)) 0 0 (fun _ => False) := by
  refine kMet (by decide) (Nat.le_of_ble_eq_true rfl) ?_
  intro p0 e0 s0 m0 below0 meth0 c0 hx hb hr hml hown hlocks hin hts hsz hP hK ls hl
  have hl : lv_has ls 4 [(0, .ref (d 0))] := hl
  have hB9 := hB
  obtain ⟨hb0, hb1, hb2, hb3, hb4, hb5, hb6, hb7, hb8, hb9, hb10⟩ := hB9
  refine lv_lconst (v := 0) hx hb dM_isOwed_0 (by decide) ?_
  refine lv_lstore_n (lv' := [(1, .long (0)), (0, .ref (d 0))]) hx hb dM_isOwed_1 rfl hl (by decide) rfl (fun ls hl => ?_)
  refine lv_iconst (v := 1) hx hb dM_isOwed_2 (by decide) ?_
  refine lv_istore_n (lv' := [(3, .int (1)), (1, .long (0)), (0, .ref (d 0))]) hx hb dM_isOwed_3 rfl hl (by decide) rfl (fun ls hl => ?_)
  refine k_rec (σ := Nat × Int64) (fun n z9 ls => z9.1 ≤ m.1 0 ∧ m.1 0 < z9.1 + n ∧ f_M_isOwed_l m n z9.1 z9.2 = f_M_isOwed m ∧ lv_has ls 4 [(3, .int (nI z9.1)), (1, .long z9.2), (0, .ref (d 0))]) (m.1 0 + 1) (1, 0) ⟨by omega, by omega, by rw [f_M_isOwed], lv_sub hl [0, 1, 2] rfl⟩ ?_
  intro n z9 ls hI ih
  obtain ⟨p, v⟩ := z9
  obtain ⟨hk, hn, hE, hl⟩ := hI
  dsimp only at hk hn hE hl
  obtain ⟨n, rfl⟩ : ∃ q, n = q + 1 := ⟨n - 1, by omega⟩
  refine lv_iload_n hx hb dM_isOwed_4 rfl (lv_at hl 0 rfl) ?_
  refine lv_aload_n hx hb dM_isOwed_5 rfl (lv_at hl 2 rfl) ?_
  refine ka_get (ci := 4) (C := RM) (T := TM) (N := 26) hx hb hts inM hown hK hP (q := 0) hm.1 rfl 0 (by decide) (hts _ tw_384) (fun _ h9 => h9) rfl dM_isOwed_6 ?_
  refine lv_icmp_ge (tgt := 42) hx hb dM_isOwed_9 (by decide) (fun c_9 => ?_) (fun c_9 => ?_)
  · refine lv_lload_n hx hb dM_isOwed_42 rfl (lv_at hl 1 rfl) ?_
    refine lv_ldc2 (v := 4000000000000000000) hx hb hown (hts _ tw_524) dM_isOwed_43 ?_
    refine kl_le (tgt := 54) hx hb dM_isOwed_46 dM_isOwed_47 (by decide) (fun c_46 => ?_) (fun c_46 => ?_)
    · refine lv_iconst (v := 0) hx hb dM_isOwed_54 (by decide) ?_
      exact W.zret (v := 0) hx hb hr k_nar0 (fun t ht hW => ⟨_, rfl, by rw [← hE, f_M_isOwed_l_s, if_pos c_9, if_neg c_46], ht⟩) (fun q h => by cases h) dM_isOwed_55
    · refine lv_iconst (v := 1) hx hb dM_isOwed_50 (by decide) ?_
      refine lv_goto (tgt := 55) hx hb dM_isOwed_51 (by decide) ?_
      exact W.zret (v := 1) hx hb hr k_nar1 (fun t ht hW => ⟨_, rfl, by rw [← hE, f_M_isOwed_l_s, if_pos c_9, if_pos c_46], ht⟩) (fun q h => by cases h) dM_isOwed_55
  · have hlt : p < m.1 0 := Nat.lt_of_not_le (fun q => c_9 (nI_le q (by omega)))
    refine lv_lload_n hx hb dM_isOwed_12 rfl (lv_at hl 1 rfl) ?_
    refine lv_aload_n hx hb dM_isOwed_13 rfl (lv_at hl 2 rfl) ?_
    refine lv_iload_n hx hb dM_isOwed_14 rfl (lv_at hl 0 rfl) ?_
    refine vp_callSl (W.runV (C := RM) (As := [.int (nI p)]) (rest := [.long (v)]) ⟨hx, hb, hml, hown, hts⟩ (c_M_creditOf l D cI cL cQ d κ m hm hB _ (nI p)) (cwV 1 hts (k_gV tw_507 tw_509 tw_28 tw_41 tw_510) rfl rfl rfl (by decide +kernel) ⟨Nat.le_of_ble_eq_true rfl, Nat.le_of_ble_eq_true rfl⟩) (kPreV hP hK (q := 0) hm.1 rfl) rfl rfl hl.1 rfl (lv_room (Nat.le_of_ble_eq_true rfl)) dM_isOwed_15 ⟨Nat.le_of_ble_eq_true rfl, Nat.le_of_ble_eq_true rfl⟩) (fun r_15 e_15 => ?_)
    subst e_15
    refine lv_ladd hx hb dM_isOwed_18 ?_
    refine lv_lstore_n (lv' := [(1, .long (v + (f_M_creditOf m (nI p)))), (3, .int (nI p)), (0, .ref (d 0))]) hx hb dM_isOwed_19 rfl hl (by decide) rfl (fun ls hl => ?_)
    refine lv_lload_n hx hb dM_isOwed_20 rfl (lv_at hl 0 rfl) ?_
    refine lv_ldc2 (v := 4100000000000000000) hx hb hown (hts _ tw_519) dM_isOwed_21 ?_
    refine kl_le (tgt := 34) hx hb dM_isOwed_24 dM_isOwed_25 (by decide) (fun c_24 => ?_) (fun c_24 => ?_)
    · refine lv_lload_n hx hb dM_isOwed_34 rfl (lv_at hl 0 rfl) ?_
      refine lv_lstore_n (lv' := [(1, .long (v + (f_M_creditOf m (nI p)))), (3, .int (nI p)), (0, .ref (d 0))]) hx hb dM_isOwed_35 rfl hl (by decide) rfl (fun ls hl => ?_)
      refine lv_iinc (v := nI (p + 1)) (lv' := [(3, .int (nI (p + 1))), (1, .long (v + (f_M_creditOf m (nI p)))), (0, .ref (d 0))]) hx hb dM_isOwed_36 hl (k := 1) rfl (nI_add p 1) (by decide) rfl (fun ls hl => ?_)
      refine lv_goto (tgt := 4) hx hb dM_isOwed_39 (by decide) ?_
      exact ih n (p + 1, v + (f_M_creditOf m (nI p))) ls (by omega) ⟨by omega, by omega, by rw [← hE, f_M_isOwed_l_s, if_neg c_9, if_neg c_24], lv_sub hl [0, 1, 2] rfl⟩
    · refine lv_ldc2 (v := 4100000000000000000) hx hb hown (hts _ tw_519) dM_isOwed_28 ?_
      refine lv_goto (tgt := 35) hx hb dM_isOwed_31 (by decide) ?_
      refine lv_lstore_n (lv' := [(1, .long (4100000000000000000)), (3, .int (nI p)), (0, .ref (d 0))]) hx hb dM_isOwed_35 rfl hl (by decide) rfl (fun ls hl => ?_)
      refine lv_iinc (v := nI (p + 1)) (lv' := [(3, .int (nI (p + 1))), (1, .long (4100000000000000000)), (0, .ref (d 0))]) hx hb dM_isOwed_36 hl (k := 1) rfl (nI_add p 1) (by decide) rfl (fun ls hl => ?_)
      refine lv_goto (tgt := 4) hx hb dM_isOwed_39 (by decide) ?_
      exact ih n (p + 1, 4100000000000000000) ls (by omega) ⟨by omega, by omega, by rw [← hE, f_M_isOwed_l_s, if_neg c_9, if_pos c_24], lv_sub hl [0, 1, 2] rfl⟩

theorem dM_isShort_0 : decode prog_6_method_8_code 0 = .ok (.aload_n 0, 1) := by decide +kernel
theorem dM_isShort_1 : decode prog_6_method_8_code 1 = .ok (.getfield 7, 3) := by decide +kernel
theorem dM_isShort_4 : decode prog_6_method_8_code 4 = .ok (.ifCond .lt 26, 3) := by decide +kernel
theorem dM_isShort_7 : decode prog_6_method_8_code 7 = .ok (.aload_n 0, 1) := by decide +kernel
theorem dM_isShort_8 : decode prog_6_method_8_code 8 = .ok (.iload_n 1, 1) := by decide +kernel
theorem dM_isShort_9 : decode prog_6_method_8_code 9 = .ok (.aload_n 0, 1) := by decide +kernel
theorem dM_isShort_10 : decode prog_6_method_8_code 10 = .ok (.getfield 7, 3) := by decide +kernel
theorem dM_isShort_13 : decode prog_6_method_8_code 13 = .ok (.invokevirtual 102, 3) := by decide +kernel
theorem dM_isShort_16 : decode prog_6_method_8_code 16 = .ok (.aload_n 0, 1) := by decide +kernel
theorem dM_isShort_17 : decode prog_6_method_8_code 17 = .ok (.iload_n 1, 1) := by decide +kernel
theorem dM_isShort_18 : decode prog_6_method_8_code 18 = .ok (.invokevirtual 96, 3) := by decide +kernel
theorem dM_isShort_21 : decode prog_6_method_8_code 21 = .ok (.lneg, 1) := by decide +kernel
theorem dM_isShort_22 : decode prog_6_method_8_code 22 = .ok (.lcmp, 1) := by decide +kernel
theorem dM_isShort_23 : decode prog_6_method_8_code 23 = .ok (.ifCond .ge 7, 3) := by decide +kernel
theorem dM_isShort_26 : decode prog_6_method_8_code 26 = .ok (.iconst 1, 1) := by decide +kernel
theorem dM_isShort_27 : decode prog_6_method_8_code 27 = .ok (.goto 4, 3) := by decide +kernel
theorem dM_isShort_30 : decode prog_6_method_8_code 30 = .ok (.iconst 0, 1) := by decide +kernel
theorem dM_isShort_31 : decode prog_6_method_8_code 31 = .ok (.ireturn, 1) := by decide +kernel
def f_M_isShort (m : MS) (p : Int32) : Int32 := if m.2.1 < 0 then 0 else (if (f_M_position m p m.2.1) < (-(f_M_creditOf m p)) then 1 else 0)
theorem b_M_isShort (m : MS) (p : Int32) : f_M_isShort m p = 0 ∨ f_M_isShort m p = 1 := by
  unfold f_M_isShort
  repeat' (first | split | exact Or.inl rfl | exact Or.inr rfl)
set_option maxHeartbeats 4000000 in
set_option maxRecDepth 100000 in
theorem c_M_isShort (l : Launch) (D : va_G) (cI cL cQ : ClassId) (d : Nat → Nat) (κ : Nat → Option va_E) (m : MS) (hm : IsM cI cL d κ m) (hB : MB m) (sz : Nat) (p : Int32)  : Met l yM_isShort wM_isShort { frames := 2, cells := 0, slots := 0, locals := 56 } (va_Pc [.ref (d 0), .int (p)] (kC D vCl (kT cI cL cQ) d κ sz)) (vp_Si (fun r => r = f_M_isShort m p)) 0 0 (fun _ => False) := by
  refine kMet (by decide) (Nat.le_of_ble_eq_true rfl) ?_
  intro p0 e0 s0 m0 below0 meth0 c0 hx hb hr hml hown hlocks hin hts hsz hP hK ls hl
  have hl : lv_has ls 2 [(0, .ref (d 0)), (1, .int (p))] := hl
  have hB9 := hB
  obtain ⟨hb0, hb1, hb2, hb3, hb4, hb5, hb6, hb7, hb8, hb9, hb10⟩ := hB9
  refine lv_aload_n hx hb dM_isShort_0 rfl (lv_at hl 0 rfl) ?_
  refine ka_get (ci := 4) (C := RM) (T := TM) (N := 26) hx hb hts inM hown hK hP (q := 0) hm.1 rfl 3 (by decide) (hts _ tw_387) (fun _ h9 => h9) rfl dM_isShort_1 ?_
  refine lv_if_lt (tgt := 30) hx hb dM_isShort_4 (by decide) (fun c_4 => ?_) (fun c_4 => ?_)
  · refine lv_iconst (v := 0) hx hb dM_isShort_30 (by decide) ?_
    exact W.zret (v := 0) hx hb hr k_nar0 (fun t ht hW => ⟨_, rfl, by rw [f_M_isShort, if_pos c_4], ht⟩) (fun q h => by cases h) dM_isShort_31
  · refine lv_aload_n hx hb dM_isShort_7 rfl (lv_at hl 0 rfl) ?_
    refine lv_iload_n hx hb dM_isShort_8 rfl (lv_at hl 1 rfl) ?_
    refine lv_aload_n hx hb dM_isShort_9 rfl (lv_at hl 0 rfl) ?_
    refine ka_get (ci := 4) (C := RM) (T := TM) (N := 26) hx hb hts inM hown hK hP (q := 0) hm.1 rfl 3 (by decide) (hts _ tw_387) (fun _ h9 => h9) rfl dM_isShort_10 ?_
    refine vp_callSl (W.runV (C := RM) (As := [.int (p), .int (m.2.1)]) (rest := []) ⟨hx, hb, hml, hown, hts⟩ (c_M_position l D cI cL cQ d κ m hm hB _ p m.2.1) (cwV 2 hts (k_gV tw_503 tw_505 tw_27 tw_41 tw_506) rfl rfl rfl (by decide +kernel) ⟨Nat.le_of_ble_eq_true rfl, Nat.le_of_ble_eq_true rfl⟩) (kPreV hP hK (q := 0) hm.1 rfl) rfl rfl hl.1 rfl (lv_room (Nat.le_of_ble_eq_true rfl)) dM_isShort_13 ⟨Nat.le_of_ble_eq_true rfl, Nat.le_of_ble_eq_true rfl⟩) (fun r_13 e_13 => ?_)
    subst e_13
    refine lv_aload_n hx hb dM_isShort_16 rfl (lv_at hl 0 rfl) ?_
    refine lv_iload_n hx hb dM_isShort_17 rfl (lv_at hl 1 rfl) ?_
    refine vp_callSl (W.runV (C := RM) (As := [.int (p)]) (rest := [.long (f_M_position m p m.2.1)]) ⟨hx, hb, hml, hown, hts⟩ (c_M_creditOf l D cI cL cQ d κ m hm hB _ p) (cwV 1 hts (k_gV tw_507 tw_509 tw_28 tw_41 tw_510) rfl rfl rfl (by decide +kernel) ⟨Nat.le_of_ble_eq_true rfl, Nat.le_of_ble_eq_true rfl⟩) (kPreV hP hK (q := 0) hm.1 rfl) rfl rfl hl.1 rfl (lv_room (Nat.le_of_ble_eq_true rfl)) dM_isShort_18 ⟨Nat.le_of_ble_eq_true rfl, Nat.le_of_ble_eq_true rfl⟩) (fun r_18 e_18 => ?_)
    subst e_18
    refine lv_lneg hx hb dM_isShort_21 ?_
    refine kl_ge (tgt := 30) hx hb dM_isShort_22 dM_isShort_23 (by decide) (fun c_22 => ?_) (fun c_22 => ?_)
    · refine lv_iconst (v := 0) hx hb dM_isShort_30 (by decide) ?_
      exact W.zret (v := 0) hx hb hr k_nar0 (fun t ht hW => ⟨_, rfl, by rw [f_M_isShort, if_neg c_4, if_neg c_22], ht⟩) (fun q h => by cases h) dM_isShort_31
    · refine lv_iconst (v := 1) hx hb dM_isShort_26 (by decide) ?_
      refine lv_goto (tgt := 31) hx hb dM_isShort_27 (by decide) ?_
      exact W.zret (v := 1) hx hb hr k_nar1 (fun t ht hW => ⟨_, rfl, by rw [f_M_isShort, if_neg c_4, if_pos c_22], ht⟩) (fun q h => by cases h) dM_isShort_31

theorem dM_floorOf_0 : decode prog_6_method_9_code 0 = .ok (.iload_n 1, 1) := by decide +kernel
theorem dM_floorOf_1 : decode prog_6_method_9_code 1 = .ok (.ifCond .ne 9, 3) := by decide +kernel
theorem dM_floorOf_4 : decode prog_6_method_9_code 4 = .ok (.ldc2_w 105, 3) := by decide +kernel
theorem dM_floorOf_7 : decode prog_6_method_9_code 7 = .ok (.goto 40, 3) := by decide +kernel
theorem dM_floorOf_10 : decode prog_6_method_9_code 10 = .ok (.aload_n 0, 1) := by decide +kernel
theorem dM_floorOf_11 : decode prog_6_method_9_code 11 = .ok (.getfield 13, 3) := by decide +kernel
theorem dM_floorOf_14 : decode prog_6_method_9_code 14 = .ok (.iload_n 2, 1) := by decide +kernel
theorem dM_floorOf_15 : decode prog_6_method_9_code 15 = .ok (.iaload, 1) := by decide +kernel
theorem dM_floorOf_16 : decode prog_6_method_9_code 16 = .ok (.iconst 1, 1) := by decide +kernel
theorem dM_floorOf_17 : decode prog_6_method_9_code 17 = .ok (.if_icmp .ne 12, 3) := by decide +kernel
theorem dM_floorOf_20 : decode prog_6_method_9_code 20 = .ok (.aload_n 0, 1) := by decide +kernel
theorem dM_floorOf_21 : decode prog_6_method_9_code 21 = .ok (.iload_n 1, 1) := by decide +kernel
theorem dM_floorOf_22 : decode prog_6_method_9_code 22 = .ok (.iload_n 2, 1) := by decide +kernel
theorem dM_floorOf_23 : decode prog_6_method_9_code 23 = .ok (.invokevirtual 88, 3) := by decide +kernel
theorem dM_floorOf_26 : decode prog_6_method_9_code 26 = .ok (.goto 21, 3) := by decide +kernel
theorem dM_floorOf_29 : decode prog_6_method_9_code 29 = .ok (.iload_n 2, 1) := by decide +kernel
theorem dM_floorOf_30 : decode prog_6_method_9_code 30 = .ok (.aload_n 0, 1) := by decide +kernel
theorem dM_floorOf_31 : decode prog_6_method_9_code 31 = .ok (.getfield 7, 3) := by decide +kernel
theorem dM_floorOf_34 : decode prog_6_method_9_code 34 = .ok (.if_icmp .ne 12, 3) := by decide +kernel
theorem dM_floorOf_37 : decode prog_6_method_9_code 37 = .ok (.aload_n 0, 1) := by decide +kernel
theorem dM_floorOf_38 : decode prog_6_method_9_code 38 = .ok (.iload_n 1, 1) := by decide +kernel
theorem dM_floorOf_39 : decode prog_6_method_9_code 39 = .ok (.invokevirtual 96, 3) := by decide +kernel
theorem dM_floorOf_42 : decode prog_6_method_9_code 42 = .ok (.lneg, 1) := by decide +kernel
theorem dM_floorOf_43 : decode prog_6_method_9_code 43 = .ok (.goto 4, 3) := by decide +kernel
theorem dM_floorOf_46 : decode prog_6_method_9_code 46 = .ok (.lconst 0, 1) := by decide +kernel
theorem dM_floorOf_47 : decode prog_6_method_9_code 47 = .ok (.lreturn, 1) := by decide +kernel
def f_M_floorOf (m : MS) (p : Int32) (a : Int32) : Int64 := if p = 0 then (-9223372036854775808) else (if ((m.2.2.1 0) (a).toNatClampNeg) = 1 then (f_M_pledged m p a) else (if a = m.2.1 then (-(f_M_creditOf m p)) else 0))
set_option maxHeartbeats 4000000 in
set_option maxRecDepth 100000 in
theorem c_M_floorOf (l : Launch) (D : va_G) (cI cL cQ : ClassId) (d : Nat → Nat) (κ : Nat → Option va_E) (m : MS) (hm : IsM cI cL d κ m) (hB : MB m) (sz : Nat) (p : Int32) (a : Int32) (ha : vp_in a 64) : Met l yM_floorOf wM_floorOf { frames := 2, cells := 0, slots := 0, locals := 56 } (va_Pc [.ref (d 0), .int (p), .int (a)] (kC D vCl (kT cI cL cQ) d κ sz)) (vp_Sl (fun r => r = f_M_floorOf m p a)) 0 0 (fun _ => False) := by
  refine kMet (by decide) (Nat.le_of_ble_eq_true rfl) ?_
  intro p0 e0 s0 m0 below0 meth0 c0 hx hb hr hml hown hlocks hin hts hsz hP hK ls hl
  have hl : lv_has ls 3 [(0, .ref (d 0)), (1, .int (p)), (2, .int (a))] := hl
  have hB9 := hB
  obtain ⟨hb0, hb1, hb2, hb3, hb4, hb5, hb6, hb7, hb8, hb9, hb10⟩ := hB9
  refine lv_iload_n hx hb dM_floorOf_0 rfl (lv_at hl 1 rfl) ?_
  refine lv_if_ne (tgt := 10) hx hb dM_floorOf_1 (by decide) (fun c_1 => ?_) (fun c_1 => ?_)
  · refine lv_aload_n hx hb dM_floorOf_10 rfl (lv_at hl 0 rfl) ?_
    refine ka_get (ci := 4) (C := RM) (T := TM) (N := 26) hx hb hts inM hown hK hP (q := 0) hm.1 rfl 4 (by decide) (hts _ tw_388) (fun _ h9 => h9) rfl dM_floorOf_11 ?_
    refine lv_iload_n hx hb dM_floorOf_14 rfl (lv_at hl 2 rfl) ?_
    refine ka_iald hx hb hK hP 0 (q := 1) hm.2.1 rfl (by first | assumption | exact vp_in_nI (by omega) (by omega)) dM_floorOf_15 ?_
    refine lv_iconst (v := 1) hx hb dM_floorOf_16 (by decide) ?_
    refine lv_icmp_ne (tgt := 29) hx hb dM_floorOf_17 (by decide) (fun c_17 => ?_) (fun c_17 => ?_)
    · refine lv_iload_n hx hb dM_floorOf_29 rfl (lv_at hl 2 rfl) ?_
      refine lv_aload_n hx hb dM_floorOf_30 rfl (lv_at hl 0 rfl) ?_
      refine ka_get (ci := 4) (C := RM) (T := TM) (N := 26) hx hb hts inM hown hK hP (q := 0) hm.1 rfl 3 (by decide) (hts _ tw_387) (fun _ h9 => h9) rfl dM_floorOf_31 ?_
      refine lv_icmp_ne (tgt := 46) hx hb dM_floorOf_34 (by decide) (fun c_34 => ?_) (fun c_34 => ?_)
      · refine lv_lconst (v := 0) hx hb dM_floorOf_46 (by decide) ?_
        exact W.lret (v := 0) hx hb hr (fun t ht hW => ⟨_, rfl, by rw [f_M_floorOf, if_neg c_1, if_neg c_17, if_neg c_34], ht⟩) (fun q h => by cases h) dM_floorOf_47
      · refine lv_aload_n hx hb dM_floorOf_37 rfl (lv_at hl 0 rfl) ?_
        refine lv_iload_n hx hb dM_floorOf_38 rfl (lv_at hl 1 rfl) ?_
        refine vp_callSl (W.runV (C := RM) (As := [.int (p)]) (rest := []) ⟨hx, hb, hml, hown, hts⟩ (c_M_creditOf l D cI cL cQ d κ m hm hB _ p) (cwV 1 hts (k_gV tw_507 tw_509 tw_28 tw_41 tw_510) rfl rfl rfl (by decide +kernel) ⟨Nat.le_of_ble_eq_true rfl, Nat.le_of_ble_eq_true rfl⟩) (kPreV hP hK (q := 0) hm.1 rfl) rfl rfl hl.1 rfl (lv_room (Nat.le_of_ble_eq_true rfl)) dM_floorOf_39 ⟨Nat.le_of_ble_eq_true rfl, Nat.le_of_ble_eq_true rfl⟩) (fun r_39 e_39 => ?_)
        subst e_39
        refine lv_lneg hx hb dM_floorOf_42 ?_
        refine lv_goto (tgt := 47) hx hb dM_floorOf_43 (by decide) ?_
        exact W.lret (v := -(f_M_creditOf m p)) hx hb hr (fun t ht hW => ⟨_, rfl, by rw [f_M_floorOf, if_neg c_1, if_neg c_17, if_pos c_34], ht⟩) (fun q h => by cases h) dM_floorOf_47
    · refine lv_aload_n hx hb dM_floorOf_20 rfl (lv_at hl 0 rfl) ?_
      refine lv_iload_n hx hb dM_floorOf_21 rfl (lv_at hl 1 rfl) ?_
      refine lv_iload_n hx hb dM_floorOf_22 rfl (lv_at hl 2 rfl) ?_
      refine vp_callSl (W.runV (C := RM) (As := [.int (p), .int (a)]) (rest := []) ⟨hx, hb, hml, hown, hts⟩ (c_M_pledged l D cI cL cQ d κ m hm hB _ p a) (cwV 2 hts (k_gV tw_511 tw_513 tw_29 tw_41 tw_514) rfl rfl rfl (by decide +kernel) ⟨Nat.le_of_ble_eq_true rfl, Nat.le_of_ble_eq_true rfl⟩) (kPreV hP hK (q := 0) hm.1 rfl) rfl rfl hl.1 rfl (lv_room (Nat.le_of_ble_eq_true rfl)) dM_floorOf_23 ⟨Nat.le_of_ble_eq_true rfl, Nat.le_of_ble_eq_true rfl⟩) (fun r_23 e_23 => ?_)
      subst e_23
      refine lv_goto (tgt := 47) hx hb dM_floorOf_26 (by decide) ?_
      exact W.lret (v := f_M_pledged m p a) hx hb hr (fun t ht hW => ⟨_, rfl, by rw [f_M_floorOf, if_neg c_1, if_pos c_17], ht⟩) (fun q h => by cases h) dM_floorOf_47
  · refine lv_ldc2 (v := -9223372036854775808) hx hb hown (hts _ tw_549) dM_floorOf_4 ?_
    refine lv_goto (tgt := 47) hx hb dM_floorOf_7 (by decide) ?_
    exact W.lret (v := -9223372036854775808) hx hb hr (fun t ht hW => ⟨_, rfl, by rw [f_M_floorOf, if_pos c_1], ht⟩) (fun q h => by cases h) dM_floorOf_47

theorem dM_isRoom_0 : decode prog_6_method_15_code 0 = .ok (.iload_n 1, 1) := by decide +kernel
theorem dM_isRoom_1 : decode prog_6_method_15_code 1 = .ok (.aload_n 0, 1) := by decide +kernel
theorem dM_isRoom_2 : decode prog_6_method_15_code 2 = .ok (.getfield 66, 3) := by decide +kernel
theorem dM_isRoom_5 : decode prog_6_method_15_code 5 = .ok (.aload_n 0, 1) := by decide +kernel
theorem dM_isRoom_6 : decode prog_6_method_15_code 6 = .ok (.getfield 69, 3) := by decide +kernel
theorem dM_isRoom_9 : decode prog_6_method_15_code 9 = .ok (.imul, 1) := by decide +kernel
theorem dM_isRoom_10 : decode prog_6_method_15_code 10 = .ok (.if_icmp .lt 57, 3) := by decide +kernel
theorem dM_isRoom_13 : decode prog_6_method_15_code 13 = .ok (.iload_n 1, 1) := by decide +kernel
theorem dM_isRoom_14 : decode prog_6_method_15_code 14 = .ok (.aload_n 0, 1) := by decide +kernel
theorem dM_isRoom_15 : decode prog_6_method_15_code 15 = .ok (.getfield 66, 3) := by decide +kernel
theorem dM_isRoom_18 : decode prog_6_method_15_code 18 = .ok (.aload_n 0, 1) := by decide +kernel
theorem dM_isRoom_19 : decode prog_6_method_15_code 19 = .ok (.getfield 69, 3) := by decide +kernel
theorem dM_isRoom_22 : decode prog_6_method_15_code 22 = .ok (.imul, 1) := by decide +kernel
theorem dM_isRoom_23 : decode prog_6_method_15_code 23 = .ok (.aload_n 0, 1) := by decide +kernel
theorem dM_isRoom_24 : decode prog_6_method_15_code 24 = .ok (.getfield 66, 3) := by decide +kernel
theorem dM_isRoom_27 : decode prog_6_method_15_code 27 = .ok (.aload_n 0, 1) := by decide +kernel
theorem dM_isRoom_28 : decode prog_6_method_15_code 28 = .ok (.getfield 66, 3) := by decide +kernel
theorem dM_isRoom_31 : decode prog_6_method_15_code 31 = .ok (.imul, 1) := by decide +kernel
theorem dM_isRoom_32 : decode prog_6_method_15_code 32 = .ok (.iadd, 1) := by decide +kernel
theorem dM_isRoom_33 : decode prog_6_method_15_code 33 = .ok (.if_icmp .ge 34, 3) := by decide +kernel
theorem dM_isRoom_36 : decode prog_6_method_15_code 36 = .ok (.aload_n 0, 1) := by decide +kernel
theorem dM_isRoom_37 : decode prog_6_method_15_code 37 = .ok (.aload_n 0, 1) := by decide +kernel
theorem dM_isRoom_38 : decode prog_6_method_15_code 38 = .ok (.iload_n 1, 1) := by decide +kernel
theorem dM_isRoom_39 : decode prog_6_method_15_code 39 = .ok (.invokevirtual 112, 3) := by decide +kernel
theorem dM_isRoom_42 : decode prog_6_method_15_code 42 = .ok (.aload_n 0, 1) := by decide +kernel
theorem dM_isRoom_43 : decode prog_6_method_15_code 43 = .ok (.getfield 66, 3) := by decide +kernel
theorem dM_isRoom_46 : decode prog_6_method_15_code 46 = .ok (.idiv, 1) := by decide +kernel
theorem dM_isRoom_47 : decode prog_6_method_15_code 47 = .ok (.aload_n 0, 1) := by decide +kernel
theorem dM_isRoom_48 : decode prog_6_method_15_code 48 = .ok (.iload_n 1, 1) := by decide +kernel
theorem dM_isRoom_49 : decode prog_6_method_15_code 49 = .ok (.invokevirtual 112, 3) := by decide +kernel
theorem dM_isRoom_52 : decode prog_6_method_15_code 52 = .ok (.aload_n 0, 1) := by decide +kernel
theorem dM_isRoom_53 : decode prog_6_method_15_code 53 = .ok (.getfield 66, 3) := by decide +kernel
theorem dM_isRoom_56 : decode prog_6_method_15_code 56 = .ok (.irem, 1) := by decide +kernel
theorem dM_isRoom_57 : decode prog_6_method_15_code 57 = .ok (.invokevirtual 116, 3) := by decide +kernel
theorem dM_isRoom_60 : decode prog_6_method_15_code 60 = .ok (.ifCond .lt 7, 3) := by decide +kernel
theorem dM_isRoom_63 : decode prog_6_method_15_code 63 = .ok (.iconst 1, 1) := by decide +kernel
theorem dM_isRoom_64 : decode prog_6_method_15_code 64 = .ok (.goto 4, 3) := by decide +kernel
theorem dM_isRoom_67 : decode prog_6_method_15_code 67 = .ok (.iconst 0, 1) := by decide +kernel
theorem dM_isRoom_68 : decode prog_6_method_15_code 68 = .ok (.ireturn, 1) := by decide +kernel
def f_M_isRoom (m : MS) (id : Int32) : Int32 := if id < ((nI (m.1 0)) * (nI (m.1 1))) then 0 else (if (((nI (m.1 0)) * (nI (m.1 1))) + ((nI (m.1 0)) * (nI (m.1 0)))) ≤ id then 0 else (if (f_M_limitAt m ((f_M_pair m id) / (nI (m.1 0))) ((f_M_pair m id) - (f_M_pair m id) / (nI (m.1 0)) * (nI (m.1 0)))) < 0 then 0 else 1))
theorem b_M_isRoom (m : MS) (id : Int32) : f_M_isRoom m id = 0 ∨ f_M_isRoom m id = 1 := by
  unfold f_M_isRoom
  repeat' (first | split | exact Or.inl rfl | exact Or.inr rfl)
set_option maxHeartbeats 4000000 in
set_option maxRecDepth 100000 in
theorem c_M_isRoom (l : Launch) (D : va_G) (cI cL cQ : ClassId) (d : Nat → Nat) (κ : Nat → Option va_E) (m : MS) (hm : IsM cI cL d κ m) (hB : MB m) (sz : Nat) (id : Int32)  : Met l yM_isRoom wM_isRoom { frames := 1, cells := 0, slots := 0, locals := 24 } (va_Pc [.ref (d 0), .int (id)] (kC D vCl (kT cI cL cQ) d κ sz)) (vp_Si (fun r => r = f_M_isRoom m id)) 0 0 (fun _ => False) := by
  refine kMet (by decide) (Nat.le_of_ble_eq_true rfl) ?_
  intro p0 e0 s0 m0 below0 meth0 c0 hx hb hr hml hown hlocks hin hts hsz hP hK ls hl
  have hl : lv_has ls 2 [(0, .ref (d 0)), (1, .int (id))] := hl
  have hB9 := hB
  obtain ⟨hb0, hb1, hb2, hb3, hb4, hb5, hb6, hb7, hb8, hb9, hb10⟩ := hB9
  refine lv_iload_n hx hb dM_isRoom_0 rfl (lv_at hl 1 rfl) ?_
  refine lv_aload_n hx hb dM_isRoom_1 rfl (lv_at hl 0 rfl) ?_
  refine ka_get (ci := 4) (C := RM) (T := TM) (N := 26) hx hb hts inM hown hK hP (q := 0) hm.1 rfl 0 (by decide) (hts _ tw_384) (fun _ h9 => h9) rfl dM_isRoom_2 ?_
  refine lv_aload_n hx hb dM_isRoom_5 rfl (lv_at hl 0 rfl) ?_
  refine ka_get (ci := 4) (C := RM) (T := TM) (N := 26) hx hb hts inM hown hK hP (q := 0) hm.1 rfl 1 (by decide) (hts _ tw_385) (fun _ h9 => h9) rfl dM_isRoom_6 ?_
  refine lv_imul hx hb dM_isRoom_9 ?_
  refine lv_icmp_lt (tgt := 67) hx hb dM_isRoom_10 (by decide) (fun c_10 => ?_) (fun c_10 => ?_)
  · refine lv_iconst (v := 0) hx hb dM_isRoom_67 (by decide) ?_
    exact W.zret (v := 0) hx hb hr k_nar0 (fun t ht hW => ⟨_, rfl, by rw [f_M_isRoom, if_pos c_10], ht⟩) (fun q h => by cases h) dM_isRoom_68
  · refine lv_iload_n hx hb dM_isRoom_13 rfl (lv_at hl 1 rfl) ?_
    refine lv_aload_n hx hb dM_isRoom_14 rfl (lv_at hl 0 rfl) ?_
    refine ka_get (ci := 4) (C := RM) (T := TM) (N := 26) hx hb hts inM hown hK hP (q := 0) hm.1 rfl 0 (by decide) (hts _ tw_384) (fun _ h9 => h9) rfl dM_isRoom_15 ?_
    refine lv_aload_n hx hb dM_isRoom_18 rfl (lv_at hl 0 rfl) ?_
    refine ka_get (ci := 4) (C := RM) (T := TM) (N := 26) hx hb hts inM hown hK hP (q := 0) hm.1 rfl 1 (by decide) (hts _ tw_385) (fun _ h9 => h9) rfl dM_isRoom_19 ?_
    refine lv_imul hx hb dM_isRoom_22 ?_
    refine lv_aload_n hx hb dM_isRoom_23 rfl (lv_at hl 0 rfl) ?_
    refine ka_get (ci := 4) (C := RM) (T := TM) (N := 26) hx hb hts inM hown hK hP (q := 0) hm.1 rfl 0 (by decide) (hts _ tw_384) (fun _ h9 => h9) rfl dM_isRoom_24 ?_
    refine lv_aload_n hx hb dM_isRoom_27 rfl (lv_at hl 0 rfl) ?_
    refine ka_get (ci := 4) (C := RM) (T := TM) (N := 26) hx hb hts inM hown hK hP (q := 0) hm.1 rfl 0 (by decide) (hts _ tw_384) (fun _ h9 => h9) rfl dM_isRoom_28 ?_
    refine lv_imul hx hb dM_isRoom_31 ?_
    refine lv_iadd hx hb dM_isRoom_32 ?_
    refine lv_icmp_ge (tgt := 67) hx hb dM_isRoom_33 (by decide) (fun c_33 => ?_) (fun c_33 => ?_)
    · refine lv_iconst (v := 0) hx hb dM_isRoom_67 (by decide) ?_
      exact W.zret (v := 0) hx hb hr k_nar0 (fun t ht hW => ⟨_, rfl, by rw [f_M_isRoom, if_neg c_10, if_pos c_33], ht⟩) (fun q h => by cases h) dM_isRoom_68
    · refine lv_aload_n hx hb dM_isRoom_36 rfl (lv_at hl 0 rfl) ?_
      refine lv_aload_n hx hb dM_isRoom_37 rfl (lv_at hl 0 rfl) ?_
      refine lv_iload_n hx hb dM_isRoom_38 rfl (lv_at hl 1 rfl) ?_
      refine vp_callSi (W.runV (C := RM) (As := [.int (id)]) (rest := [.ref (d 0)]) ⟨hx, hb, hml, hown, hts⟩ (c_M_pair l D cI cL cQ d κ m hm hB _ id) (cwV 1 hts (k_gV tw_471 tw_473 tw_23 tw_41 tw_474) rfl rfl rfl (by decide +kernel) ⟨Nat.le_of_ble_eq_true rfl, Nat.le_of_ble_eq_true rfl⟩) (kPreV hP hK (q := 0) hm.1 rfl) rfl rfl hl.1 rfl (lv_room (Nat.le_of_ble_eq_true rfl)) dM_isRoom_39 ⟨Nat.le_of_ble_eq_true rfl, Nat.le_of_ble_eq_true rfl⟩) (fun r_39 e_39 => ?_)
      subst e_39
      refine lv_aload_n hx hb dM_isRoom_42 rfl (lv_at hl 0 rfl) ?_
      refine ka_get (ci := 4) (C := RM) (T := TM) (N := 26) hx hb hts inM hown hK hP (q := 0) hm.1 rfl 0 (by decide) (hts _ tw_384) (fun _ h9 => h9) rfl dM_isRoom_43 ?_
      refine lv_idiv hx hb dM_isRoom_46 (nI_ne0 (by omega) (by omega)) ?_
      refine lv_aload_n hx hb dM_isRoom_47 rfl (lv_at hl 0 rfl) ?_
      refine lv_iload_n hx hb dM_isRoom_48 rfl (lv_at hl 1 rfl) ?_
      refine vp_callSi (W.runV (C := RM) (As := [.int (id)]) (rest := [.int ((f_M_pair m id) / (nI (m.1 0))), .ref (d 0)]) ⟨hx, hb, hml, hown, hts⟩ (c_M_pair l D cI cL cQ d κ m hm hB _ id) (cwV 1 hts (k_gV tw_471 tw_473 tw_23 tw_41 tw_474) rfl rfl rfl (by decide +kernel) ⟨Nat.le_of_ble_eq_true rfl, Nat.le_of_ble_eq_true rfl⟩) (kPreV hP hK (q := 0) hm.1 rfl) rfl rfl hl.1 rfl (lv_room (Nat.le_of_ble_eq_true rfl)) dM_isRoom_49 ⟨Nat.le_of_ble_eq_true rfl, Nat.le_of_ble_eq_true rfl⟩) (fun r_49 e_49 => ?_)
      subst e_49
      refine lv_aload_n hx hb dM_isRoom_52 rfl (lv_at hl 0 rfl) ?_
      refine ka_get (ci := 4) (C := RM) (T := TM) (N := 26) hx hb hts inM hown hK hP (q := 0) hm.1 rfl 0 (by decide) (hts _ tw_384) (fun _ h9 => h9) rfl dM_isRoom_53 ?_
      refine lv_irem hx hb dM_isRoom_56 (nI_ne0 (by omega) (by omega)) ?_
      refine vp_callSi (W.runV (C := RM) (As := [.int ((f_M_pair m id) / (nI (m.1 0))), .int ((f_M_pair m id) - (f_M_pair m id) / (nI (m.1 0)) * (nI (m.1 0)))]) (rest := []) ⟨hx, hb, hml, hown, hts⟩ (c_M_limitAt l D cI cL cQ d κ m hm hB _ ((f_M_pair m id) / (nI (m.1 0))) ((f_M_pair m id) - (f_M_pair m id) / (nI (m.1 0)) * (nI (m.1 0)))) (cwV 2 hts (k_gV tw_475 tw_477 tw_24 tw_41 tw_478) rfl rfl rfl (by decide +kernel) ⟨Nat.le_of_ble_eq_true rfl, Nat.le_of_ble_eq_true rfl⟩) (kPreV hP hK (q := 0) hm.1 rfl) rfl rfl hl.1 rfl (lv_room (Nat.le_of_ble_eq_true rfl)) dM_isRoom_57 ⟨Nat.le_of_ble_eq_true rfl, Nat.le_of_ble_eq_true rfl⟩) (fun r_57 e_57 => ?_)
      subst e_57
      refine lv_if_lt (tgt := 67) hx hb dM_isRoom_60 (by decide) (fun c_60 => ?_) (fun c_60 => ?_)
      · refine lv_iconst (v := 0) hx hb dM_isRoom_67 (by decide) ?_
        exact W.zret (v := 0) hx hb hr k_nar0 (fun t ht hW => ⟨_, rfl, by rw [f_M_isRoom, if_neg c_10, if_neg c_33, if_pos c_60], ht⟩) (fun q h => by cases h) dM_isRoom_68
      · refine lv_iconst (v := 1) hx hb dM_isRoom_63 (by decide) ?_
        refine lv_goto (tgt := 68) hx hb dM_isRoom_64 (by decide) ?_
        exact W.zret (v := 1) hx hb hr k_nar1 (fun t ht hW => ⟨_, rfl, by rw [f_M_isRoom, if_neg c_10, if_neg c_33, if_neg c_60], ht⟩) (fun q h => by cases h) dM_isRoom_68

theorem dM_isThere_0 : decode prog_6_method_16_code 0 = .ok (.aload_n 0, 1) := by decide +kernel
theorem dM_isThere_1 : decode prog_6_method_16_code 1 = .ok (.iload_n 1, 1) := by decide +kernel
theorem dM_isThere_2 : decode prog_6_method_16_code 2 = .ok (.invokevirtual 120, 3) := by decide +kernel
theorem dM_isThere_5 : decode prog_6_method_16_code 5 = .ok (.ifCond .ne 33, 3) := by decide +kernel
theorem dM_isThere_8 : decode prog_6_method_16_code 8 = .ok (.iload_n 1, 1) := by decide +kernel
theorem dM_isThere_9 : decode prog_6_method_16_code 9 = .ok (.ifCond .lt 33, 3) := by decide +kernel
theorem dM_isThere_12 : decode prog_6_method_16_code 12 = .ok (.iload_n 1, 1) := by decide +kernel
theorem dM_isThere_13 : decode prog_6_method_16_code 13 = .ok (.aload_n 0, 1) := by decide +kernel
theorem dM_isThere_14 : decode prog_6_method_16_code 14 = .ok (.getfield 66, 3) := by decide +kernel
theorem dM_isThere_17 : decode prog_6_method_16_code 17 = .ok (.aload_n 0, 1) := by decide +kernel
theorem dM_isThere_18 : decode prog_6_method_16_code 18 = .ok (.getfield 69, 3) := by decide +kernel
theorem dM_isThere_21 : decode prog_6_method_16_code 21 = .ok (.imul, 1) := by decide +kernel
theorem dM_isThere_22 : decode prog_6_method_16_code 22 = .ok (.if_icmp .ge 20, 3) := by decide +kernel
theorem dM_isThere_25 : decode prog_6_method_16_code 25 = .ok (.iload_n 1, 1) := by decide +kernel
theorem dM_isThere_26 : decode prog_6_method_16_code 26 = .ok (.aload_n 0, 1) := by decide +kernel
theorem dM_isThere_27 : decode prog_6_method_16_code 27 = .ok (.getfield 69, 3) := by decide +kernel
theorem dM_isThere_30 : decode prog_6_method_16_code 30 = .ok (.irem, 1) := by decide +kernel
theorem dM_isThere_31 : decode prog_6_method_16_code 31 = .ok (.aload_n 0, 1) := by decide +kernel
theorem dM_isThere_32 : decode prog_6_method_16_code 32 = .ok (.getfield 85, 3) := by decide +kernel
theorem dM_isThere_35 : decode prog_6_method_16_code 35 = .ok (.if_icmp .ge 7, 3) := by decide +kernel
theorem dM_isThere_38 : decode prog_6_method_16_code 38 = .ok (.iconst 1, 1) := by decide +kernel
theorem dM_isThere_39 : decode prog_6_method_16_code 39 = .ok (.goto 4, 3) := by decide +kernel
theorem dM_isThere_42 : decode prog_6_method_16_code 42 = .ok (.iconst 0, 1) := by decide +kernel
theorem dM_isThere_43 : decode prog_6_method_16_code 43 = .ok (.ireturn, 1) := by decide +kernel
def f_M_isThere (m : MS) (id : Int32) : Int32 := if (f_M_isRoom m id) = 0 then (if id < 0 then 0 else (if ((nI (m.1 0)) * (nI (m.1 1))) ≤ id then 0 else (if (nI (m.1 2)) ≤ (id - id / (nI (m.1 1)) * (nI (m.1 1))) then 0 else 1))) else 1
theorem b_M_isThere (m : MS) (id : Int32) : f_M_isThere m id = 0 ∨ f_M_isThere m id = 1 := by
  unfold f_M_isThere
  repeat' (first | split | exact Or.inl rfl | exact Or.inr rfl)
set_option maxHeartbeats 4000000 in
set_option maxRecDepth 100000 in
theorem c_M_isThere (l : Launch) (D : va_G) (cI cL cQ : ClassId) (d : Nat → Nat) (κ : Nat → Option va_E) (m : MS) (hm : IsM cI cL d κ m) (hB : MB m) (sz : Nat) (id : Int32)  : Met l yM_isThere wM_isThere { frames := 2, cells := 0, slots := 0, locals := 45 } (va_Pc [.ref (d 0), .int (id)] (kC D vCl (kT cI cL cQ) d κ sz)) (vp_Si (fun r => r = f_M_isThere m id)) 0 0 (fun _ => False) := by
  refine kMet (by decide) (Nat.le_of_ble_eq_true rfl) ?_
  intro p0 e0 s0 m0 below0 meth0 c0 hx hb hr hml hown hlocks hin hts hsz hP hK ls hl
  have hl : lv_has ls 2 [(0, .ref (d 0)), (1, .int (id))] := hl
  have hB9 := hB
  obtain ⟨hb0, hb1, hb2, hb3, hb4, hb5, hb6, hb7, hb8, hb9, hb10⟩ := hB9
  refine lv_aload_n hx hb dM_isThere_0 rfl (lv_at hl 0 rfl) ?_
  refine lv_iload_n hx hb dM_isThere_1 rfl (lv_at hl 1 rfl) ?_
  refine vp_callSi (W.runV (C := RM) (As := [.int (id)]) (rest := []) ⟨hx, hb, hml, hown, hts⟩ (c_M_isRoom l D cI cL cQ d κ m hm hB _ id) (cwV 1 hts (k_gV tw_467 tw_469 tw_22 tw_41 tw_470) rfl rfl rfl (by decide +kernel) ⟨Nat.le_of_ble_eq_true rfl, Nat.le_of_ble_eq_true rfl⟩) (kPreV hP hK (q := 0) hm.1 rfl) rfl rfl hl.1 rfl (lv_room (Nat.le_of_ble_eq_true rfl)) dM_isThere_2 ⟨Nat.le_of_ble_eq_true rfl, Nat.le_of_ble_eq_true rfl⟩) (fun r_2 e_2 => ?_)
  subst e_2
  refine lv_if_ne (tgt := 38) hx hb dM_isThere_5 (by decide) (fun c_5 => ?_) (fun c_5 => ?_)
  · refine lv_iconst (v := 1) hx hb dM_isThere_38 (by decide) ?_
    refine lv_goto (tgt := 43) hx hb dM_isThere_39 (by decide) ?_
    exact W.zret (v := 1) hx hb hr k_nar1 (fun t ht hW => ⟨_, rfl, by rw [f_M_isThere, if_neg c_5], ht⟩) (fun q h => by cases h) dM_isThere_43
  · refine lv_iload_n hx hb dM_isThere_8 rfl (lv_at hl 1 rfl) ?_
    refine lv_if_lt (tgt := 42) hx hb dM_isThere_9 (by decide) (fun c_9 => ?_) (fun c_9 => ?_)
    · refine lv_iconst (v := 0) hx hb dM_isThere_42 (by decide) ?_
      exact W.zret (v := 0) hx hb hr k_nar0 (fun t ht hW => ⟨_, rfl, by rw [f_M_isThere, if_pos c_5, if_pos c_9], ht⟩) (fun q h => by cases h) dM_isThere_43
    · refine lv_iload_n hx hb dM_isThere_12 rfl (lv_at hl 1 rfl) ?_
      refine lv_aload_n hx hb dM_isThere_13 rfl (lv_at hl 0 rfl) ?_
      refine ka_get (ci := 4) (C := RM) (T := TM) (N := 26) hx hb hts inM hown hK hP (q := 0) hm.1 rfl 0 (by decide) (hts _ tw_384) (fun _ h9 => h9) rfl dM_isThere_14 ?_
      refine lv_aload_n hx hb dM_isThere_17 rfl (lv_at hl 0 rfl) ?_
      refine ka_get (ci := 4) (C := RM) (T := TM) (N := 26) hx hb hts inM hown hK hP (q := 0) hm.1 rfl 1 (by decide) (hts _ tw_385) (fun _ h9 => h9) rfl dM_isThere_18 ?_
      refine lv_imul hx hb dM_isThere_21 ?_
      refine lv_icmp_ge (tgt := 42) hx hb dM_isThere_22 (by decide) (fun c_22 => ?_) (fun c_22 => ?_)
      · refine lv_iconst (v := 0) hx hb dM_isThere_42 (by decide) ?_
        exact W.zret (v := 0) hx hb hr k_nar0 (fun t ht hW => ⟨_, rfl, by rw [f_M_isThere, if_pos c_5, if_neg c_9, if_pos c_22], ht⟩) (fun q h => by cases h) dM_isThere_43
      · refine lv_iload_n hx hb dM_isThere_25 rfl (lv_at hl 1 rfl) ?_
        refine lv_aload_n hx hb dM_isThere_26 rfl (lv_at hl 0 rfl) ?_
        refine ka_get (ci := 4) (C := RM) (T := TM) (N := 26) hx hb hts inM hown hK hP (q := 0) hm.1 rfl 1 (by decide) (hts _ tw_385) (fun _ h9 => h9) rfl dM_isThere_27 ?_
        refine lv_irem hx hb dM_isThere_30 (nI_ne0 (by omega) (by omega)) ?_
        refine lv_aload_n hx hb dM_isThere_31 rfl (lv_at hl 0 rfl) ?_
        refine ka_get (ci := 4) (C := RM) (T := TM) (N := 26) hx hb hts inM hown hK hP (q := 0) hm.1 rfl 2 (by decide) (hts _ tw_386) (fun _ h9 => h9) rfl dM_isThere_32 ?_
        refine lv_icmp_ge (tgt := 42) hx hb dM_isThere_35 (by decide) (fun c_35 => ?_) (fun c_35 => ?_)
        · refine lv_iconst (v := 0) hx hb dM_isThere_42 (by decide) ?_
          exact W.zret (v := 0) hx hb hr k_nar0 (fun t ht hW => ⟨_, rfl, by rw [f_M_isThere, if_pos c_5, if_neg c_9, if_neg c_22, if_pos c_35], ht⟩) (fun q h => by cases h) dM_isThere_43
        · refine lv_iconst (v := 1) hx hb dM_isThere_38 (by decide) ?_
          refine lv_goto (tgt := 43) hx hb dM_isThere_39 (by decide) ?_
          exact W.zret (v := 1) hx hb hr k_nar1 (fun t ht hW => ⟨_, rfl, by rw [f_M_isThere, if_pos c_5, if_neg c_9, if_neg c_22, if_neg c_35], ht⟩) (fun q h => by cases h) dM_isThere_43

theorem dM_credit_0 : decode prog_6_method_38_code 0 = .ok (.aload_n 0, 1) := by decide +kernel
theorem dM_credit_1 : decode prog_6_method_38_code 1 = .ok (.iload_n 1, 1) := by decide +kernel
theorem dM_credit_2 : decode prog_6_method_38_code 2 = .ok (.invokevirtual 138, 3) := by decide +kernel
theorem dM_credit_5 : decode prog_6_method_38_code 5 = .ok (.ifCond .eq 11, 3) := by decide +kernel
theorem dM_credit_8 : decode prog_6_method_38_code 8 = .ok (.aload_n 0, 1) := by decide +kernel
theorem dM_credit_9 : decode prog_6_method_38_code 9 = .ok (.iload_n 1, 1) := by decide +kernel
theorem dM_credit_10 : decode prog_6_method_38_code 10 = .ok (.invokevirtual 96, 3) := by decide +kernel
theorem dM_credit_13 : decode prog_6_method_38_code 13 = .ok (.goto 4, 3) := by decide +kernel
theorem dM_credit_16 : decode prog_6_method_38_code 16 = .ok (.lconst 0, 1) := by decide +kernel
theorem dM_credit_17 : decode prog_6_method_38_code 17 = .ok (.lreturn, 1) := by decide +kernel
def f_M_credit (m : MS) (p : Int32) : Int64 := if (f_M_isParticipant m p) = 0 then 0 else (f_M_creditOf m p)
set_option maxHeartbeats 4000000 in
set_option maxRecDepth 100000 in
theorem c_M_credit (l : Launch) (D : va_G) (cI cL cQ : ClassId) (d : Nat → Nat) (κ : Nat → Option va_E) (m : MS) (hm : IsM cI cL d κ m) (hB : MB m) (sz : Nat) (p : Int32)  : Met l yM_credit wM_credit { frames := 2, cells := 0, slots := 0, locals := 56 } (va_Pc [.ref (d 0), .int (p)] (kC D vCl (kT cI cL cQ) d κ sz)) (vp_Sl (fun r => r = f_M_credit m p)) 0 0 (fun _ => False) := by
  refine kMet (by decide) (Nat.le_of_ble_eq_true rfl) ?_
  intro p0 e0 s0 m0 below0 meth0 c0 hx hb hr hml hown hlocks hin hts hsz hP hK ls hl
  have hl : lv_has ls 2 [(0, .ref (d 0)), (1, .int (p))] := hl
  have hB9 := hB
  obtain ⟨hb0, hb1, hb2, hb3, hb4, hb5, hb6, hb7, hb8, hb9, hb10⟩ := hB9
  refine lv_aload_n hx hb dM_credit_0 rfl (lv_at hl 0 rfl) ?_
  refine lv_iload_n hx hb dM_credit_1 rfl (lv_at hl 1 rfl) ?_
  refine vp_callSi (W.runV (C := RM) (As := [.int (p)]) (rest := []) ⟨hx, hb, hml, hown, hts⟩ (c_M_isParticipant l D cI cL cQ d κ m hm hB _ p) (cwV 1 hts (k_gV tw_529 tw_531 tw_31 tw_41 tw_532) rfl rfl rfl (by decide +kernel) ⟨Nat.le_of_ble_eq_true rfl, Nat.le_of_ble_eq_true rfl⟩) (kPreV hP hK (q := 0) hm.1 rfl) rfl rfl hl.1 rfl (lv_room (Nat.le_of_ble_eq_true rfl)) dM_credit_2 ⟨Nat.le_of_ble_eq_true rfl, Nat.le_of_ble_eq_true rfl⟩) (fun r_2 e_2 => ?_)
  subst e_2
  refine lv_if_eq (tgt := 16) hx hb dM_credit_5 (by decide) (fun c_5 => ?_) (fun c_5 => ?_)
  · refine lv_lconst (v := 0) hx hb dM_credit_16 (by decide) ?_
    exact W.lret (v := 0) hx hb hr (fun t ht hW => ⟨_, rfl, by rw [f_M_credit, if_pos c_5], ht⟩) (fun q h => by cases h) dM_credit_17
  · refine lv_aload_n hx hb dM_credit_8 rfl (lv_at hl 0 rfl) ?_
    refine lv_iload_n hx hb dM_credit_9 rfl (lv_at hl 1 rfl) ?_
    refine vp_callSl (W.runV (C := RM) (As := [.int (p)]) (rest := []) ⟨hx, hb, hml, hown, hts⟩ (c_M_creditOf l D cI cL cQ d κ m hm hB _ p) (cwV 1 hts (k_gV tw_507 tw_509 tw_28 tw_41 tw_510) rfl rfl rfl (by decide +kernel) ⟨Nat.le_of_ble_eq_true rfl, Nat.le_of_ble_eq_true rfl⟩) (kPreV hP hK (q := 0) hm.1 rfl) rfl rfl hl.1 rfl (lv_room (Nat.le_of_ble_eq_true rfl)) dM_credit_10 ⟨Nat.le_of_ble_eq_true rfl, Nat.le_of_ble_eq_true rfl⟩) (fun r_10 e_10 => ?_)
    subst e_10
    refine lv_goto (tgt := 17) hx hb dM_credit_13 (by decide) ?_
    exact W.lret (v := f_M_creditOf m p) hx hb hr (fun t ht hW => ⟨_, rfl, by rw [f_M_credit, if_neg c_5], ht⟩) (fun q h => by cases h) dM_credit_17
end
section
/-! what the reference's readers answer, where others need it -/
theorem limitAt_l_in {m : MS} {p q : Int32} (hB : MB m) : ∀ (n k : Nat) (a : Int32), (a = -1 ∨ ∃ j, j < m.1 6 ∧ a = nI j) → k ≤ m.1 6 → m.1 6 < k + n → (f_M_limitAt_l m p q n k a = -1 ∨ ∃ j, j < m.1 6 ∧ f_M_limitAt_l m p q n k a = nI j) := by
  have hb8 : m.1 6 ≤ 40 := hB.2.2.2.2.2.2.2.2.1
  intro n
  induction n with
  | zero => intro k a _ h1 h2; omega
  | succ n ih =>
    intro k a ha h1 h2
    rw [f_M_limitAt_l_s]
    by_cases c : nI (m.1 6) ≤ nI k
    · rw [if_pos c]; exact ha
    · have hlt : k < m.1 6 := Nat.lt_of_not_le (fun q => c (nI_le q (by omega)))
      rw [if_neg c]
      split
      · split
        · exact ih (k + 1) (nI k) (Or.inr ⟨k, hlt, rfl⟩) (by omega) (by omega)
        · exact ih (k + 1) a ha (by omega) (by omega)
      · exact ih (k + 1) a ha (by omega) (by omega)
theorem limitAt_in {m : MS} {p q : Int32} (hB : MB m) : f_M_limitAt m p q = -1 ∨ ∃ j, j < m.1 6 ∧ f_M_limitAt m p q = nI j := limitAt_l_in hB _ 0 _ (Or.inl rfl) (by omega) (by omega)
theorem limitAt_41 {m : MS} {p q : Int32} (hB : MB m) (h : ¬ f_M_limitAt m p q < 0) : vp_in (f_M_limitAt m p q) 41 := by
  have hb8 : m.1 6 ≤ 40 := hB.2.2.2.2.2.2.2.2.1
  rcases limitAt_in (p := p) (q := q) hB with e | ⟨j, hj, e⟩
  · rw [e] at h; exact absurd (by decide) h
  · rw [e]; exact vp_in_nI (by omega) (by decide)
theorem isThere_room {m : MS} {id : Int32} (h : ¬ f_M_isThere m id = 0) (h2 : ¬ id < nI (m.1 0) * nI (m.1 1)) : ¬ f_M_limitAt m (f_M_pair m id / nI (m.1 0)) (f_M_pair m id - f_M_pair m id / nI (m.1 0) * nI (m.1 0)) < 0 := by
  intro hz
  have hr : f_M_isRoom m id = 0 := by
    unfold f_M_isRoom
    rw [if_neg h2]
    split
    · rfl
    · first | rfl | rw [if_pos hz]
  apply h
  unfold f_M_isThere
  rw [if_pos hr]
  split
  · rfl
  · rw [if_pos (Int32.not_lt.mp h2)]
theorem isThere_pos {m : MS} {id : Int32} (hB : MB m) (h : ¬ f_M_isThere m id = 0) (h2 : id < nI (m.1 0) * nI (m.1 1)) : ¬ id < 0 ∧ ¬ nI (m.1 2) ≤ id - id / nI (m.1 1) * nI (m.1 1) := by
  have hr : f_M_isRoom m id = 0 := by
    unfold f_M_isRoom
    rw [if_pos h2]
  unfold f_M_isThere at h
  rw [if_pos hr] at h
  by_cases c1 : id < 0
  · rw [if_pos c1] at h; exact absurd rfl h
  · rw [if_neg c1] at h
    by_cases c2 : nI (m.1 0) * nI (m.1 1) ≤ id
    · rw [if_pos c2] at h; exact absurd rfl h
    · rw [if_neg c2] at h
      by_cases c3 : nI (m.1 2) ≤ id - id / nI (m.1 1) * nI (m.1 1)
      · rw [if_pos c3] at h; exact absurd rfl h
      · exact ⟨c1, c3⟩
theorem isThere_64 {m : MS} {id : Int32} (hB : MB m) (h : ¬ f_M_isThere m id = 0) (h2 : id < nI (m.1 0) * nI (m.1 1)) : vp_in (id - id / nI (m.1 1) * nI (m.1 1)) 64 := by
  obtain ⟨c1, c3⟩ := isThere_pos hB h h2
  obtain ⟨hb0, hb1, hb2, hb3, hb4, -⟩ := hB
  obtain ⟨j, hj, rfl⟩ := nI_of c1
  rw [pk_rem hj (by omega) (by omega)]
  have : j % m.1 1 < m.1 1 := Nat.mod_lt _ (by omega)
  exact vp_in_nI (by omega) (by decide)
end
section
theorem dM_net_0 : decode prog_6_method_32_code 0 = .ok (.aload_n 0, 1) := by decide +kernel
theorem dM_net_1 : decode prog_6_method_32_code 1 = .ok (.iload_n 1, 1) := by decide +kernel
theorem dM_net_2 : decode prog_6_method_32_code 2 = .ok (.invokevirtual 163, 3) := by decide +kernel
theorem dM_net_5 : decode prog_6_method_32_code 5 = .ok (.ifCond .ne 5, 3) := by decide +kernel
theorem dM_net_8 : decode prog_6_method_32_code 8 = .ok (.lconst 0, 1) := by decide +kernel
theorem dM_net_9 : decode prog_6_method_32_code 9 = .ok (.lreturn, 1) := by decide +kernel
theorem dM_net_10 : decode prog_6_method_32_code 10 = .ok (.iload_n 1, 1) := by decide +kernel
theorem dM_net_11 : decode prog_6_method_32_code 11 = .ok (.aload_n 0, 1) := by decide +kernel
theorem dM_net_12 : decode prog_6_method_32_code 12 = .ok (.getfield 66, 3) := by decide +kernel
theorem dM_net_15 : decode prog_6_method_32_code 15 = .ok (.aload_n 0, 1) := by decide +kernel
theorem dM_net_16 : decode prog_6_method_32_code 16 = .ok (.getfield 69, 3) := by decide +kernel
theorem dM_net_19 : decode prog_6_method_32_code 19 = .ok (.imul, 1) := by decide +kernel
theorem dM_net_20 : decode prog_6_method_32_code 20 = .ok (.if_icmp .lt 7, 3) := by decide +kernel
theorem dM_net_23 : decode prog_6_method_32_code 23 = .ok (.iconst 1, 1) := by decide +kernel
theorem dM_net_24 : decode prog_6_method_32_code 24 = .ok (.goto 4, 3) := by decide +kernel
theorem dM_net_27 : decode prog_6_method_32_code 27 = .ok (.iconst 0, 1) := by decide +kernel
theorem dM_net_28 : decode prog_6_method_32_code 28 = .ok (.istore_n 2, 1) := by decide +kernel
theorem dM_net_29 : decode prog_6_method_32_code 29 = .ok (.iload_n 2, 1) := by decide +kernel
theorem dM_net_30 : decode prog_6_method_32_code 30 = .ok (.ifCond .eq 16, 3) := by decide +kernel
theorem dM_net_33 : decode prog_6_method_32_code 33 = .ok (.aload_n 0, 1) := by decide +kernel
theorem dM_net_34 : decode prog_6_method_32_code 34 = .ok (.iload_n 1, 1) := by decide +kernel
theorem dM_net_35 : decode prog_6_method_32_code 35 = .ok (.invokevirtual 112, 3) := by decide +kernel
theorem dM_net_38 : decode prog_6_method_32_code 38 = .ok (.aload_n 0, 1) := by decide +kernel
theorem dM_net_39 : decode prog_6_method_32_code 39 = .ok (.getfield 66, 3) := by decide +kernel
theorem dM_net_42 : decode prog_6_method_32_code 42 = .ok (.idiv, 1) := by decide +kernel
theorem dM_net_43 : decode prog_6_method_32_code 43 = .ok (.goto 9, 3) := by decide +kernel
theorem dM_net_46 : decode prog_6_method_32_code 46 = .ok (.iload_n 1, 1) := by decide +kernel
theorem dM_net_47 : decode prog_6_method_32_code 47 = .ok (.aload_n 0, 1) := by decide +kernel
theorem dM_net_48 : decode prog_6_method_32_code 48 = .ok (.getfield 69, 3) := by decide +kernel
theorem dM_net_51 : decode prog_6_method_32_code 51 = .ok (.idiv, 1) := by decide +kernel
theorem dM_net_52 : decode prog_6_method_32_code 52 = .ok (.istore_n 3, 1) := by decide +kernel
theorem dM_net_53 : decode prog_6_method_32_code 53 = .ok (.iload_n 2, 1) := by decide +kernel
theorem dM_net_54 : decode prog_6_method_32_code 54 = .ok (.ifCond .eq 16, 3) := by decide +kernel
theorem dM_net_57 : decode prog_6_method_32_code 57 = .ok (.aload_n 0, 1) := by decide +kernel
theorem dM_net_58 : decode prog_6_method_32_code 58 = .ok (.iload_n 1, 1) := by decide +kernel
theorem dM_net_59 : decode prog_6_method_32_code 59 = .ok (.invokevirtual 112, 3) := by decide +kernel
theorem dM_net_62 : decode prog_6_method_32_code 62 = .ok (.aload_n 0, 1) := by decide +kernel
theorem dM_net_63 : decode prog_6_method_32_code 63 = .ok (.getfield 66, 3) := by decide +kernel
theorem dM_net_66 : decode prog_6_method_32_code 66 = .ok (.irem, 1) := by decide +kernel
theorem dM_net_67 : decode prog_6_method_32_code 67 = .ok (.goto 4, 3) := by decide +kernel
theorem dM_net_70 : decode prog_6_method_32_code 70 = .ok (.iconst (-1), 1) := by decide +kernel
theorem dM_net_71 : decode prog_6_method_32_code 71 = .ok (.istore 4, 2) := by decide +kernel
theorem dM_net_73 : decode prog_6_method_32_code 73 = .ok (.lconst 0, 1) := by decide +kernel
theorem dM_net_74 : decode prog_6_method_32_code 74 = .ok (.lstore 5, 2) := by decide +kernel
theorem dM_net_76 : decode prog_6_method_32_code 76 = .ok (.iconst 0, 1) := by decide +kernel
theorem dM_net_77 : decode prog_6_method_32_code 77 = .ok (.istore 7, 2) := by decide +kernel
theorem dM_net_79 : decode prog_6_method_32_code 79 = .ok (.iload 7, 2) := by decide +kernel
theorem dM_net_81 : decode prog_6_method_32_code 81 = .ok (.aload_n 0, 1) := by decide +kernel
theorem dM_net_82 : decode prog_6_method_32_code 82 = .ok (.getfield 160, 3) := by decide +kernel
theorem dM_net_85 : decode prog_6_method_32_code 85 = .ok (.if_icmp .ge 156, 3) := by decide +kernel
theorem dM_net_88 : decode prog_6_method_32_code 88 = .ok (.iload_n 2, 1) := by decide +kernel
theorem dM_net_89 : decode prog_6_method_32_code 89 = .ok (.ifCond .eq 25, 3) := by decide +kernel
theorem dM_net_92 : decode prog_6_method_32_code 92 = .ok (.aload_n 0, 1) := by decide +kernel
theorem dM_net_93 : decode prog_6_method_32_code 93 = .ok (.getfield 60, 3) := by decide +kernel
theorem dM_net_96 : decode prog_6_method_32_code 96 = .ok (.iload 7, 2) := by decide +kernel
theorem dM_net_98 : decode prog_6_method_32_code 98 = .ok (.iaload, 1) := by decide +kernel
theorem dM_net_99 : decode prog_6_method_32_code 99 = .ok (.aload_n 0, 1) := by decide +kernel
theorem dM_net_100 : decode prog_6_method_32_code 100 = .ok (.getfield 7, 3) := by decide +kernel
theorem dM_net_103 : decode prog_6_method_32_code 103 = .ok (.if_icmp .ne 7, 3) := by decide +kernel
theorem dM_net_106 : decode prog_6_method_32_code 106 = .ok (.iconst 1, 1) := by decide +kernel
theorem dM_net_107 : decode prog_6_method_32_code 107 = .ok (.goto 28, 3) := by decide +kernel
theorem dM_net_110 : decode prog_6_method_32_code 110 = .ok (.iconst 0, 1) := by decide +kernel
theorem dM_net_111 : decode prog_6_method_32_code 111 = .ok (.goto 24, 3) := by decide +kernel
theorem dM_net_114 : decode prog_6_method_32_code 114 = .ok (.aload_n 0, 1) := by decide +kernel
theorem dM_net_115 : decode prog_6_method_32_code 115 = .ok (.getfield 60, 3) := by decide +kernel
theorem dM_net_118 : decode prog_6_method_32_code 118 = .ok (.iload 7, 2) := by decide +kernel
theorem dM_net_120 : decode prog_6_method_32_code 120 = .ok (.iaload, 1) := by decide +kernel
theorem dM_net_121 : decode prog_6_method_32_code 121 = .ok (.iload_n 1, 1) := by decide +kernel
theorem dM_net_122 : decode prog_6_method_32_code 122 = .ok (.aload_n 0, 1) := by decide +kernel
theorem dM_net_123 : decode prog_6_method_32_code 123 = .ok (.getfield 69, 3) := by decide +kernel
theorem dM_net_126 : decode prog_6_method_32_code 126 = .ok (.irem, 1) := by decide +kernel
theorem dM_net_127 : decode prog_6_method_32_code 127 = .ok (.if_icmp .ne 7, 3) := by decide +kernel
theorem dM_net_130 : decode prog_6_method_32_code 130 = .ok (.iconst 1, 1) := by decide +kernel
theorem dM_net_131 : decode prog_6_method_32_code 131 = .ok (.goto 4, 3) := by decide +kernel
theorem dM_net_134 : decode prog_6_method_32_code 134 = .ok (.iconst 0, 1) := by decide +kernel
theorem dM_net_135 : decode prog_6_method_32_code 135 = .ok (.istore 8, 2) := by decide +kernel
theorem dM_net_137 : decode prog_6_method_32_code 137 = .ok (.iload 8, 2) := by decide +kernel
theorem dM_net_139 : decode prog_6_method_32_code 139 = .ok (.ifCond .eq 43, 3) := by decide +kernel
theorem dM_net_142 : decode prog_6_method_32_code 142 = .ok (.aload_n 0, 1) := by decide +kernel
theorem dM_net_143 : decode prog_6_method_32_code 143 = .ok (.getfield 54, 3) := by decide +kernel
theorem dM_net_146 : decode prog_6_method_32_code 146 = .ok (.iload 7, 2) := by decide +kernel
theorem dM_net_148 : decode prog_6_method_32_code 148 = .ok (.iaload, 1) := by decide +kernel
theorem dM_net_149 : decode prog_6_method_32_code 149 = .ok (.iload_n 3, 1) := by decide +kernel
theorem dM_net_150 : decode prog_6_method_32_code 150 = .ok (.if_icmp .ne 32, 3) := by decide +kernel
theorem dM_net_153 : decode prog_6_method_32_code 153 = .ok (.iload_n 2, 1) := by decide +kernel
theorem dM_net_154 : decode prog_6_method_32_code 154 = .ok (.ifCond .eq 15, 3) := by decide +kernel
theorem dM_net_157 : decode prog_6_method_32_code 157 = .ok (.aload_n 0, 1) := by decide +kernel
theorem dM_net_158 : decode prog_6_method_32_code 158 = .ok (.getfield 57, 3) := by decide +kernel
theorem dM_net_161 : decode prog_6_method_32_code 161 = .ok (.iload 7, 2) := by decide +kernel
theorem dM_net_163 : decode prog_6_method_32_code 163 = .ok (.iaload, 1) := by decide +kernel
theorem dM_net_164 : decode prog_6_method_32_code 164 = .ok (.iload 4, 2) := by decide +kernel
theorem dM_net_166 : decode prog_6_method_32_code 166 = .ok (.if_icmp .ne 16, 3) := by decide +kernel
theorem dM_net_169 : decode prog_6_method_32_code 169 = .ok (.lload 5, 2) := by decide +kernel
theorem dM_net_171 : decode prog_6_method_32_code 171 = .ok (.aload_n 0, 1) := by decide +kernel
theorem dM_net_172 : decode prog_6_method_32_code 172 = .ok (.getfield 63, 3) := by decide +kernel
theorem dM_net_175 : decode prog_6_method_32_code 175 = .ok (.iload 7, 2) := by decide +kernel
theorem dM_net_177 : decode prog_6_method_32_code 177 = .ok (.laload, 1) := by decide +kernel
theorem dM_net_178 : decode prog_6_method_32_code 178 = .ok (.lsub, 1) := by decide +kernel
theorem dM_net_179 : decode prog_6_method_32_code 179 = .ok (.goto 5, 3) := by decide +kernel
theorem dM_net_182 : decode prog_6_method_32_code 182 = .ok (.lload 5, 2) := by decide +kernel
theorem dM_net_184 : decode prog_6_method_32_code 184 = .ok (.lstore 5, 2) := by decide +kernel
theorem dM_net_186 : decode prog_6_method_32_code 186 = .ok (.iload 8, 2) := by decide +kernel
theorem dM_net_188 : decode prog_6_method_32_code 188 = .ok (.ifCond .eq 43, 3) := by decide +kernel
theorem dM_net_191 : decode prog_6_method_32_code 191 = .ok (.aload_n 0, 1) := by decide +kernel
theorem dM_net_192 : decode prog_6_method_32_code 192 = .ok (.getfield 57, 3) := by decide +kernel
theorem dM_net_195 : decode prog_6_method_32_code 195 = .ok (.iload 7, 2) := by decide +kernel
theorem dM_net_197 : decode prog_6_method_32_code 197 = .ok (.iaload, 1) := by decide +kernel
theorem dM_net_198 : decode prog_6_method_32_code 198 = .ok (.iload_n 3, 1) := by decide +kernel
theorem dM_net_199 : decode prog_6_method_32_code 199 = .ok (.if_icmp .ne 32, 3) := by decide +kernel
theorem dM_net_202 : decode prog_6_method_32_code 202 = .ok (.iload_n 2, 1) := by decide +kernel
theorem dM_net_203 : decode prog_6_method_32_code 203 = .ok (.ifCond .eq 15, 3) := by decide +kernel
theorem dM_net_206 : decode prog_6_method_32_code 206 = .ok (.aload_n 0, 1) := by decide +kernel
theorem dM_net_207 : decode prog_6_method_32_code 207 = .ok (.getfield 54, 3) := by decide +kernel
theorem dM_net_210 : decode prog_6_method_32_code 210 = .ok (.iload 7, 2) := by decide +kernel
theorem dM_net_212 : decode prog_6_method_32_code 212 = .ok (.iaload, 1) := by decide +kernel
theorem dM_net_213 : decode prog_6_method_32_code 213 = .ok (.iload 4, 2) := by decide +kernel
theorem dM_net_215 : decode prog_6_method_32_code 215 = .ok (.if_icmp .ne 16, 3) := by decide +kernel
theorem dM_net_218 : decode prog_6_method_32_code 218 = .ok (.lload 5, 2) := by decide +kernel
theorem dM_net_220 : decode prog_6_method_32_code 220 = .ok (.aload_n 0, 1) := by decide +kernel
theorem dM_net_221 : decode prog_6_method_32_code 221 = .ok (.getfield 63, 3) := by decide +kernel
theorem dM_net_224 : decode prog_6_method_32_code 224 = .ok (.iload 7, 2) := by decide +kernel
theorem dM_net_226 : decode prog_6_method_32_code 226 = .ok (.laload, 1) := by decide +kernel
theorem dM_net_227 : decode prog_6_method_32_code 227 = .ok (.ladd, 1) := by decide +kernel
theorem dM_net_228 : decode prog_6_method_32_code 228 = .ok (.goto 5, 3) := by decide +kernel
theorem dM_net_231 : decode prog_6_method_32_code 231 = .ok (.lload 5, 2) := by decide +kernel
theorem dM_net_233 : decode prog_6_method_32_code 233 = .ok (.lstore 5, 2) := by decide +kernel
theorem dM_net_235 : decode prog_6_method_32_code 235 = .ok (.iinc 7 1, 3) := by decide +kernel
theorem dM_net_238 : decode prog_6_method_32_code 238 = .ok (.goto (-159), 3) := by decide +kernel
theorem dM_net_241 : decode prog_6_method_32_code 241 = .ok (.lload 5, 2) := by decide +kernel
theorem dM_net_243 : decode prog_6_method_32_code 243 = .ok (.lreturn, 1) := by decide +kernel
def f_M_net_l (m : MS) (id : Int32) : Nat → Nat → Int64 → Int64
  | 0, _, _ => 0
  | n + 1, k, v => if (nI (m.1 7)) ≤ (nI k) then v else (if ((m.2.2.1 10) (nI k).toNatClampNeg) = (id - id / (nI (m.1 1)) * (nI (m.1 1))) then (if ((m.2.2.1 8) (nI k).toNatClampNeg) = (id / (nI (m.1 1))) then (if ((m.2.2.1 9) (nI k).toNatClampNeg) = (id / (nI (m.1 1))) then (f_M_net_l m id n (k + 1) ((v - ((m.2.2.2 5) (nI k).toNatClampNeg)) + ((m.2.2.2 5) (nI k).toNatClampNeg))) else (f_M_net_l m id n (k + 1) (v - ((m.2.2.2 5) (nI k).toNatClampNeg)))) else (if ((m.2.2.1 9) (nI k).toNatClampNeg) = (id / (nI (m.1 1))) then (f_M_net_l m id n (k + 1) (v + ((m.2.2.2 5) (nI k).toNatClampNeg))) else (f_M_net_l m id n (k + 1) v))) else (f_M_net_l m id n (k + 1) v))
theorem f_M_net_l_s (m : MS) (id : Int32) (n : Nat) (k : Nat) (v : Int64) : f_M_net_l m id (n + 1) k v = (if (nI (m.1 7)) ≤ (nI k) then v else (if ((m.2.2.1 10) (nI k).toNatClampNeg) = (id - id / (nI (m.1 1)) * (nI (m.1 1))) then (if ((m.2.2.1 8) (nI k).toNatClampNeg) = (id / (nI (m.1 1))) then (if ((m.2.2.1 9) (nI k).toNatClampNeg) = (id / (nI (m.1 1))) then (f_M_net_l m id n (k + 1) ((v - ((m.2.2.2 5) (nI k).toNatClampNeg)) + ((m.2.2.2 5) (nI k).toNatClampNeg))) else (f_M_net_l m id n (k + 1) (v - ((m.2.2.2 5) (nI k).toNatClampNeg)))) else (if ((m.2.2.1 9) (nI k).toNatClampNeg) = (id / (nI (m.1 1))) then (f_M_net_l m id n (k + 1) (v + ((m.2.2.2 5) (nI k).toNatClampNeg))) else (f_M_net_l m id n (k + 1) v))) else (f_M_net_l m id n (k + 1) v))) := rfl
def f_M_net_l2 (m : MS) (id : Int32) : Nat → Nat → Int64 → Int64
  | 0, _, _ => 0
  | n + 1, k, v => if (nI (m.1 7)) ≤ (nI k) then v else (if ((m.2.2.1 10) (nI k).toNatClampNeg) = m.2.1 then (if ((m.2.2.1 8) (nI k).toNatClampNeg) = ((f_M_pair m id) / (nI (m.1 0))) then (if ((m.2.2.1 9) (nI k).toNatClampNeg) = ((f_M_pair m id) - (f_M_pair m id) / (nI (m.1 0)) * (nI (m.1 0))) then (if ((m.2.2.1 9) (nI k).toNatClampNeg) = ((f_M_pair m id) / (nI (m.1 0))) then (if ((m.2.2.1 8) (nI k).toNatClampNeg) = ((f_M_pair m id) - (f_M_pair m id) / (nI (m.1 0)) * (nI (m.1 0))) then (f_M_net_l2 m id n (k + 1) ((v - ((m.2.2.2 5) (nI k).toNatClampNeg)) + ((m.2.2.2 5) (nI k).toNatClampNeg))) else (f_M_net_l2 m id n (k + 1) (v - ((m.2.2.2 5) (nI k).toNatClampNeg)))) else (f_M_net_l2 m id n (k + 1) (v - ((m.2.2.2 5) (nI k).toNatClampNeg)))) else (if ((m.2.2.1 9) (nI k).toNatClampNeg) = ((f_M_pair m id) / (nI (m.1 0))) then (if ((m.2.2.1 8) (nI k).toNatClampNeg) = ((f_M_pair m id) - (f_M_pair m id) / (nI (m.1 0)) * (nI (m.1 0))) then (f_M_net_l2 m id n (k + 1) (v + ((m.2.2.2 5) (nI k).toNatClampNeg))) else (f_M_net_l2 m id n (k + 1) v)) else (f_M_net_l2 m id n (k + 1) v))) else (if ((m.2.2.1 9) (nI k).toNatClampNeg) = ((f_M_pair m id) / (nI (m.1 0))) then (if ((m.2.2.1 8) (nI k).toNatClampNeg) = ((f_M_pair m id) - (f_M_pair m id) / (nI (m.1 0)) * (nI (m.1 0))) then (f_M_net_l2 m id n (k + 1) (v + ((m.2.2.2 5) (nI k).toNatClampNeg))) else (f_M_net_l2 m id n (k + 1) v)) else (f_M_net_l2 m id n (k + 1) v))) else (f_M_net_l2 m id n (k + 1) v))
theorem f_M_net_l2_s (m : MS) (id : Int32) (n : Nat) (k : Nat) (v : Int64) : f_M_net_l2 m id (n + 1) k v = (if (nI (m.1 7)) ≤ (nI k) then v else (if ((m.2.2.1 10) (nI k).toNatClampNeg) = m.2.1 then (if ((m.2.2.1 8) (nI k).toNatClampNeg) = ((f_M_pair m id) / (nI (m.1 0))) then (if ((m.2.2.1 9) (nI k).toNatClampNeg) = ((f_M_pair m id) - (f_M_pair m id) / (nI (m.1 0)) * (nI (m.1 0))) then (if ((m.2.2.1 9) (nI k).toNatClampNeg) = ((f_M_pair m id) / (nI (m.1 0))) then (if ((m.2.2.1 8) (nI k).toNatClampNeg) = ((f_M_pair m id) - (f_M_pair m id) / (nI (m.1 0)) * (nI (m.1 0))) then (f_M_net_l2 m id n (k + 1) ((v - ((m.2.2.2 5) (nI k).toNatClampNeg)) + ((m.2.2.2 5) (nI k).toNatClampNeg))) else (f_M_net_l2 m id n (k + 1) (v - ((m.2.2.2 5) (nI k).toNatClampNeg)))) else (f_M_net_l2 m id n (k + 1) (v - ((m.2.2.2 5) (nI k).toNatClampNeg)))) else (if ((m.2.2.1 9) (nI k).toNatClampNeg) = ((f_M_pair m id) / (nI (m.1 0))) then (if ((m.2.2.1 8) (nI k).toNatClampNeg) = ((f_M_pair m id) - (f_M_pair m id) / (nI (m.1 0)) * (nI (m.1 0))) then (f_M_net_l2 m id n (k + 1) (v + ((m.2.2.2 5) (nI k).toNatClampNeg))) else (f_M_net_l2 m id n (k + 1) v)) else (f_M_net_l2 m id n (k + 1) v))) else (if ((m.2.2.1 9) (nI k).toNatClampNeg) = ((f_M_pair m id) / (nI (m.1 0))) then (if ((m.2.2.1 8) (nI k).toNatClampNeg) = ((f_M_pair m id) - (f_M_pair m id) / (nI (m.1 0)) * (nI (m.1 0))) then (f_M_net_l2 m id n (k + 1) (v + ((m.2.2.2 5) (nI k).toNatClampNeg))) else (f_M_net_l2 m id n (k + 1) v)) else (f_M_net_l2 m id n (k + 1) v))) else (f_M_net_l2 m id n (k + 1) v))) := rfl
def f_M_net (m : MS) (id : Int32) : Int64 := if (f_M_isThere m id) = 0 then 0 else (if id < ((nI (m.1 0)) * (nI (m.1 1))) then (f_M_net_l m id (m.1 7 + 1) 0 0) else (f_M_net_l2 m id (m.1 7 + 1) 0 0))
set_option maxHeartbeats 4000000 in
set_option maxRecDepth 100000 in
theorem c_M_net (l : Launch) (D : va_G) (cI cL cQ : ClassId) (d : Nat → Nat) (κ : Nat → Option va_E) (m : MS) (hm : IsM cI cL d κ m) (hB : MB m) (sz : Nat) (id : Int32)  : Met l yM_net wM_net { frames := 3, cells := 0, slots := 0, locals := 66 } (va_Pc [.ref (d 0), .int (id)] (kC D vCl (kT cI cL cQ) d κ sz)) (vp_Sl (fun r => r = f_M_net m id)) 0 0 (fun _ => False) := by
  refine kMet (by decide) (Nat.le_of_ble_eq_true rfl) ?_
  intro p0 e0 s0 m0 below0 meth0 c0 hx hb hr hml hown hlocks hin hts hsz hP hK ls hl
  have hl : lv_has ls 9 [(0, .ref (d 0)), (1, .int (id))] := hl
  have hB9 := hB
  obtain ⟨hb0, hb1, hb2, hb3, hb4, hb5, hb6, hb7, hb8, hb9, hb10⟩ := hB9
  refine lv_aload_n hx hb dM_net_0 rfl (lv_at hl 0 rfl) ?_
  refine lv_iload_n hx hb dM_net_1 rfl (lv_at hl 1 rfl) ?_
  refine vp_callSi (W.runV (C := RM) (As := [.int (id)]) (rest := []) ⟨hx, hb, hml, hown, hts⟩ (c_M_isThere l D cI cL cQ d κ m hm hB _ id) (cwV 1 hts (k_gV tw_590 tw_464 tw_465 tw_41 tw_466) rfl rfl rfl (by decide +kernel) ⟨Nat.le_of_ble_eq_true rfl, Nat.le_of_ble_eq_true rfl⟩) (kPreV hP hK (q := 0) hm.1 rfl) rfl rfl hl.1 rfl (lv_room (Nat.le_of_ble_eq_true rfl)) dM_net_2 ⟨Nat.le_of_ble_eq_true rfl, Nat.le_of_ble_eq_true rfl⟩) (fun r_2 e_2 => ?_)
  subst e_2
  refine lv_if_ne (tgt := 10) hx hb dM_net_5 (by decide) (fun c_5 => ?_) (fun c_5 => ?_)
  · refine lv_iload_n hx hb dM_net_10 rfl (lv_at hl 1 rfl) ?_
    refine lv_aload_n hx hb dM_net_11 rfl (lv_at hl 0 rfl) ?_
    refine ka_get (ci := 4) (C := RM) (T := TM) (N := 26) hx hb hts inM hown hK hP (q := 0) hm.1 rfl 0 (by decide) (hts _ tw_384) (fun _ h9 => h9) rfl dM_net_12 ?_
    refine lv_aload_n hx hb dM_net_15 rfl (lv_at hl 0 rfl) ?_
    refine ka_get (ci := 4) (C := RM) (T := TM) (N := 26) hx hb hts inM hown hK hP (q := 0) hm.1 rfl 1 (by decide) (hts _ tw_385) (fun _ h9 => h9) rfl dM_net_16 ?_
    refine lv_imul hx hb dM_net_19 ?_
    refine lv_icmp_lt (tgt := 27) hx hb dM_net_20 (by decide) (fun c_20 => ?_) (fun c_20 => ?_)
    · refine lv_iconst (v := 0) hx hb dM_net_27 (by decide) ?_
      refine lv_istore_n (lv' := [(2, .int (0)), (0, .ref (d 0)), (1, .int (id))]) hx hb dM_net_28 rfl hl (by decide) rfl (fun ls hl => ?_)
      refine lv_iload_n hx hb dM_net_29 rfl (lv_at hl 0 rfl) ?_
      refine lv_if_eq (tgt := 46) hx hb dM_net_30 (by decide) (fun _ => ?_) (fun c => absurd c (by decide))
      refine lv_iload_n hx hb dM_net_46 rfl (lv_at hl 2 rfl) ?_
      refine lv_aload_n hx hb dM_net_47 rfl (lv_at hl 1 rfl) ?_
      refine ka_get (ci := 4) (C := RM) (T := TM) (N := 26) hx hb hts inM hown hK hP (q := 0) hm.1 rfl 1 (by decide) (hts _ tw_385) (fun _ h9 => h9) rfl dM_net_48 ?_
      refine lv_idiv hx hb dM_net_51 (nI_ne0 (by omega) (by omega)) ?_
      refine lv_istore_n (lv' := [(3, .int (id / (nI (m.1 1)))), (2, .int (0)), (0, .ref (d 0)), (1, .int (id))]) hx hb dM_net_52 rfl hl (by decide) rfl (fun ls hl => ?_)
      refine lv_iload_n hx hb dM_net_53 rfl (lv_at hl 1 rfl) ?_
      refine lv_if_eq (tgt := 70) hx hb dM_net_54 (by decide) (fun _ => ?_) (fun c => absurd c (by decide))
      refine lv_iconst (v := -1) hx hb dM_net_70 (by decide) ?_
      refine lv_istore (lv' := [(4, .int (-1)), (3, .int (id / (nI (m.1 1)))), (2, .int (0)), (0, .ref (d 0)), (1, .int (id))]) hx hb dM_net_71 hl (by decide) rfl (fun ls hl => ?_)
      refine lv_lconst (v := 0) hx hb dM_net_73 (by decide) ?_
      refine lv_lstore (lv' := [(5, .long (0)), (4, .int (-1)), (3, .int (id / (nI (m.1 1)))), (2, .int (0)), (0, .ref (d 0)), (1, .int (id))]) hx hb dM_net_74 hl (by decide) rfl (fun ls hl => ?_)
      refine lv_iconst (v := 0) hx hb dM_net_76 (by decide) ?_
      refine lv_istore (lv' := [(7, .int (0)), (5, .long (0)), (4, .int (-1)), (3, .int (id / (nI (m.1 1)))), (2, .int (0)), (0, .ref (d 0)), (1, .int (id))]) hx hb dM_net_77 hl (by decide) rfl (fun ls hl => ?_)
      refine k_rec (σ := Nat × Int64) (fun n z9 ls => z9.1 ≤ m.1 7 ∧ m.1 7 < z9.1 + n ∧ f_M_net_l m id n z9.1 z9.2 = f_M_net m id ∧ lv_has ls 9 [(7, .int (nI z9.1)), (5, .long z9.2), (4, .int (-1)), (3, .int (id / (nI (m.1 1)))), (2, .int (0)), (0, .ref (d 0)), (1, .int (id))]) (m.1 7 + 1) (0, 0) ⟨by omega, by omega, by rw [f_M_net, if_neg c_5, if_pos c_20], lv_sub hl [0, 1, 2, 3, 4, 5, 6] rfl⟩ ?_
      intro n z9 ls hI ih
      obtain ⟨k, v⟩ := z9
      obtain ⟨hk, hn, hE, hl⟩ := hI
      dsimp only at hk hn hE hl
      obtain ⟨n, rfl⟩ : ∃ q, n = q + 1 := ⟨n - 1, by omega⟩
      refine lv_iload hx hb dM_net_79 (lv_at hl 0 rfl) ?_
      refine lv_aload_n hx hb dM_net_81 rfl (lv_at hl 5 rfl) ?_
      refine ka_get (ci := 4) (C := RM) (T := TM) (N := 26) hx hb hts inM hown hK hP (q := 0) hm.1 rfl 21 (by decide) (hts _ tw_405) (fun _ h9 => h9) rfl dM_net_82 ?_
      refine lv_icmp_ge (tgt := 241) hx hb dM_net_85 (by decide) (fun c_85 => ?_) (fun c_85 => ?_)
      · refine lv_lload hx hb dM_net_241 (lv_at hl 1 rfl) ?_
        exact W.lret (v := v) hx hb hr (fun t ht hW => ⟨_, rfl, by rw [← hE, f_M_net_l_s, if_pos c_85], ht⟩) (fun q h => by cases h) dM_net_243
      · have hlt : k < m.1 7 := Nat.lt_of_not_le (fun q => c_85 (nI_le q (by omega)))
        refine lv_iload_n hx hb dM_net_88 rfl (lv_at hl 4 rfl) ?_
        refine lv_if_eq (tgt := 114) hx hb dM_net_89 (by decide) (fun _ => ?_) (fun c => absurd c (by decide))
        refine lv_aload_n hx hb dM_net_114 rfl (lv_at hl 5 rfl) ?_
        refine ka_get (ci := 4) (C := RM) (T := TM) (N := 26) hx hb hts inM hown hK hP (q := 0) hm.1 rfl 24 (by decide) (hts _ tw_408) (fun _ h9 => h9) rfl dM_net_115 ?_
        refine lv_iload hx hb dM_net_118 (lv_at hl 0 rfl) ?_
        refine ka_iald hx hb hK hP 0 (q := 16) hm.2.2.2.2.2.2.2.2.2.2.2.2.2.2.2.2.1 rfl (by first | assumption | exact vp_in_nI (by omega) (by omega)) dM_net_120 ?_
        refine lv_iload_n hx hb dM_net_121 rfl (lv_at hl 6 rfl) ?_
        refine lv_aload_n hx hb dM_net_122 rfl (lv_at hl 5 rfl) ?_
        refine ka_get (ci := 4) (C := RM) (T := TM) (N := 26) hx hb hts inM hown hK hP (q := 0) hm.1 rfl 1 (by decide) (hts _ tw_385) (fun _ h9 => h9) rfl dM_net_123 ?_
        refine lv_irem hx hb dM_net_126 (nI_ne0 (by omega) (by omega)) ?_
        refine lv_icmp_ne (tgt := 134) hx hb dM_net_127 (by decide) (fun c_127 => ?_) (fun c_127 => ?_)
        · refine lv_iconst (v := 0) hx hb dM_net_134 (by decide) ?_
          refine lv_istore (lv' := [(8, .int (0)), (7, .int (nI k)), (5, .long (v)), (4, .int (-1)), (3, .int (id / (nI (m.1 1)))), (2, .int (0)), (0, .ref (d 0)), (1, .int (id))]) hx hb dM_net_135 hl (by decide) rfl (fun ls hl => ?_)
          refine lv_iload hx hb dM_net_137 (lv_at hl 0 rfl) ?_
          refine lv_if_eq (tgt := 182) hx hb dM_net_139 (by decide) (fun _ => ?_) (fun c => absurd c (by decide))
          refine lv_lload hx hb dM_net_182 (lv_at hl 2 rfl) ?_
          refine lv_lstore (lv' := [(5, .long (v)), (8, .int (0)), (7, .int (nI k)), (4, .int (-1)), (3, .int (id / (nI (m.1 1)))), (2, .int (0)), (0, .ref (d 0)), (1, .int (id))]) hx hb dM_net_184 hl (by decide) rfl (fun ls hl => ?_)
          refine lv_iload hx hb dM_net_186 (lv_at hl 1 rfl) ?_
          refine lv_if_eq (tgt := 231) hx hb dM_net_188 (by decide) (fun _ => ?_) (fun c => absurd c (by decide))
          refine lv_lload hx hb dM_net_231 (lv_at hl 0 rfl) ?_
          refine lv_lstore (lv' := [(5, .long (v)), (8, .int (0)), (7, .int (nI k)), (4, .int (-1)), (3, .int (id / (nI (m.1 1)))), (2, .int (0)), (0, .ref (d 0)), (1, .int (id))]) hx hb dM_net_233 hl (by decide) rfl (fun ls hl => ?_)
          refine lv_iinc (v := nI (k + 1)) (lv' := [(7, .int (nI (k + 1))), (5, .long (v)), (8, .int (0)), (4, .int (-1)), (3, .int (id / (nI (m.1 1)))), (2, .int (0)), (0, .ref (d 0)), (1, .int (id))]) hx hb dM_net_235 hl (k := 2) rfl (nI_add k 1) (by decide) rfl (fun ls hl => ?_)
          refine lv_goto (tgt := 79) hx hb dM_net_238 (by decide) ?_
          exact ih n (k + 1, v) ls (by omega) ⟨by omega, by omega, by rw [← hE, f_M_net_l_s, if_neg c_85, if_neg c_127], lv_sub hl [0, 1, 3, 4, 5, 6, 7] rfl⟩
        · refine lv_iconst (v := 1) hx hb dM_net_130 (by decide) ?_
          refine lv_goto (tgt := 135) hx hb dM_net_131 (by decide) ?_
          refine lv_istore (lv' := [(8, .int (1)), (7, .int (nI k)), (5, .long (v)), (4, .int (-1)), (3, .int (id / (nI (m.1 1)))), (2, .int (0)), (0, .ref (d 0)), (1, .int (id))]) hx hb dM_net_135 hl (by decide) rfl (fun ls hl => ?_)
          refine lv_iload hx hb dM_net_137 (lv_at hl 0 rfl) ?_
          refine lv_if_eq (tgt := 182) hx hb dM_net_139 (by decide) (fun c => absurd c (by decide)) (fun _ => ?_)
          refine lv_aload_n hx hb dM_net_142 rfl (lv_at hl 6 rfl) ?_
          refine ka_get (ci := 4) (C := RM) (T := TM) (N := 26) hx hb hts inM hown hK hP (q := 0) hm.1 rfl 22 (by decide) (hts _ tw_406) (fun _ h9 => h9) rfl dM_net_143 ?_
          refine lv_iload hx hb dM_net_146 (lv_at hl 1 rfl) ?_
          refine ka_iald hx hb hK hP 0 (q := 14) hm.2.2.2.2.2.2.2.2.2.2.2.2.2.2.1 rfl (by first | assumption | exact vp_in_nI (by omega) (by omega)) dM_net_148 ?_
          refine lv_iload_n hx hb dM_net_149 rfl (lv_at hl 4 rfl) ?_
          refine lv_icmp_ne (tgt := 182) hx hb dM_net_150 (by decide) (fun c_150 => ?_) (fun c_150 => ?_)
          · refine lv_lload hx hb dM_net_182 (lv_at hl 2 rfl) ?_
            refine lv_lstore (lv' := [(5, .long (v)), (8, .int (1)), (7, .int (nI k)), (4, .int (-1)), (3, .int (id / (nI (m.1 1)))), (2, .int (0)), (0, .ref (d 0)), (1, .int (id))]) hx hb dM_net_184 hl (by decide) rfl (fun ls hl => ?_)
            refine lv_iload hx hb dM_net_186 (lv_at hl 1 rfl) ?_
            refine lv_if_eq (tgt := 231) hx hb dM_net_188 (by decide) (fun c => absurd c (by decide)) (fun _ => ?_)
            refine lv_aload_n hx hb dM_net_191 rfl (lv_at hl 6 rfl) ?_
            refine ka_get (ci := 4) (C := RM) (T := TM) (N := 26) hx hb hts inM hown hK hP (q := 0) hm.1 rfl 23 (by decide) (hts _ tw_407) (fun _ h9 => h9) rfl dM_net_192 ?_
            refine lv_iload hx hb dM_net_195 (lv_at hl 2 rfl) ?_
            refine ka_iald hx hb hK hP 0 (q := 15) hm.2.2.2.2.2.2.2.2.2.2.2.2.2.2.2.1 rfl (by first | assumption | exact vp_in_nI (by omega) (by omega)) dM_net_197 ?_
            refine lv_iload_n hx hb dM_net_198 rfl (lv_at hl 4 rfl) ?_
            refine lv_icmp_ne (tgt := 231) hx hb dM_net_199 (by decide) (fun c_199 => ?_) (fun c_199 => ?_)
            · refine lv_lload hx hb dM_net_231 (lv_at hl 0 rfl) ?_
              refine lv_lstore (lv' := [(5, .long (v)), (8, .int (1)), (7, .int (nI k)), (4, .int (-1)), (3, .int (id / (nI (m.1 1)))), (2, .int (0)), (0, .ref (d 0)), (1, .int (id))]) hx hb dM_net_233 hl (by decide) rfl (fun ls hl => ?_)
              refine lv_iinc (v := nI (k + 1)) (lv' := [(7, .int (nI (k + 1))), (5, .long (v)), (8, .int (1)), (4, .int (-1)), (3, .int (id / (nI (m.1 1)))), (2, .int (0)), (0, .ref (d 0)), (1, .int (id))]) hx hb dM_net_235 hl (k := 2) rfl (nI_add k 1) (by decide) rfl (fun ls hl => ?_)
              refine lv_goto (tgt := 79) hx hb dM_net_238 (by decide) ?_
              exact ih n (k + 1, v) ls (by omega) ⟨by omega, by omega, by rw [← hE, f_M_net_l_s, if_neg c_85, if_pos c_127, if_neg c_150, if_neg c_199], lv_sub hl [0, 1, 3, 4, 5, 6, 7] rfl⟩
            · refine lv_iload_n hx hb dM_net_202 rfl (lv_at hl 5 rfl) ?_
              refine lv_if_eq (tgt := 218) hx hb dM_net_203 (by decide) (fun _ => ?_) (fun c => absurd c (by decide))
              refine lv_lload hx hb dM_net_218 (lv_at hl 0 rfl) ?_
              refine lv_aload_n hx hb dM_net_220 rfl (lv_at hl 6 rfl) ?_
              refine ka_get (ci := 4) (C := RM) (T := TM) (N := 26) hx hb hts inM hown hK hP (q := 0) hm.1 rfl 25 (by decide) (hts _ tw_409) (fun _ h9 => h9) rfl dM_net_221 ?_
              refine lv_iload hx hb dM_net_224 (lv_at hl 2 rfl) ?_
              refine ka_lald hx hb hK hP 1 (q := 17) hm.2.2.2.2.2.2.2.2.2.2.2.2.2.2.2.2.2 rfl (by first | assumption | exact vp_in_nI (by omega) (by omega)) dM_net_226 ?_
              refine lv_ladd hx hb dM_net_227 ?_
              refine lv_goto (tgt := 233) hx hb dM_net_228 (by decide) ?_
              refine lv_lstore (lv' := [(5, .long (v + ((m.2.2.2 5) (nI k).toNatClampNeg))), (8, .int (1)), (7, .int (nI k)), (4, .int (-1)), (3, .int (id / (nI (m.1 1)))), (2, .int (0)), (0, .ref (d 0)), (1, .int (id))]) hx hb dM_net_233 hl (by decide) rfl (fun ls hl => ?_)
              refine lv_iinc (v := nI (k + 1)) (lv' := [(7, .int (nI (k + 1))), (5, .long (v + ((m.2.2.2 5) (nI k).toNatClampNeg))), (8, .int (1)), (4, .int (-1)), (3, .int (id / (nI (m.1 1)))), (2, .int (0)), (0, .ref (d 0)), (1, .int (id))]) hx hb dM_net_235 hl (k := 2) rfl (nI_add k 1) (by decide) rfl (fun ls hl => ?_)
              refine lv_goto (tgt := 79) hx hb dM_net_238 (by decide) ?_
              exact ih n (k + 1, v + ((m.2.2.2 5) (nI k).toNatClampNeg)) ls (by omega) ⟨by omega, by omega, by rw [← hE, f_M_net_l_s, if_neg c_85, if_pos c_127, if_neg c_150, if_pos c_199], lv_sub hl [0, 1, 3, 4, 5, 6, 7] rfl⟩
          · refine lv_iload_n hx hb dM_net_153 rfl (lv_at hl 5 rfl) ?_
            refine lv_if_eq (tgt := 169) hx hb dM_net_154 (by decide) (fun _ => ?_) (fun c => absurd c (by decide))
            refine lv_lload hx hb dM_net_169 (lv_at hl 2 rfl) ?_
            refine lv_aload_n hx hb dM_net_171 rfl (lv_at hl 6 rfl) ?_
            refine ka_get (ci := 4) (C := RM) (T := TM) (N := 26) hx hb hts inM hown hK hP (q := 0) hm.1 rfl 25 (by decide) (hts _ tw_409) (fun _ h9 => h9) rfl dM_net_172 ?_
            refine lv_iload hx hb dM_net_175 (lv_at hl 1 rfl) ?_
            refine ka_lald hx hb hK hP 1 (q := 17) hm.2.2.2.2.2.2.2.2.2.2.2.2.2.2.2.2.2 rfl (by first | assumption | exact vp_in_nI (by omega) (by omega)) dM_net_177 ?_
            refine lv_lsub hx hb dM_net_178 ?_
            refine lv_goto (tgt := 184) hx hb dM_net_179 (by decide) ?_
            refine lv_lstore (lv' := [(5, .long (v - ((m.2.2.2 5) (nI k).toNatClampNeg))), (8, .int (1)), (7, .int (nI k)), (4, .int (-1)), (3, .int (id / (nI (m.1 1)))), (2, .int (0)), (0, .ref (d 0)), (1, .int (id))]) hx hb dM_net_184 hl (by decide) rfl (fun ls hl => ?_)
            refine lv_iload hx hb dM_net_186 (lv_at hl 1 rfl) ?_
            refine lv_if_eq (tgt := 231) hx hb dM_net_188 (by decide) (fun c => absurd c (by decide)) (fun _ => ?_)
            refine lv_aload_n hx hb dM_net_191 rfl (lv_at hl 6 rfl) ?_
            refine ka_get (ci := 4) (C := RM) (T := TM) (N := 26) hx hb hts inM hown hK hP (q := 0) hm.1 rfl 23 (by decide) (hts _ tw_407) (fun _ h9 => h9) rfl dM_net_192 ?_
            refine lv_iload hx hb dM_net_195 (lv_at hl 2 rfl) ?_
            refine ka_iald hx hb hK hP 0 (q := 15) hm.2.2.2.2.2.2.2.2.2.2.2.2.2.2.2.1 rfl (by first | assumption | exact vp_in_nI (by omega) (by omega)) dM_net_197 ?_
            refine lv_iload_n hx hb dM_net_198 rfl (lv_at hl 4 rfl) ?_
            refine lv_icmp_ne (tgt := 231) hx hb dM_net_199 (by decide) (fun c_199 => ?_) (fun c_199 => ?_)
            · refine lv_lload hx hb dM_net_231 (lv_at hl 0 rfl) ?_
              refine lv_lstore (lv' := [(5, .long (v - ((m.2.2.2 5) (nI k).toNatClampNeg))), (8, .int (1)), (7, .int (nI k)), (4, .int (-1)), (3, .int (id / (nI (m.1 1)))), (2, .int (0)), (0, .ref (d 0)), (1, .int (id))]) hx hb dM_net_233 hl (by decide) rfl (fun ls hl => ?_)
              refine lv_iinc (v := nI (k + 1)) (lv' := [(7, .int (nI (k + 1))), (5, .long (v - ((m.2.2.2 5) (nI k).toNatClampNeg))), (8, .int (1)), (4, .int (-1)), (3, .int (id / (nI (m.1 1)))), (2, .int (0)), (0, .ref (d 0)), (1, .int (id))]) hx hb dM_net_235 hl (k := 2) rfl (nI_add k 1) (by decide) rfl (fun ls hl => ?_)
              refine lv_goto (tgt := 79) hx hb dM_net_238 (by decide) ?_
              exact ih n (k + 1, v - ((m.2.2.2 5) (nI k).toNatClampNeg)) ls (by omega) ⟨by omega, by omega, by rw [← hE, f_M_net_l_s, if_neg c_85, if_pos c_127, if_pos c_150, if_neg c_199], lv_sub hl [0, 1, 3, 4, 5, 6, 7] rfl⟩
            · refine lv_iload_n hx hb dM_net_202 rfl (lv_at hl 5 rfl) ?_
              refine lv_if_eq (tgt := 218) hx hb dM_net_203 (by decide) (fun _ => ?_) (fun c => absurd c (by decide))
              refine lv_lload hx hb dM_net_218 (lv_at hl 0 rfl) ?_
              refine lv_aload_n hx hb dM_net_220 rfl (lv_at hl 6 rfl) ?_
              refine ka_get (ci := 4) (C := RM) (T := TM) (N := 26) hx hb hts inM hown hK hP (q := 0) hm.1 rfl 25 (by decide) (hts _ tw_409) (fun _ h9 => h9) rfl dM_net_221 ?_
              refine lv_iload hx hb dM_net_224 (lv_at hl 2 rfl) ?_
              refine ka_lald hx hb hK hP 1 (q := 17) hm.2.2.2.2.2.2.2.2.2.2.2.2.2.2.2.2.2 rfl (by first | assumption | exact vp_in_nI (by omega) (by omega)) dM_net_226 ?_
              refine lv_ladd hx hb dM_net_227 ?_
              refine lv_goto (tgt := 233) hx hb dM_net_228 (by decide) ?_
              refine lv_lstore (lv' := [(5, .long ((v - ((m.2.2.2 5) (nI k).toNatClampNeg)) + ((m.2.2.2 5) (nI k).toNatClampNeg))), (8, .int (1)), (7, .int (nI k)), (4, .int (-1)), (3, .int (id / (nI (m.1 1)))), (2, .int (0)), (0, .ref (d 0)), (1, .int (id))]) hx hb dM_net_233 hl (by decide) rfl (fun ls hl => ?_)
              refine lv_iinc (v := nI (k + 1)) (lv' := [(7, .int (nI (k + 1))), (5, .long ((v - ((m.2.2.2 5) (nI k).toNatClampNeg)) + ((m.2.2.2 5) (nI k).toNatClampNeg))), (8, .int (1)), (4, .int (-1)), (3, .int (id / (nI (m.1 1)))), (2, .int (0)), (0, .ref (d 0)), (1, .int (id))]) hx hb dM_net_235 hl (k := 2) rfl (nI_add k 1) (by decide) rfl (fun ls hl => ?_)
              refine lv_goto (tgt := 79) hx hb dM_net_238 (by decide) ?_
              exact ih n (k + 1, (v - ((m.2.2.2 5) (nI k).toNatClampNeg)) + ((m.2.2.2 5) (nI k).toNatClampNeg)) ls (by omega) ⟨by omega, by omega, by rw [← hE, f_M_net_l_s, if_neg c_85, if_pos c_127, if_pos c_150, if_pos c_199], lv_sub hl [0, 1, 3, 4, 5, 6, 7] rfl⟩
    · refine lv_iconst (v := 1) hx hb dM_net_23 (by decide) ?_
      refine lv_goto (tgt := 28) hx hb dM_net_24 (by decide) ?_
      refine lv_istore_n (lv' := [(2, .int (1)), (0, .ref (d 0)), (1, .int (id))]) hx hb dM_net_28 rfl hl (by decide) rfl (fun ls hl => ?_)
      refine lv_iload_n hx hb dM_net_29 rfl (lv_at hl 0 rfl) ?_
      refine lv_if_eq (tgt := 46) hx hb dM_net_30 (by decide) (fun c => absurd c (by decide)) (fun _ => ?_)
      refine lv_aload_n hx hb dM_net_33 rfl (lv_at hl 1 rfl) ?_
      refine lv_iload_n hx hb dM_net_34 rfl (lv_at hl 2 rfl) ?_
      refine vp_callSi (W.runV (C := RM) (As := [.int (id)]) (rest := []) ⟨hx, hb, hml, hown, hts⟩ (c_M_pair l D cI cL cQ d κ m hm hB _ id) (cwV 1 hts (k_gV tw_471 tw_473 tw_23 tw_41 tw_474) rfl rfl rfl (by decide +kernel) ⟨Nat.le_of_ble_eq_true rfl, Nat.le_of_ble_eq_true rfl⟩) (kPreV hP hK (q := 0) hm.1 rfl) rfl rfl hl.1 rfl (lv_room (Nat.le_of_ble_eq_true rfl)) dM_net_35 ⟨Nat.le_of_ble_eq_true rfl, Nat.le_of_ble_eq_true rfl⟩) (fun r_35 e_35 => ?_)
      subst e_35
      refine lv_aload_n hx hb dM_net_38 rfl (lv_at hl 1 rfl) ?_
      refine ka_get (ci := 4) (C := RM) (T := TM) (N := 26) hx hb hts inM hown hK hP (q := 0) hm.1 rfl 0 (by decide) (hts _ tw_384) (fun _ h9 => h9) rfl dM_net_39 ?_
      refine lv_idiv hx hb dM_net_42 (nI_ne0 (by omega) (by omega)) ?_
      refine lv_goto (tgt := 52) hx hb dM_net_43 (by decide) ?_
      refine lv_istore_n (lv' := [(3, .int ((f_M_pair m id) / (nI (m.1 0)))), (2, .int (1)), (0, .ref (d 0)), (1, .int (id))]) hx hb dM_net_52 rfl hl (by decide) rfl (fun ls hl => ?_)
      refine lv_iload_n hx hb dM_net_53 rfl (lv_at hl 1 rfl) ?_
      refine lv_if_eq (tgt := 70) hx hb dM_net_54 (by decide) (fun c => absurd c (by decide)) (fun _ => ?_)
      refine lv_aload_n hx hb dM_net_57 rfl (lv_at hl 2 rfl) ?_
      refine lv_iload_n hx hb dM_net_58 rfl (lv_at hl 3 rfl) ?_
      refine vp_callSi (W.runV (C := RM) (As := [.int (id)]) (rest := []) ⟨hx, hb, hml, hown, hts⟩ (c_M_pair l D cI cL cQ d κ m hm hB _ id) (cwV 1 hts (k_gV tw_471 tw_473 tw_23 tw_41 tw_474) rfl rfl rfl (by decide +kernel) ⟨Nat.le_of_ble_eq_true rfl, Nat.le_of_ble_eq_true rfl⟩) (kPreV hP hK (q := 0) hm.1 rfl) rfl rfl hl.1 rfl (lv_room (Nat.le_of_ble_eq_true rfl)) dM_net_59 ⟨Nat.le_of_ble_eq_true rfl, Nat.le_of_ble_eq_true rfl⟩) (fun r_59 e_59 => ?_)
      subst e_59
      refine lv_aload_n hx hb dM_net_62 rfl (lv_at hl 2 rfl) ?_
      refine ka_get (ci := 4) (C := RM) (T := TM) (N := 26) hx hb hts inM hown hK hP (q := 0) hm.1 rfl 0 (by decide) (hts _ tw_384) (fun _ h9 => h9) rfl dM_net_63 ?_
      refine lv_irem hx hb dM_net_66 (nI_ne0 (by omega) (by omega)) ?_
      refine lv_goto (tgt := 71) hx hb dM_net_67 (by decide) ?_
      refine lv_istore (lv' := [(4, .int ((f_M_pair m id) - (f_M_pair m id) / (nI (m.1 0)) * (nI (m.1 0)))), (3, .int ((f_M_pair m id) / (nI (m.1 0)))), (2, .int (1)), (0, .ref (d 0)), (1, .int (id))]) hx hb dM_net_71 hl (by decide) rfl (fun ls hl => ?_)
      refine lv_lconst (v := 0) hx hb dM_net_73 (by decide) ?_
      refine lv_lstore (lv' := [(5, .long (0)), (4, .int ((f_M_pair m id) - (f_M_pair m id) / (nI (m.1 0)) * (nI (m.1 0)))), (3, .int ((f_M_pair m id) / (nI (m.1 0)))), (2, .int (1)), (0, .ref (d 0)), (1, .int (id))]) hx hb dM_net_74 hl (by decide) rfl (fun ls hl => ?_)
      refine lv_iconst (v := 0) hx hb dM_net_76 (by decide) ?_
      refine lv_istore (lv' := [(7, .int (0)), (5, .long (0)), (4, .int ((f_M_pair m id) - (f_M_pair m id) / (nI (m.1 0)) * (nI (m.1 0)))), (3, .int ((f_M_pair m id) / (nI (m.1 0)))), (2, .int (1)), (0, .ref (d 0)), (1, .int (id))]) hx hb dM_net_77 hl (by decide) rfl (fun ls hl => ?_)
      refine k_rec (σ := Nat × Int64) (fun n z9 ls => z9.1 ≤ m.1 7 ∧ m.1 7 < z9.1 + n ∧ f_M_net_l2 m id n z9.1 z9.2 = f_M_net m id ∧ lv_has ls 9 [(7, .int (nI z9.1)), (5, .long z9.2), (4, .int ((f_M_pair m id) - (f_M_pair m id) / (nI (m.1 0)) * (nI (m.1 0)))), (3, .int ((f_M_pair m id) / (nI (m.1 0)))), (2, .int (1)), (0, .ref (d 0)), (1, .int (id))]) (m.1 7 + 1) (0, 0) ⟨by omega, by omega, by rw [f_M_net, if_neg c_5, if_neg c_20], lv_sub hl [0, 1, 2, 3, 4, 5, 6] rfl⟩ ?_
      intro n z9 ls hI ih
      obtain ⟨k, v⟩ := z9
      obtain ⟨hk, hn, hE, hl⟩ := hI
      dsimp only at hk hn hE hl
      obtain ⟨n, rfl⟩ : ∃ q, n = q + 1 := ⟨n - 1, by omega⟩
      refine lv_iload hx hb dM_net_79 (lv_at hl 0 rfl) ?_
      refine lv_aload_n hx hb dM_net_81 rfl (lv_at hl 5 rfl) ?_
      refine ka_get (ci := 4) (C := RM) (T := TM) (N := 26) hx hb hts inM hown hK hP (q := 0) hm.1 rfl 21 (by decide) (hts _ tw_405) (fun _ h9 => h9) rfl dM_net_82 ?_
      refine lv_icmp_ge (tgt := 241) hx hb dM_net_85 (by decide) (fun c_85 => ?_) (fun c_85 => ?_)
      · refine lv_lload hx hb dM_net_241 (lv_at hl 1 rfl) ?_
        exact W.lret (v := v) hx hb hr (fun t ht hW => ⟨_, rfl, by rw [← hE, f_M_net_l2_s, if_pos c_85], ht⟩) (fun q h => by cases h) dM_net_243
      · have hlt : k < m.1 7 := Nat.lt_of_not_le (fun q => c_85 (nI_le q (by omega)))
        refine lv_iload_n hx hb dM_net_88 rfl (lv_at hl 4 rfl) ?_
        refine lv_if_eq (tgt := 114) hx hb dM_net_89 (by decide) (fun c => absurd c (by decide)) (fun _ => ?_)
        refine lv_aload_n hx hb dM_net_92 rfl (lv_at hl 5 rfl) ?_
        refine ka_get (ci := 4) (C := RM) (T := TM) (N := 26) hx hb hts inM hown hK hP (q := 0) hm.1 rfl 24 (by decide) (hts _ tw_408) (fun _ h9 => h9) rfl dM_net_93 ?_
        refine lv_iload hx hb dM_net_96 (lv_at hl 0 rfl) ?_
        refine ka_iald hx hb hK hP 0 (q := 16) hm.2.2.2.2.2.2.2.2.2.2.2.2.2.2.2.2.1 rfl (by first | assumption | exact vp_in_nI (by omega) (by omega)) dM_net_98 ?_
        refine lv_aload_n hx hb dM_net_99 rfl (lv_at hl 5 rfl) ?_
        refine ka_get (ci := 4) (C := RM) (T := TM) (N := 26) hx hb hts inM hown hK hP (q := 0) hm.1 rfl 3 (by decide) (hts _ tw_387) (fun _ h9 => h9) rfl dM_net_100 ?_
        refine lv_icmp_ne (tgt := 110) hx hb dM_net_103 (by decide) (fun c_103 => ?_) (fun c_103 => ?_)
        · refine lv_iconst (v := 0) hx hb dM_net_110 (by decide) ?_
          refine lv_goto (tgt := 135) hx hb dM_net_111 (by decide) ?_
          refine lv_istore (lv' := [(8, .int (0)), (7, .int (nI k)), (5, .long (v)), (4, .int ((f_M_pair m id) - (f_M_pair m id) / (nI (m.1 0)) * (nI (m.1 0)))), (3, .int ((f_M_pair m id) / (nI (m.1 0)))), (2, .int (1)), (0, .ref (d 0)), (1, .int (id))]) hx hb dM_net_135 hl (by decide) rfl (fun ls hl => ?_)
          refine lv_iload hx hb dM_net_137 (lv_at hl 0 rfl) ?_
          refine lv_if_eq (tgt := 182) hx hb dM_net_139 (by decide) (fun _ => ?_) (fun c => absurd c (by decide))
          refine lv_lload hx hb dM_net_182 (lv_at hl 2 rfl) ?_
          refine lv_lstore (lv' := [(5, .long (v)), (8, .int (0)), (7, .int (nI k)), (4, .int ((f_M_pair m id) - (f_M_pair m id) / (nI (m.1 0)) * (nI (m.1 0)))), (3, .int ((f_M_pair m id) / (nI (m.1 0)))), (2, .int (1)), (0, .ref (d 0)), (1, .int (id))]) hx hb dM_net_184 hl (by decide) rfl (fun ls hl => ?_)
          refine lv_iload hx hb dM_net_186 (lv_at hl 1 rfl) ?_
          refine lv_if_eq (tgt := 231) hx hb dM_net_188 (by decide) (fun _ => ?_) (fun c => absurd c (by decide))
          refine lv_lload hx hb dM_net_231 (lv_at hl 0 rfl) ?_
          refine lv_lstore (lv' := [(5, .long (v)), (8, .int (0)), (7, .int (nI k)), (4, .int ((f_M_pair m id) - (f_M_pair m id) / (nI (m.1 0)) * (nI (m.1 0)))), (3, .int ((f_M_pair m id) / (nI (m.1 0)))), (2, .int (1)), (0, .ref (d 0)), (1, .int (id))]) hx hb dM_net_233 hl (by decide) rfl (fun ls hl => ?_)
          refine lv_iinc (v := nI (k + 1)) (lv' := [(7, .int (nI (k + 1))), (5, .long (v)), (8, .int (0)), (4, .int ((f_M_pair m id) - (f_M_pair m id) / (nI (m.1 0)) * (nI (m.1 0)))), (3, .int ((f_M_pair m id) / (nI (m.1 0)))), (2, .int (1)), (0, .ref (d 0)), (1, .int (id))]) hx hb dM_net_235 hl (k := 2) rfl (nI_add k 1) (by decide) rfl (fun ls hl => ?_)
          refine lv_goto (tgt := 79) hx hb dM_net_238 (by decide) ?_
          exact ih n (k + 1, v) ls (by omega) ⟨by omega, by omega, by rw [← hE, f_M_net_l2_s, if_neg c_85, if_neg c_103], lv_sub hl [0, 1, 3, 4, 5, 6, 7] rfl⟩
        · refine lv_iconst (v := 1) hx hb dM_net_106 (by decide) ?_
          refine lv_goto (tgt := 135) hx hb dM_net_107 (by decide) ?_
          refine lv_istore (lv' := [(8, .int (1)), (7, .int (nI k)), (5, .long (v)), (4, .int ((f_M_pair m id) - (f_M_pair m id) / (nI (m.1 0)) * (nI (m.1 0)))), (3, .int ((f_M_pair m id) / (nI (m.1 0)))), (2, .int (1)), (0, .ref (d 0)), (1, .int (id))]) hx hb dM_net_135 hl (by decide) rfl (fun ls hl => ?_)
          refine lv_iload hx hb dM_net_137 (lv_at hl 0 rfl) ?_
          refine lv_if_eq (tgt := 182) hx hb dM_net_139 (by decide) (fun c => absurd c (by decide)) (fun _ => ?_)
          refine lv_aload_n hx hb dM_net_142 rfl (lv_at hl 6 rfl) ?_
          refine ka_get (ci := 4) (C := RM) (T := TM) (N := 26) hx hb hts inM hown hK hP (q := 0) hm.1 rfl 22 (by decide) (hts _ tw_406) (fun _ h9 => h9) rfl dM_net_143 ?_
          refine lv_iload hx hb dM_net_146 (lv_at hl 1 rfl) ?_
          refine ka_iald hx hb hK hP 0 (q := 14) hm.2.2.2.2.2.2.2.2.2.2.2.2.2.2.1 rfl (by first | assumption | exact vp_in_nI (by omega) (by omega)) dM_net_148 ?_
          refine lv_iload_n hx hb dM_net_149 rfl (lv_at hl 4 rfl) ?_
          refine lv_icmp_ne (tgt := 182) hx hb dM_net_150 (by decide) (fun c_150 => ?_) (fun c_150 => ?_)
          · refine lv_lload hx hb dM_net_182 (lv_at hl 2 rfl) ?_
            refine lv_lstore (lv' := [(5, .long (v)), (8, .int (1)), (7, .int (nI k)), (4, .int ((f_M_pair m id) - (f_M_pair m id) / (nI (m.1 0)) * (nI (m.1 0)))), (3, .int ((f_M_pair m id) / (nI (m.1 0)))), (2, .int (1)), (0, .ref (d 0)), (1, .int (id))]) hx hb dM_net_184 hl (by decide) rfl (fun ls hl => ?_)
            refine lv_iload hx hb dM_net_186 (lv_at hl 1 rfl) ?_
            refine lv_if_eq (tgt := 231) hx hb dM_net_188 (by decide) (fun c => absurd c (by decide)) (fun _ => ?_)
            refine lv_aload_n hx hb dM_net_191 rfl (lv_at hl 6 rfl) ?_
            refine ka_get (ci := 4) (C := RM) (T := TM) (N := 26) hx hb hts inM hown hK hP (q := 0) hm.1 rfl 23 (by decide) (hts _ tw_407) (fun _ h9 => h9) rfl dM_net_192 ?_
            refine lv_iload hx hb dM_net_195 (lv_at hl 2 rfl) ?_
            refine ka_iald hx hb hK hP 0 (q := 15) hm.2.2.2.2.2.2.2.2.2.2.2.2.2.2.2.1 rfl (by first | assumption | exact vp_in_nI (by omega) (by omega)) dM_net_197 ?_
            refine lv_iload_n hx hb dM_net_198 rfl (lv_at hl 4 rfl) ?_
            refine lv_icmp_ne (tgt := 231) hx hb dM_net_199 (by decide) (fun c_199 => ?_) (fun c_199 => ?_)
            · refine lv_lload hx hb dM_net_231 (lv_at hl 0 rfl) ?_
              refine lv_lstore (lv' := [(5, .long (v)), (8, .int (1)), (7, .int (nI k)), (4, .int ((f_M_pair m id) - (f_M_pair m id) / (nI (m.1 0)) * (nI (m.1 0)))), (3, .int ((f_M_pair m id) / (nI (m.1 0)))), (2, .int (1)), (0, .ref (d 0)), (1, .int (id))]) hx hb dM_net_233 hl (by decide) rfl (fun ls hl => ?_)
              refine lv_iinc (v := nI (k + 1)) (lv' := [(7, .int (nI (k + 1))), (5, .long (v)), (8, .int (1)), (4, .int ((f_M_pair m id) - (f_M_pair m id) / (nI (m.1 0)) * (nI (m.1 0)))), (3, .int ((f_M_pair m id) / (nI (m.1 0)))), (2, .int (1)), (0, .ref (d 0)), (1, .int (id))]) hx hb dM_net_235 hl (k := 2) rfl (nI_add k 1) (by decide) rfl (fun ls hl => ?_)
              refine lv_goto (tgt := 79) hx hb dM_net_238 (by decide) ?_
              exact ih n (k + 1, v) ls (by omega) ⟨by omega, by omega, by rw [← hE, f_M_net_l2_s, if_neg c_85, if_pos c_103, if_neg c_150, if_neg c_199], lv_sub hl [0, 1, 3, 4, 5, 6, 7] rfl⟩
            · refine lv_iload_n hx hb dM_net_202 rfl (lv_at hl 5 rfl) ?_
              refine lv_if_eq (tgt := 218) hx hb dM_net_203 (by decide) (fun c => absurd c (by decide)) (fun _ => ?_)
              refine lv_aload_n hx hb dM_net_206 rfl (lv_at hl 6 rfl) ?_
              refine ka_get (ci := 4) (C := RM) (T := TM) (N := 26) hx hb hts inM hown hK hP (q := 0) hm.1 rfl 22 (by decide) (hts _ tw_406) (fun _ h9 => h9) rfl dM_net_207 ?_
              refine lv_iload hx hb dM_net_210 (lv_at hl 2 rfl) ?_
              refine ka_iald hx hb hK hP 0 (q := 14) hm.2.2.2.2.2.2.2.2.2.2.2.2.2.2.1 rfl (by first | assumption | exact vp_in_nI (by omega) (by omega)) dM_net_212 ?_
              refine lv_iload hx hb dM_net_213 (lv_at hl 3 rfl) ?_
              refine lv_icmp_ne (tgt := 231) hx hb dM_net_215 (by decide) (fun c_215 => ?_) (fun c_215 => ?_)
              · refine lv_lload hx hb dM_net_231 (lv_at hl 0 rfl) ?_
                refine lv_lstore (lv' := [(5, .long (v)), (8, .int (1)), (7, .int (nI k)), (4, .int ((f_M_pair m id) - (f_M_pair m id) / (nI (m.1 0)) * (nI (m.1 0)))), (3, .int ((f_M_pair m id) / (nI (m.1 0)))), (2, .int (1)), (0, .ref (d 0)), (1, .int (id))]) hx hb dM_net_233 hl (by decide) rfl (fun ls hl => ?_)
                refine lv_iinc (v := nI (k + 1)) (lv' := [(7, .int (nI (k + 1))), (5, .long (v)), (8, .int (1)), (4, .int ((f_M_pair m id) - (f_M_pair m id) / (nI (m.1 0)) * (nI (m.1 0)))), (3, .int ((f_M_pair m id) / (nI (m.1 0)))), (2, .int (1)), (0, .ref (d 0)), (1, .int (id))]) hx hb dM_net_235 hl (k := 2) rfl (nI_add k 1) (by decide) rfl (fun ls hl => ?_)
                refine lv_goto (tgt := 79) hx hb dM_net_238 (by decide) ?_
                exact ih n (k + 1, v) ls (by omega) ⟨by omega, by omega, by rw [← hE, f_M_net_l2_s, if_neg c_85, if_pos c_103, if_neg c_150, if_pos c_199, if_neg c_215], lv_sub hl [0, 1, 3, 4, 5, 6, 7] rfl⟩
              · refine lv_lload hx hb dM_net_218 (lv_at hl 0 rfl) ?_
                refine lv_aload_n hx hb dM_net_220 rfl (lv_at hl 6 rfl) ?_
                refine ka_get (ci := 4) (C := RM) (T := TM) (N := 26) hx hb hts inM hown hK hP (q := 0) hm.1 rfl 25 (by decide) (hts _ tw_409) (fun _ h9 => h9) rfl dM_net_221 ?_
                refine lv_iload hx hb dM_net_224 (lv_at hl 2 rfl) ?_
                refine ka_lald hx hb hK hP 1 (q := 17) hm.2.2.2.2.2.2.2.2.2.2.2.2.2.2.2.2.2 rfl (by first | assumption | exact vp_in_nI (by omega) (by omega)) dM_net_226 ?_
                refine lv_ladd hx hb dM_net_227 ?_
                refine lv_goto (tgt := 233) hx hb dM_net_228 (by decide) ?_
                refine lv_lstore (lv' := [(5, .long (v + ((m.2.2.2 5) (nI k).toNatClampNeg))), (8, .int (1)), (7, .int (nI k)), (4, .int ((f_M_pair m id) - (f_M_pair m id) / (nI (m.1 0)) * (nI (m.1 0)))), (3, .int ((f_M_pair m id) / (nI (m.1 0)))), (2, .int (1)), (0, .ref (d 0)), (1, .int (id))]) hx hb dM_net_233 hl (by decide) rfl (fun ls hl => ?_)
                refine lv_iinc (v := nI (k + 1)) (lv' := [(7, .int (nI (k + 1))), (5, .long (v + ((m.2.2.2 5) (nI k).toNatClampNeg))), (8, .int (1)), (4, .int ((f_M_pair m id) - (f_M_pair m id) / (nI (m.1 0)) * (nI (m.1 0)))), (3, .int ((f_M_pair m id) / (nI (m.1 0)))), (2, .int (1)), (0, .ref (d 0)), (1, .int (id))]) hx hb dM_net_235 hl (k := 2) rfl (nI_add k 1) (by decide) rfl (fun ls hl => ?_)
                refine lv_goto (tgt := 79) hx hb dM_net_238 (by decide) ?_
                exact ih n (k + 1, v + ((m.2.2.2 5) (nI k).toNatClampNeg)) ls (by omega) ⟨by omega, by omega, by rw [← hE, f_M_net_l2_s, if_neg c_85, if_pos c_103, if_neg c_150, if_pos c_199, if_pos c_215], lv_sub hl [0, 1, 3, 4, 5, 6, 7] rfl⟩
          · refine lv_iload_n hx hb dM_net_153 rfl (lv_at hl 5 rfl) ?_
            refine lv_if_eq (tgt := 169) hx hb dM_net_154 (by decide) (fun c => absurd c (by decide)) (fun _ => ?_)
            refine lv_aload_n hx hb dM_net_157 rfl (lv_at hl 6 rfl) ?_
            refine ka_get (ci := 4) (C := RM) (T := TM) (N := 26) hx hb hts inM hown hK hP (q := 0) hm.1 rfl 23 (by decide) (hts _ tw_407) (fun _ h9 => h9) rfl dM_net_158 ?_
            refine lv_iload hx hb dM_net_161 (lv_at hl 1 rfl) ?_
            refine ka_iald hx hb hK hP 0 (q := 15) hm.2.2.2.2.2.2.2.2.2.2.2.2.2.2.2.1 rfl (by first | assumption | exact vp_in_nI (by omega) (by omega)) dM_net_163 ?_
            refine lv_iload hx hb dM_net_164 (lv_at hl 3 rfl) ?_
            refine lv_icmp_ne (tgt := 182) hx hb dM_net_166 (by decide) (fun c_166 => ?_) (fun c_166 => ?_)
            · refine lv_lload hx hb dM_net_182 (lv_at hl 2 rfl) ?_
              refine lv_lstore (lv' := [(5, .long (v)), (8, .int (1)), (7, .int (nI k)), (4, .int ((f_M_pair m id) - (f_M_pair m id) / (nI (m.1 0)) * (nI (m.1 0)))), (3, .int ((f_M_pair m id) / (nI (m.1 0)))), (2, .int (1)), (0, .ref (d 0)), (1, .int (id))]) hx hb dM_net_184 hl (by decide) rfl (fun ls hl => ?_)
              refine lv_iload hx hb dM_net_186 (lv_at hl 1 rfl) ?_
              refine lv_if_eq (tgt := 231) hx hb dM_net_188 (by decide) (fun c => absurd c (by decide)) (fun _ => ?_)
              refine lv_aload_n hx hb dM_net_191 rfl (lv_at hl 6 rfl) ?_
              refine ka_get (ci := 4) (C := RM) (T := TM) (N := 26) hx hb hts inM hown hK hP (q := 0) hm.1 rfl 23 (by decide) (hts _ tw_407) (fun _ h9 => h9) rfl dM_net_192 ?_
              refine lv_iload hx hb dM_net_195 (lv_at hl 2 rfl) ?_
              refine ka_iald hx hb hK hP 0 (q := 15) hm.2.2.2.2.2.2.2.2.2.2.2.2.2.2.2.1 rfl (by first | assumption | exact vp_in_nI (by omega) (by omega)) dM_net_197 ?_
              refine lv_iload_n hx hb dM_net_198 rfl (lv_at hl 4 rfl) ?_
              refine lv_icmp_ne (tgt := 231) hx hb dM_net_199 (by decide) (fun c_199 => ?_) (fun c_199 => ?_)
              · refine lv_lload hx hb dM_net_231 (lv_at hl 0 rfl) ?_
                refine lv_lstore (lv' := [(5, .long (v)), (8, .int (1)), (7, .int (nI k)), (4, .int ((f_M_pair m id) - (f_M_pair m id) / (nI (m.1 0)) * (nI (m.1 0)))), (3, .int ((f_M_pair m id) / (nI (m.1 0)))), (2, .int (1)), (0, .ref (d 0)), (1, .int (id))]) hx hb dM_net_233 hl (by decide) rfl (fun ls hl => ?_)
                refine lv_iinc (v := nI (k + 1)) (lv' := [(7, .int (nI (k + 1))), (5, .long (v)), (8, .int (1)), (4, .int ((f_M_pair m id) - (f_M_pair m id) / (nI (m.1 0)) * (nI (m.1 0)))), (3, .int ((f_M_pair m id) / (nI (m.1 0)))), (2, .int (1)), (0, .ref (d 0)), (1, .int (id))]) hx hb dM_net_235 hl (k := 2) rfl (nI_add k 1) (by decide) rfl (fun ls hl => ?_)
                refine lv_goto (tgt := 79) hx hb dM_net_238 (by decide) ?_
                exact ih n (k + 1, v) ls (by omega) ⟨by omega, by omega, by rw [← hE, f_M_net_l2_s, if_neg c_85, if_pos c_103, if_pos c_150, if_neg c_166, if_neg c_199], lv_sub hl [0, 1, 3, 4, 5, 6, 7] rfl⟩
              · refine lv_iload_n hx hb dM_net_202 rfl (lv_at hl 5 rfl) ?_
                refine lv_if_eq (tgt := 218) hx hb dM_net_203 (by decide) (fun c => absurd c (by decide)) (fun _ => ?_)
                refine lv_aload_n hx hb dM_net_206 rfl (lv_at hl 6 rfl) ?_
                refine ka_get (ci := 4) (C := RM) (T := TM) (N := 26) hx hb hts inM hown hK hP (q := 0) hm.1 rfl 22 (by decide) (hts _ tw_406) (fun _ h9 => h9) rfl dM_net_207 ?_
                refine lv_iload hx hb dM_net_210 (lv_at hl 2 rfl) ?_
                refine ka_iald hx hb hK hP 0 (q := 14) hm.2.2.2.2.2.2.2.2.2.2.2.2.2.2.1 rfl (by first | assumption | exact vp_in_nI (by omega) (by omega)) dM_net_212 ?_
                refine lv_iload hx hb dM_net_213 (lv_at hl 3 rfl) ?_
                refine lv_icmp_ne (tgt := 231) hx hb dM_net_215 (by decide) (fun c_215 => ?_) (fun c_215 => ?_)
                · refine lv_lload hx hb dM_net_231 (lv_at hl 0 rfl) ?_
                  refine lv_lstore (lv' := [(5, .long (v)), (8, .int (1)), (7, .int (nI k)), (4, .int ((f_M_pair m id) - (f_M_pair m id) / (nI (m.1 0)) * (nI (m.1 0)))), (3, .int ((f_M_pair m id) / (nI (m.1 0)))), (2, .int (1)), (0, .ref (d 0)), (1, .int (id))]) hx hb dM_net_233 hl (by decide) rfl (fun ls hl => ?_)
                  refine lv_iinc (v := nI (k + 1)) (lv' := [(7, .int (nI (k + 1))), (5, .long (v)), (8, .int (1)), (4, .int ((f_M_pair m id) - (f_M_pair m id) / (nI (m.1 0)) * (nI (m.1 0)))), (3, .int ((f_M_pair m id) / (nI (m.1 0)))), (2, .int (1)), (0, .ref (d 0)), (1, .int (id))]) hx hb dM_net_235 hl (k := 2) rfl (nI_add k 1) (by decide) rfl (fun ls hl => ?_)
                  refine lv_goto (tgt := 79) hx hb dM_net_238 (by decide) ?_
                  exact ih n (k + 1, v) ls (by omega) ⟨by omega, by omega, by rw [← hE, f_M_net_l2_s, if_neg c_85, if_pos c_103, if_pos c_150, if_neg c_166, if_pos c_199, if_neg c_215], lv_sub hl [0, 1, 3, 4, 5, 6, 7] rfl⟩
                · refine lv_lload hx hb dM_net_218 (lv_at hl 0 rfl) ?_
                  refine lv_aload_n hx hb dM_net_220 rfl (lv_at hl 6 rfl) ?_
                  refine ka_get (ci := 4) (C := RM) (T := TM) (N := 26) hx hb hts inM hown hK hP (q := 0) hm.1 rfl 25 (by decide) (hts _ tw_409) (fun _ h9 => h9) rfl dM_net_221 ?_
                  refine lv_iload hx hb dM_net_224 (lv_at hl 2 rfl) ?_
                  refine ka_lald hx hb hK hP 1 (q := 17) hm.2.2.2.2.2.2.2.2.2.2.2.2.2.2.2.2.2 rfl (by first | assumption | exact vp_in_nI (by omega) (by omega)) dM_net_226 ?_
                  refine lv_ladd hx hb dM_net_227 ?_
                  refine lv_goto (tgt := 233) hx hb dM_net_228 (by decide) ?_
                  refine lv_lstore (lv' := [(5, .long (v + ((m.2.2.2 5) (nI k).toNatClampNeg))), (8, .int (1)), (7, .int (nI k)), (4, .int ((f_M_pair m id) - (f_M_pair m id) / (nI (m.1 0)) * (nI (m.1 0)))), (3, .int ((f_M_pair m id) / (nI (m.1 0)))), (2, .int (1)), (0, .ref (d 0)), (1, .int (id))]) hx hb dM_net_233 hl (by decide) rfl (fun ls hl => ?_)
                  refine lv_iinc (v := nI (k + 1)) (lv' := [(7, .int (nI (k + 1))), (5, .long (v + ((m.2.2.2 5) (nI k).toNatClampNeg))), (8, .int (1)), (4, .int ((f_M_pair m id) - (f_M_pair m id) / (nI (m.1 0)) * (nI (m.1 0)))), (3, .int ((f_M_pair m id) / (nI (m.1 0)))), (2, .int (1)), (0, .ref (d 0)), (1, .int (id))]) hx hb dM_net_235 hl (k := 2) rfl (nI_add k 1) (by decide) rfl (fun ls hl => ?_)
                  refine lv_goto (tgt := 79) hx hb dM_net_238 (by decide) ?_
                  exact ih n (k + 1, v + ((m.2.2.2 5) (nI k).toNatClampNeg)) ls (by omega) ⟨by omega, by omega, by rw [← hE, f_M_net_l2_s, if_neg c_85, if_pos c_103, if_pos c_150, if_neg c_166, if_pos c_199, if_pos c_215], lv_sub hl [0, 1, 3, 4, 5, 6, 7] rfl⟩
            · refine lv_lload hx hb dM_net_169 (lv_at hl 2 rfl) ?_
              refine lv_aload_n hx hb dM_net_171 rfl (lv_at hl 6 rfl) ?_
              refine ka_get (ci := 4) (C := RM) (T := TM) (N := 26) hx hb hts inM hown hK hP (q := 0) hm.1 rfl 25 (by decide) (hts _ tw_409) (fun _ h9 => h9) rfl dM_net_172 ?_
              refine lv_iload hx hb dM_net_175 (lv_at hl 1 rfl) ?_
              refine ka_lald hx hb hK hP 1 (q := 17) hm.2.2.2.2.2.2.2.2.2.2.2.2.2.2.2.2.2 rfl (by first | assumption | exact vp_in_nI (by omega) (by omega)) dM_net_177 ?_
              refine lv_lsub hx hb dM_net_178 ?_
              refine lv_goto (tgt := 184) hx hb dM_net_179 (by decide) ?_
              refine lv_lstore (lv' := [(5, .long (v - ((m.2.2.2 5) (nI k).toNatClampNeg))), (8, .int (1)), (7, .int (nI k)), (4, .int ((f_M_pair m id) - (f_M_pair m id) / (nI (m.1 0)) * (nI (m.1 0)))), (3, .int ((f_M_pair m id) / (nI (m.1 0)))), (2, .int (1)), (0, .ref (d 0)), (1, .int (id))]) hx hb dM_net_184 hl (by decide) rfl (fun ls hl => ?_)
              refine lv_iload hx hb dM_net_186 (lv_at hl 1 rfl) ?_
              refine lv_if_eq (tgt := 231) hx hb dM_net_188 (by decide) (fun c => absurd c (by decide)) (fun _ => ?_)
              refine lv_aload_n hx hb dM_net_191 rfl (lv_at hl 6 rfl) ?_
              refine ka_get (ci := 4) (C := RM) (T := TM) (N := 26) hx hb hts inM hown hK hP (q := 0) hm.1 rfl 23 (by decide) (hts _ tw_407) (fun _ h9 => h9) rfl dM_net_192 ?_
              refine lv_iload hx hb dM_net_195 (lv_at hl 2 rfl) ?_
              refine ka_iald hx hb hK hP 0 (q := 15) hm.2.2.2.2.2.2.2.2.2.2.2.2.2.2.2.1 rfl (by first | assumption | exact vp_in_nI (by omega) (by omega)) dM_net_197 ?_
              refine lv_iload_n hx hb dM_net_198 rfl (lv_at hl 4 rfl) ?_
              refine lv_icmp_ne (tgt := 231) hx hb dM_net_199 (by decide) (fun c_199 => ?_) (fun c_199 => ?_)
              · refine lv_lload hx hb dM_net_231 (lv_at hl 0 rfl) ?_
                refine lv_lstore (lv' := [(5, .long (v - ((m.2.2.2 5) (nI k).toNatClampNeg))), (8, .int (1)), (7, .int (nI k)), (4, .int ((f_M_pair m id) - (f_M_pair m id) / (nI (m.1 0)) * (nI (m.1 0)))), (3, .int ((f_M_pair m id) / (nI (m.1 0)))), (2, .int (1)), (0, .ref (d 0)), (1, .int (id))]) hx hb dM_net_233 hl (by decide) rfl (fun ls hl => ?_)
                refine lv_iinc (v := nI (k + 1)) (lv' := [(7, .int (nI (k + 1))), (5, .long (v - ((m.2.2.2 5) (nI k).toNatClampNeg))), (8, .int (1)), (4, .int ((f_M_pair m id) - (f_M_pair m id) / (nI (m.1 0)) * (nI (m.1 0)))), (3, .int ((f_M_pair m id) / (nI (m.1 0)))), (2, .int (1)), (0, .ref (d 0)), (1, .int (id))]) hx hb dM_net_235 hl (k := 2) rfl (nI_add k 1) (by decide) rfl (fun ls hl => ?_)
                refine lv_goto (tgt := 79) hx hb dM_net_238 (by decide) ?_
                exact ih n (k + 1, v - ((m.2.2.2 5) (nI k).toNatClampNeg)) ls (by omega) ⟨by omega, by omega, by rw [← hE, f_M_net_l2_s, if_neg c_85, if_pos c_103, if_pos c_150, if_pos c_166, if_neg c_199], lv_sub hl [0, 1, 3, 4, 5, 6, 7] rfl⟩
              · refine lv_iload_n hx hb dM_net_202 rfl (lv_at hl 5 rfl) ?_
                refine lv_if_eq (tgt := 218) hx hb dM_net_203 (by decide) (fun c => absurd c (by decide)) (fun _ => ?_)
                refine lv_aload_n hx hb dM_net_206 rfl (lv_at hl 6 rfl) ?_
                refine ka_get (ci := 4) (C := RM) (T := TM) (N := 26) hx hb hts inM hown hK hP (q := 0) hm.1 rfl 22 (by decide) (hts _ tw_406) (fun _ h9 => h9) rfl dM_net_207 ?_
                refine lv_iload hx hb dM_net_210 (lv_at hl 2 rfl) ?_
                refine ka_iald hx hb hK hP 0 (q := 14) hm.2.2.2.2.2.2.2.2.2.2.2.2.2.2.1 rfl (by first | assumption | exact vp_in_nI (by omega) (by omega)) dM_net_212 ?_
                refine lv_iload hx hb dM_net_213 (lv_at hl 3 rfl) ?_
                refine lv_icmp_ne (tgt := 231) hx hb dM_net_215 (by decide) (fun c_215 => ?_) (fun c_215 => ?_)
                · refine lv_lload hx hb dM_net_231 (lv_at hl 0 rfl) ?_
                  refine lv_lstore (lv' := [(5, .long (v - ((m.2.2.2 5) (nI k).toNatClampNeg))), (8, .int (1)), (7, .int (nI k)), (4, .int ((f_M_pair m id) - (f_M_pair m id) / (nI (m.1 0)) * (nI (m.1 0)))), (3, .int ((f_M_pair m id) / (nI (m.1 0)))), (2, .int (1)), (0, .ref (d 0)), (1, .int (id))]) hx hb dM_net_233 hl (by decide) rfl (fun ls hl => ?_)
                  refine lv_iinc (v := nI (k + 1)) (lv' := [(7, .int (nI (k + 1))), (5, .long (v - ((m.2.2.2 5) (nI k).toNatClampNeg))), (8, .int (1)), (4, .int ((f_M_pair m id) - (f_M_pair m id) / (nI (m.1 0)) * (nI (m.1 0)))), (3, .int ((f_M_pair m id) / (nI (m.1 0)))), (2, .int (1)), (0, .ref (d 0)), (1, .int (id))]) hx hb dM_net_235 hl (k := 2) rfl (nI_add k 1) (by decide) rfl (fun ls hl => ?_)
                  refine lv_goto (tgt := 79) hx hb dM_net_238 (by decide) ?_
                  exact ih n (k + 1, v - ((m.2.2.2 5) (nI k).toNatClampNeg)) ls (by omega) ⟨by omega, by omega, by rw [← hE, f_M_net_l2_s, if_neg c_85, if_pos c_103, if_pos c_150, if_pos c_166, if_pos c_199, if_neg c_215], lv_sub hl [0, 1, 3, 4, 5, 6, 7] rfl⟩
                · refine lv_lload hx hb dM_net_218 (lv_at hl 0 rfl) ?_
                  refine lv_aload_n hx hb dM_net_220 rfl (lv_at hl 6 rfl) ?_
                  refine ka_get (ci := 4) (C := RM) (T := TM) (N := 26) hx hb hts inM hown hK hP (q := 0) hm.1 rfl 25 (by decide) (hts _ tw_409) (fun _ h9 => h9) rfl dM_net_221 ?_
                  refine lv_iload hx hb dM_net_224 (lv_at hl 2 rfl) ?_
                  refine ka_lald hx hb hK hP 1 (q := 17) hm.2.2.2.2.2.2.2.2.2.2.2.2.2.2.2.2.2 rfl (by first | assumption | exact vp_in_nI (by omega) (by omega)) dM_net_226 ?_
                  refine lv_ladd hx hb dM_net_227 ?_
                  refine lv_goto (tgt := 233) hx hb dM_net_228 (by decide) ?_
                  refine lv_lstore (lv' := [(5, .long ((v - ((m.2.2.2 5) (nI k).toNatClampNeg)) + ((m.2.2.2 5) (nI k).toNatClampNeg))), (8, .int (1)), (7, .int (nI k)), (4, .int ((f_M_pair m id) - (f_M_pair m id) / (nI (m.1 0)) * (nI (m.1 0)))), (3, .int ((f_M_pair m id) / (nI (m.1 0)))), (2, .int (1)), (0, .ref (d 0)), (1, .int (id))]) hx hb dM_net_233 hl (by decide) rfl (fun ls hl => ?_)
                  refine lv_iinc (v := nI (k + 1)) (lv' := [(7, .int (nI (k + 1))), (5, .long ((v - ((m.2.2.2 5) (nI k).toNatClampNeg)) + ((m.2.2.2 5) (nI k).toNatClampNeg))), (8, .int (1)), (4, .int ((f_M_pair m id) - (f_M_pair m id) / (nI (m.1 0)) * (nI (m.1 0)))), (3, .int ((f_M_pair m id) / (nI (m.1 0)))), (2, .int (1)), (0, .ref (d 0)), (1, .int (id))]) hx hb dM_net_235 hl (k := 2) rfl (nI_add k 1) (by decide) rfl (fun ls hl => ?_)
                  refine lv_goto (tgt := 79) hx hb dM_net_238 (by decide) ?_
                  exact ih n (k + 1, (v - ((m.2.2.2 5) (nI k).toNatClampNeg)) + ((m.2.2.2 5) (nI k).toNatClampNeg)) ls (by omega) ⟨by omega, by omega, by rw [← hE, f_M_net_l2_s, if_neg c_85, if_pos c_103, if_pos c_150, if_pos c_166, if_pos c_199, if_pos c_215], lv_sub hl [0, 1, 3, 4, 5, 6, 7] rfl⟩
  · refine lv_lconst (v := 0) hx hb dM_net_8 (by decide) ?_
    exact W.lret (v := 0) hx hb hr (fun t ht hW => ⟨_, rfl, by rw [f_M_net, if_pos c_5], ht⟩) (fun q h => by cases h) dM_net_9

theorem dM_value_0 : decode prog_6_method_36_code 0 = .ok (.aload_n 0, 1) := by decide +kernel
theorem dM_value_1 : decode prog_6_method_36_code 1 = .ok (.iload_n 1, 1) := by decide +kernel
theorem dM_value_2 : decode prog_6_method_36_code 2 = .ok (.invokevirtual 163, 3) := by decide +kernel
theorem dM_value_5 : decode prog_6_method_36_code 5 = .ok (.ifCond .ne 5, 3) := by decide +kernel
theorem dM_value_8 : decode prog_6_method_36_code 8 = .ok (.lconst 0, 1) := by decide +kernel
theorem dM_value_9 : decode prog_6_method_36_code 9 = .ok (.lreturn, 1) := by decide +kernel
theorem dM_value_10 : decode prog_6_method_36_code 10 = .ok (.iload_n 1, 1) := by decide +kernel
theorem dM_value_11 : decode prog_6_method_36_code 11 = .ok (.aload_n 0, 1) := by decide +kernel
theorem dM_value_12 : decode prog_6_method_36_code 12 = .ok (.getfield 66, 3) := by decide +kernel
theorem dM_value_15 : decode prog_6_method_36_code 15 = .ok (.aload_n 0, 1) := by decide +kernel
theorem dM_value_16 : decode prog_6_method_36_code 16 = .ok (.getfield 69, 3) := by decide +kernel
theorem dM_value_19 : decode prog_6_method_36_code 19 = .ok (.imul, 1) := by decide +kernel
theorem dM_value_20 : decode prog_6_method_36_code 20 = .ok (.if_icmp .ge 20, 3) := by decide +kernel
theorem dM_value_23 : decode prog_6_method_36_code 23 = .ok (.aload_n 0, 1) := by decide +kernel
theorem dM_value_24 : decode prog_6_method_36_code 24 = .ok (.iload_n 1, 1) := by decide +kernel
theorem dM_value_25 : decode prog_6_method_36_code 25 = .ok (.aload_n 0, 1) := by decide +kernel
theorem dM_value_26 : decode prog_6_method_36_code 26 = .ok (.getfield 69, 3) := by decide +kernel
theorem dM_value_29 : decode prog_6_method_36_code 29 = .ok (.idiv, 1) := by decide +kernel
theorem dM_value_30 : decode prog_6_method_36_code 30 = .ok (.iload_n 1, 1) := by decide +kernel
theorem dM_value_31 : decode prog_6_method_36_code 31 = .ok (.aload_n 0, 1) := by decide +kernel
theorem dM_value_32 : decode prog_6_method_36_code 32 = .ok (.getfield 69, 3) := by decide +kernel
theorem dM_value_35 : decode prog_6_method_36_code 35 = .ok (.irem, 1) := by decide +kernel
theorem dM_value_36 : decode prog_6_method_36_code 36 = .ok (.invokevirtual 102, 3) := by decide +kernel
theorem dM_value_39 : decode prog_6_method_36_code 39 = .ok (.lreturn, 1) := by decide +kernel
theorem dM_value_40 : decode prog_6_method_36_code 40 = .ok (.aload_n 0, 1) := by decide +kernel
theorem dM_value_41 : decode prog_6_method_36_code 41 = .ok (.iload_n 1, 1) := by decide +kernel
theorem dM_value_42 : decode prog_6_method_36_code 42 = .ok (.invokevirtual 112, 3) := by decide +kernel
theorem dM_value_45 : decode prog_6_method_36_code 45 = .ok (.aload_n 0, 1) := by decide +kernel
theorem dM_value_46 : decode prog_6_method_36_code 46 = .ok (.getfield 66, 3) := by decide +kernel
theorem dM_value_49 : decode prog_6_method_36_code 49 = .ok (.idiv, 1) := by decide +kernel
theorem dM_value_50 : decode prog_6_method_36_code 50 = .ok (.istore_n 2, 1) := by decide +kernel
theorem dM_value_51 : decode prog_6_method_36_code 51 = .ok (.aload_n 0, 1) := by decide +kernel
theorem dM_value_52 : decode prog_6_method_36_code 52 = .ok (.iload_n 1, 1) := by decide +kernel
theorem dM_value_53 : decode prog_6_method_36_code 53 = .ok (.invokevirtual 112, 3) := by decide +kernel
theorem dM_value_56 : decode prog_6_method_36_code 56 = .ok (.aload_n 0, 1) := by decide +kernel
theorem dM_value_57 : decode prog_6_method_36_code 57 = .ok (.getfield 66, 3) := by decide +kernel
theorem dM_value_60 : decode prog_6_method_36_code 60 = .ok (.irem, 1) := by decide +kernel
theorem dM_value_61 : decode prog_6_method_36_code 61 = .ok (.istore_n 3, 1) := by decide +kernel
theorem dM_value_62 : decode prog_6_method_36_code 62 = .ok (.aload_n 0, 1) := by decide +kernel
theorem dM_value_63 : decode prog_6_method_36_code 63 = .ok (.getfield 51, 3) := by decide +kernel
theorem dM_value_66 : decode prog_6_method_36_code 66 = .ok (.aload_n 0, 1) := by decide +kernel
theorem dM_value_67 : decode prog_6_method_36_code 67 = .ok (.iload_n 2, 1) := by decide +kernel
theorem dM_value_68 : decode prog_6_method_36_code 68 = .ok (.iload_n 3, 1) := by decide +kernel
theorem dM_value_69 : decode prog_6_method_36_code 69 = .ok (.invokevirtual 116, 3) := by decide +kernel
theorem dM_value_72 : decode prog_6_method_36_code 72 = .ok (.laload, 1) := by decide +kernel
theorem dM_value_73 : decode prog_6_method_36_code 73 = .ok (.aload_n 0, 1) := by decide +kernel
theorem dM_value_74 : decode prog_6_method_36_code 74 = .ok (.iload_n 2, 1) := by decide +kernel
theorem dM_value_75 : decode prog_6_method_36_code 75 = .ok (.iload_n 3, 1) := by decide +kernel
theorem dM_value_76 : decode prog_6_method_36_code 76 = .ok (.invokevirtual 157, 3) := by decide +kernel
theorem dM_value_79 : decode prog_6_method_36_code 79 = .ok (.lsub, 1) := by decide +kernel
theorem dM_value_80 : decode prog_6_method_36_code 80 = .ok (.lreturn, 1) := by decide +kernel
def f_M_value (m : MS) (id : Int32) : Int64 := if (f_M_isThere m id) = 0 then 0 else (if ((nI (m.1 0)) * (nI (m.1 1))) ≤ id then (((m.2.2.2 4) (f_M_limitAt m ((f_M_pair m id) / (nI (m.1 0))) ((f_M_pair m id) - (f_M_pair m id) / (nI (m.1 0)) * (nI (m.1 0)))).toNatClampNeg) - (f_M_netPaid m ((f_M_pair m id) / (nI (m.1 0))) ((f_M_pair m id) - (f_M_pair m id) / (nI (m.1 0)) * (nI (m.1 0))))) else (f_M_position m (id / (nI (m.1 1))) (id - id / (nI (m.1 1)) * (nI (m.1 1)))))
set_option maxHeartbeats 4000000 in
set_option maxRecDepth 100000 in
theorem c_M_value (l : Launch) (D : va_G) (cI cL cQ : ClassId) (d : Nat → Nat) (κ : Nat → Option va_E) (m : MS) (hm : IsM cI cL d κ m) (hB : MB m) (sz : Nat) (id : Int32)  : Met l yM_value wM_value { frames := 3, cells := 0, slots := 0, locals := 66 } (va_Pc [.ref (d 0), .int (id)] (kC D vCl (kT cI cL cQ) d κ sz)) (vp_Sl (fun r => r = f_M_value m id)) 0 0 (fun _ => False) := by
  refine kMet (by decide) (Nat.le_of_ble_eq_true rfl) ?_
  intro p0 e0 s0 m0 below0 meth0 c0 hx hb hr hml hown hlocks hin hts hsz hP hK ls hl
  have hl : lv_has ls 4 [(0, .ref (d 0)), (1, .int (id))] := hl
  have hB9 := hB
  obtain ⟨hb0, hb1, hb2, hb3, hb4, hb5, hb6, hb7, hb8, hb9, hb10⟩ := hB9
  refine lv_aload_n hx hb dM_value_0 rfl (lv_at hl 0 rfl) ?_
  refine lv_iload_n hx hb dM_value_1 rfl (lv_at hl 1 rfl) ?_
  refine vp_callSi (W.runV (C := RM) (As := [.int (id)]) (rest := []) ⟨hx, hb, hml, hown, hts⟩ (c_M_isThere l D cI cL cQ d κ m hm hB _ id) (cwV 1 hts (k_gV tw_590 tw_464 tw_465 tw_41 tw_466) rfl rfl rfl (by decide +kernel) ⟨Nat.le_of_ble_eq_true rfl, Nat.le_of_ble_eq_true rfl⟩) (kPreV hP hK (q := 0) hm.1 rfl) rfl rfl hl.1 rfl (lv_room (Nat.le_of_ble_eq_true rfl)) dM_value_2 ⟨Nat.le_of_ble_eq_true rfl, Nat.le_of_ble_eq_true rfl⟩) (fun r_2 e_2 => ?_)
  subst e_2
  refine lv_if_ne (tgt := 10) hx hb dM_value_5 (by decide) (fun c_5 => ?_) (fun c_5 => ?_)
  · refine lv_iload_n hx hb dM_value_10 rfl (lv_at hl 1 rfl) ?_
    refine lv_aload_n hx hb dM_value_11 rfl (lv_at hl 0 rfl) ?_
    refine ka_get (ci := 4) (C := RM) (T := TM) (N := 26) hx hb hts inM hown hK hP (q := 0) hm.1 rfl 0 (by decide) (hts _ tw_384) (fun _ h9 => h9) rfl dM_value_12 ?_
    refine lv_aload_n hx hb dM_value_15 rfl (lv_at hl 0 rfl) ?_
    refine ka_get (ci := 4) (C := RM) (T := TM) (N := 26) hx hb hts inM hown hK hP (q := 0) hm.1 rfl 1 (by decide) (hts _ tw_385) (fun _ h9 => h9) rfl dM_value_16 ?_
    refine lv_imul hx hb dM_value_19 ?_
    refine lv_icmp_ge (tgt := 40) hx hb dM_value_20 (by decide) (fun c_20 => ?_) (fun c_20 => ?_)
    · refine lv_aload_n hx hb dM_value_40 rfl (lv_at hl 0 rfl) ?_
      refine lv_iload_n hx hb dM_value_41 rfl (lv_at hl 1 rfl) ?_
      refine vp_callSi (W.runV (C := RM) (As := [.int (id)]) (rest := []) ⟨hx, hb, hml, hown, hts⟩ (c_M_pair l D cI cL cQ d κ m hm hB _ id) (cwV 1 hts (k_gV tw_471 tw_473 tw_23 tw_41 tw_474) rfl rfl rfl (by decide +kernel) ⟨Nat.le_of_ble_eq_true rfl, Nat.le_of_ble_eq_true rfl⟩) (kPreV hP hK (q := 0) hm.1 rfl) rfl rfl hl.1 rfl (lv_room (Nat.le_of_ble_eq_true rfl)) dM_value_42 ⟨Nat.le_of_ble_eq_true rfl, Nat.le_of_ble_eq_true rfl⟩) (fun r_42 e_42 => ?_)
      subst e_42
      refine lv_aload_n hx hb dM_value_45 rfl (lv_at hl 0 rfl) ?_
      refine ka_get (ci := 4) (C := RM) (T := TM) (N := 26) hx hb hts inM hown hK hP (q := 0) hm.1 rfl 0 (by decide) (hts _ tw_384) (fun _ h9 => h9) rfl dM_value_46 ?_
      refine lv_idiv hx hb dM_value_49 (nI_ne0 (by omega) (by omega)) ?_
      refine lv_istore_n (lv' := [(2, .int ((f_M_pair m id) / (nI (m.1 0)))), (0, .ref (d 0)), (1, .int (id))]) hx hb dM_value_50 rfl hl (by decide) rfl (fun ls hl => ?_)
      refine lv_aload_n hx hb dM_value_51 rfl (lv_at hl 1 rfl) ?_
      refine lv_iload_n hx hb dM_value_52 rfl (lv_at hl 2 rfl) ?_
      refine vp_callSi (W.runV (C := RM) (As := [.int (id)]) (rest := []) ⟨hx, hb, hml, hown, hts⟩ (c_M_pair l D cI cL cQ d κ m hm hB _ id) (cwV 1 hts (k_gV tw_471 tw_473 tw_23 tw_41 tw_474) rfl rfl rfl (by decide +kernel) ⟨Nat.le_of_ble_eq_true rfl, Nat.le_of_ble_eq_true rfl⟩) (kPreV hP hK (q := 0) hm.1 rfl) rfl rfl hl.1 rfl (lv_room (Nat.le_of_ble_eq_true rfl)) dM_value_53 ⟨Nat.le_of_ble_eq_true rfl, Nat.le_of_ble_eq_true rfl⟩) (fun r_53 e_53 => ?_)
      subst e_53
      refine lv_aload_n hx hb dM_value_56 rfl (lv_at hl 1 rfl) ?_
      refine ka_get (ci := 4) (C := RM) (T := TM) (N := 26) hx hb hts inM hown hK hP (q := 0) hm.1 rfl 0 (by decide) (hts _ tw_384) (fun _ h9 => h9) rfl dM_value_57 ?_
      refine lv_irem hx hb dM_value_60 (nI_ne0 (by omega) (by omega)) ?_
      refine lv_istore_n (lv' := [(3, .int ((f_M_pair m id) - (f_M_pair m id) / (nI (m.1 0)) * (nI (m.1 0)))), (2, .int ((f_M_pair m id) / (nI (m.1 0)))), (0, .ref (d 0)), (1, .int (id))]) hx hb dM_value_61 rfl hl (by decide) rfl (fun ls hl => ?_)
      refine lv_aload_n hx hb dM_value_62 rfl (lv_at hl 2 rfl) ?_
      refine ka_get (ci := 4) (C := RM) (T := TM) (N := 26) hx hb hts inM hown hK hP (q := 0) hm.1 rfl 20 (by decide) (hts _ tw_404) (fun _ h9 => h9) rfl dM_value_63 ?_
      refine lv_aload_n hx hb dM_value_66 rfl (lv_at hl 2 rfl) ?_
      refine lv_iload_n hx hb dM_value_67 rfl (lv_at hl 1 rfl) ?_
      refine lv_iload_n hx hb dM_value_68 rfl (lv_at hl 0 rfl) ?_
      refine vp_callSi (W.runV (C := RM) (As := [.int ((f_M_pair m id) / (nI (m.1 0))), .int ((f_M_pair m id) - (f_M_pair m id) / (nI (m.1 0)) * (nI (m.1 0)))]) (rest := [.ref (d 13)]) ⟨hx, hb, hml, hown, hts⟩ (c_M_limitAt l D cI cL cQ d κ m hm hB _ ((f_M_pair m id) / (nI (m.1 0))) ((f_M_pair m id) - (f_M_pair m id) / (nI (m.1 0)) * (nI (m.1 0)))) (cwV 2 hts (k_gV tw_475 tw_477 tw_24 tw_41 tw_478) rfl rfl rfl (by decide +kernel) ⟨Nat.le_of_ble_eq_true rfl, Nat.le_of_ble_eq_true rfl⟩) (kPreV hP hK (q := 0) hm.1 rfl) rfl rfl hl.1 rfl (lv_room (Nat.le_of_ble_eq_true rfl)) dM_value_69 ⟨Nat.le_of_ble_eq_true rfl, Nat.le_of_ble_eq_true rfl⟩) (fun r_69 e_69 => ?_)
      subst e_69
      refine ka_lald hx hb hK hP 1 (q := 13) hm.2.2.2.2.2.2.2.2.2.2.2.2.2.1 rfl (limitAt_41 hB (isThere_room (by assumption) (Int32.not_lt.mpr (by assumption)))) dM_value_72 ?_
      refine lv_aload_n hx hb dM_value_73 rfl (lv_at hl 2 rfl) ?_
      refine lv_iload_n hx hb dM_value_74 rfl (lv_at hl 1 rfl) ?_
      refine lv_iload_n hx hb dM_value_75 rfl (lv_at hl 0 rfl) ?_
      refine vp_callSl (W.runV (C := RM) (As := [.int ((f_M_pair m id) / (nI (m.1 0))), .int ((f_M_pair m id) - (f_M_pair m id) / (nI (m.1 0)) * (nI (m.1 0)))]) (rest := [.long ((m.2.2.2 4) (f_M_limitAt m ((f_M_pair m id) / (nI (m.1 0))) ((f_M_pair m id) - (f_M_pair m id) / (nI (m.1 0)) * (nI (m.1 0)))).toNatClampNeg)]) ⟨hx, hb, hml, hown, hts⟩ (c_M_netPaid l D cI cL cQ d κ m hm hB _ ((f_M_pair m id) / (nI (m.1 0))) ((f_M_pair m id) - (f_M_pair m id) / (nI (m.1 0)) * (nI (m.1 0)))) (cwV 2 hts (k_gV tw_566 tw_568 tw_35 tw_41 tw_569) rfl rfl rfl (by decide +kernel) ⟨Nat.le_of_ble_eq_true rfl, Nat.le_of_ble_eq_true rfl⟩) (kPreV hP hK (q := 0) hm.1 rfl) rfl rfl hl.1 rfl (lv_room (Nat.le_of_ble_eq_true rfl)) dM_value_76 ⟨Nat.le_of_ble_eq_true rfl, Nat.le_of_ble_eq_true rfl⟩) (fun r_76 e_76 => ?_)
      subst e_76
      refine lv_lsub hx hb dM_value_79 ?_
      exact W.lret (v := ((m.2.2.2 4) (f_M_limitAt m ((f_M_pair m id) / (nI (m.1 0))) ((f_M_pair m id) - (f_M_pair m id) / (nI (m.1 0)) * (nI (m.1 0)))).toNatClampNeg) - (f_M_netPaid m ((f_M_pair m id) / (nI (m.1 0))) ((f_M_pair m id) - (f_M_pair m id) / (nI (m.1 0)) * (nI (m.1 0))))) hx hb hr (fun t ht hW => ⟨_, rfl, by rw [f_M_value, if_neg c_5, if_pos c_20], ht⟩) (fun q h => by cases h) dM_value_80
    · refine lv_aload_n hx hb dM_value_23 rfl (lv_at hl 0 rfl) ?_
      refine lv_iload_n hx hb dM_value_24 rfl (lv_at hl 1 rfl) ?_
      refine lv_aload_n hx hb dM_value_25 rfl (lv_at hl 0 rfl) ?_
      refine ka_get (ci := 4) (C := RM) (T := TM) (N := 26) hx hb hts inM hown hK hP (q := 0) hm.1 rfl 1 (by decide) (hts _ tw_385) (fun _ h9 => h9) rfl dM_value_26 ?_
      refine lv_idiv hx hb dM_value_29 (nI_ne0 (by omega) (by omega)) ?_
      refine lv_iload_n hx hb dM_value_30 rfl (lv_at hl 1 rfl) ?_
      refine lv_aload_n hx hb dM_value_31 rfl (lv_at hl 0 rfl) ?_
      refine ka_get (ci := 4) (C := RM) (T := TM) (N := 26) hx hb hts inM hown hK hP (q := 0) hm.1 rfl 1 (by decide) (hts _ tw_385) (fun _ h9 => h9) rfl dM_value_32 ?_
      refine lv_irem hx hb dM_value_35 (nI_ne0 (by omega) (by omega)) ?_
      refine vp_callSl (W.runV (C := RM) (As := [.int (id / (nI (m.1 1))), .int (id - id / (nI (m.1 1)) * (nI (m.1 1)))]) (rest := []) ⟨hx, hb, hml, hown, hts⟩ (c_M_position l D cI cL cQ d κ m hm hB _ (id / (nI (m.1 1))) (id - id / (nI (m.1 1)) * (nI (m.1 1)))) (cwV 2 hts (k_gV tw_503 tw_505 tw_27 tw_41 tw_506) rfl rfl rfl (by decide +kernel) ⟨Nat.le_of_ble_eq_true rfl, Nat.le_of_ble_eq_true rfl⟩) (kPreV hP hK (q := 0) hm.1 rfl) rfl rfl hl.1 rfl (lv_room (Nat.le_of_ble_eq_true rfl)) dM_value_36 ⟨Nat.le_of_ble_eq_true rfl, Nat.le_of_ble_eq_true rfl⟩) (fun r_36 e_36 => ?_)
      subst e_36
      exact W.lret (v := f_M_position m (id / (nI (m.1 1))) (id - id / (nI (m.1 1)) * (nI (m.1 1)))) hx hb hr (fun t ht hW => ⟨_, rfl, by rw [f_M_value, if_neg c_5, if_neg c_20], ht⟩) (fun q h => by cases h) dM_value_39
  · refine lv_lconst (v := 0) hx hb dM_value_8 (by decide) ?_
    exact W.lret (v := 0) hx hb hr (fun t ht hW => ⟨_, rfl, by rw [f_M_value, if_pos c_5], ht⟩) (fun q h => by cases h) dM_value_9

theorem dM_floor_0 : decode prog_6_method_37_code 0 = .ok (.aload_n 0, 1) := by decide +kernel
theorem dM_floor_1 : decode prog_6_method_37_code 1 = .ok (.iload_n 1, 1) := by decide +kernel
theorem dM_floor_2 : decode prog_6_method_37_code 2 = .ok (.invokevirtual 163, 3) := by decide +kernel
theorem dM_floor_5 : decode prog_6_method_37_code 5 = .ok (.ifCond .eq 16, 3) := by decide +kernel
theorem dM_floor_8 : decode prog_6_method_37_code 8 = .ok (.iload_n 1, 1) := by decide +kernel
theorem dM_floor_9 : decode prog_6_method_37_code 9 = .ok (.aload_n 0, 1) := by decide +kernel
theorem dM_floor_10 : decode prog_6_method_37_code 10 = .ok (.getfield 66, 3) := by decide +kernel
theorem dM_floor_13 : decode prog_6_method_37_code 13 = .ok (.aload_n 0, 1) := by decide +kernel
theorem dM_floor_14 : decode prog_6_method_37_code 14 = .ok (.getfield 69, 3) := by decide +kernel
theorem dM_floor_17 : decode prog_6_method_37_code 17 = .ok (.imul, 1) := by decide +kernel
theorem dM_floor_18 : decode prog_6_method_37_code 18 = .ok (.if_icmp .lt 7, 3) := by decide +kernel
theorem dM_floor_21 : decode prog_6_method_37_code 21 = .ok (.lconst 0, 1) := by decide +kernel
theorem dM_floor_22 : decode prog_6_method_37_code 22 = .ok (.goto 19, 3) := by decide +kernel
theorem dM_floor_25 : decode prog_6_method_37_code 25 = .ok (.aload_n 0, 1) := by decide +kernel
theorem dM_floor_26 : decode prog_6_method_37_code 26 = .ok (.iload_n 1, 1) := by decide +kernel
theorem dM_floor_27 : decode prog_6_method_37_code 27 = .ok (.aload_n 0, 1) := by decide +kernel
theorem dM_floor_28 : decode prog_6_method_37_code 28 = .ok (.getfield 69, 3) := by decide +kernel
theorem dM_floor_31 : decode prog_6_method_37_code 31 = .ok (.idiv, 1) := by decide +kernel
theorem dM_floor_32 : decode prog_6_method_37_code 32 = .ok (.iload_n 1, 1) := by decide +kernel
theorem dM_floor_33 : decode prog_6_method_37_code 33 = .ok (.aload_n 0, 1) := by decide +kernel
theorem dM_floor_34 : decode prog_6_method_37_code 34 = .ok (.getfield 69, 3) := by decide +kernel
theorem dM_floor_37 : decode prog_6_method_37_code 37 = .ok (.irem, 1) := by decide +kernel
theorem dM_floor_38 : decode prog_6_method_37_code 38 = .ok (.invokevirtual 151, 3) := by decide +kernel
theorem dM_floor_41 : decode prog_6_method_37_code 41 = .ok (.lreturn, 1) := by decide +kernel
def f_M_floor (m : MS) (id : Int32) : Int64 := if (f_M_isThere m id) = 0 then 0 else (if id < ((nI (m.1 0)) * (nI (m.1 1))) then (f_M_floorOf m (id / (nI (m.1 1))) (id - id / (nI (m.1 1)) * (nI (m.1 1)))) else 0)
set_option maxHeartbeats 4000000 in
set_option maxRecDepth 100000 in
theorem c_M_floor (l : Launch) (D : va_G) (cI cL cQ : ClassId) (d : Nat → Nat) (κ : Nat → Option va_E) (m : MS) (hm : IsM cI cL d κ m) (hB : MB m) (sz : Nat) (id : Int32)  : Met l yM_floor wM_floor { frames := 3, cells := 0, slots := 0, locals := 78 } (va_Pc [.ref (d 0), .int (id)] (kC D vCl (kT cI cL cQ) d κ sz)) (vp_Sl (fun r => r = f_M_floor m id)) 0 0 (fun _ => False) := by
  refine kMet (by decide) (Nat.le_of_ble_eq_true rfl) ?_
  intro p0 e0 s0 m0 below0 meth0 c0 hx hb hr hml hown hlocks hin hts hsz hP hK ls hl
  have hl : lv_has ls 2 [(0, .ref (d 0)), (1, .int (id))] := hl
  have hB9 := hB
  obtain ⟨hb0, hb1, hb2, hb3, hb4, hb5, hb6, hb7, hb8, hb9, hb10⟩ := hB9
  refine lv_aload_n hx hb dM_floor_0 rfl (lv_at hl 0 rfl) ?_
  refine lv_iload_n hx hb dM_floor_1 rfl (lv_at hl 1 rfl) ?_
  refine vp_callSi (W.runV (C := RM) (As := [.int (id)]) (rest := []) ⟨hx, hb, hml, hown, hts⟩ (c_M_isThere l D cI cL cQ d κ m hm hB _ id) (cwV 1 hts (k_gV tw_590 tw_464 tw_465 tw_41 tw_466) rfl rfl rfl (by decide +kernel) ⟨Nat.le_of_ble_eq_true rfl, Nat.le_of_ble_eq_true rfl⟩) (kPreV hP hK (q := 0) hm.1 rfl) rfl rfl hl.1 rfl (lv_room (Nat.le_of_ble_eq_true rfl)) dM_floor_2 ⟨Nat.le_of_ble_eq_true rfl, Nat.le_of_ble_eq_true rfl⟩) (fun r_2 e_2 => ?_)
  subst e_2
  refine lv_if_eq (tgt := 21) hx hb dM_floor_5 (by decide) (fun c_5 => ?_) (fun c_5 => ?_)
  · refine lv_lconst (v := 0) hx hb dM_floor_21 (by decide) ?_
    refine lv_goto (tgt := 41) hx hb dM_floor_22 (by decide) ?_
    exact W.lret (v := 0) hx hb hr (fun t ht hW => ⟨_, rfl, by rw [f_M_floor, if_pos c_5], ht⟩) (fun q h => by cases h) dM_floor_41
  · refine lv_iload_n hx hb dM_floor_8 rfl (lv_at hl 1 rfl) ?_
    refine lv_aload_n hx hb dM_floor_9 rfl (lv_at hl 0 rfl) ?_
    refine ka_get (ci := 4) (C := RM) (T := TM) (N := 26) hx hb hts inM hown hK hP (q := 0) hm.1 rfl 0 (by decide) (hts _ tw_384) (fun _ h9 => h9) rfl dM_floor_10 ?_
    refine lv_aload_n hx hb dM_floor_13 rfl (lv_at hl 0 rfl) ?_
    refine ka_get (ci := 4) (C := RM) (T := TM) (N := 26) hx hb hts inM hown hK hP (q := 0) hm.1 rfl 1 (by decide) (hts _ tw_385) (fun _ h9 => h9) rfl dM_floor_14 ?_
    refine lv_imul hx hb dM_floor_17 ?_
    refine lv_icmp_lt (tgt := 25) hx hb dM_floor_18 (by decide) (fun c_18 => ?_) (fun c_18 => ?_)
    · refine lv_aload_n hx hb dM_floor_25 rfl (lv_at hl 0 rfl) ?_
      refine lv_iload_n hx hb dM_floor_26 rfl (lv_at hl 1 rfl) ?_
      refine lv_aload_n hx hb dM_floor_27 rfl (lv_at hl 0 rfl) ?_
      refine ka_get (ci := 4) (C := RM) (T := TM) (N := 26) hx hb hts inM hown hK hP (q := 0) hm.1 rfl 1 (by decide) (hts _ tw_385) (fun _ h9 => h9) rfl dM_floor_28 ?_
      refine lv_idiv hx hb dM_floor_31 (nI_ne0 (by omega) (by omega)) ?_
      refine lv_iload_n hx hb dM_floor_32 rfl (lv_at hl 1 rfl) ?_
      refine lv_aload_n hx hb dM_floor_33 rfl (lv_at hl 0 rfl) ?_
      refine ka_get (ci := 4) (C := RM) (T := TM) (N := 26) hx hb hts inM hown hK hP (q := 0) hm.1 rfl 1 (by decide) (hts _ tw_385) (fun _ h9 => h9) rfl dM_floor_34 ?_
      refine lv_irem hx hb dM_floor_37 (nI_ne0 (by omega) (by omega)) ?_
      refine vp_callSl (W.runV (C := RM) (As := [.int (id / (nI (m.1 1))), .int (id - id / (nI (m.1 1)) * (nI (m.1 1)))]) (rest := []) ⟨hx, hb, hml, hown, hts⟩ (c_M_floorOf l D cI cL cQ d κ m hm hB _ (id / (nI (m.1 1))) (id - id / (nI (m.1 1)) * (nI (m.1 1))) (isThere_64 hB (by assumption) (by assumption))) (cwV 2 hts (k_gV tw_545 tw_547 tw_33 tw_41 tw_548) rfl rfl rfl (by decide +kernel) ⟨Nat.le_of_ble_eq_true rfl, Nat.le_of_ble_eq_true rfl⟩) (kPreV hP hK (q := 0) hm.1 rfl) rfl rfl hl.1 rfl (lv_room (Nat.le_of_ble_eq_true rfl)) dM_floor_38 ⟨Nat.le_of_ble_eq_true rfl, Nat.le_of_ble_eq_true rfl⟩) (fun r_38 e_38 => ?_)
      subst e_38
      exact W.lret (v := f_M_floorOf m (id / (nI (m.1 1))) (id - id / (nI (m.1 1)) * (nI (m.1 1)))) hx hb hr (fun t ht hW => ⟨_, rfl, by rw [f_M_floor, if_neg c_5, if_pos c_18], ht⟩) (fun q h => by cases h) dM_floor_41
    · refine lv_lconst (v := 0) hx hb dM_floor_21 (by decide) ?_
      refine lv_goto (tgt := 41) hx hb dM_floor_22 (by decide) ?_
      exact W.lret (v := 0) hx hb hr (fun t ht hW => ⟨_, rfl, by rw [f_M_floor, if_neg c_5, if_neg c_18], ht⟩) (fun q h => by cases h) dM_floor_41

theorem dM_fits_0 : decode prog_6_method_33_code 0 = .ok (.aload_n 0, 1) := by decide +kernel
theorem dM_fits_1 : decode prog_6_method_33_code 1 = .ok (.iload_n 1, 1) := by decide +kernel
theorem dM_fits_2 : decode prog_6_method_33_code 2 = .ok (.invokevirtual 166, 3) := by decide +kernel
theorem dM_fits_5 : decode prog_6_method_33_code 5 = .ok (.lconst 0, 1) := by decide +kernel
theorem dM_fits_6 : decode prog_6_method_33_code 6 = .ok (.lcmp, 1) := by decide +kernel
theorem dM_fits_7 : decode prog_6_method_33_code 7 = .ok (.ifCond .ge 23, 3) := by decide +kernel
theorem dM_fits_10 : decode prog_6_method_33_code 10 = .ok (.aload_n 0, 1) := by decide +kernel
theorem dM_fits_11 : decode prog_6_method_33_code 11 = .ok (.iload_n 1, 1) := by decide +kernel
theorem dM_fits_12 : decode prog_6_method_33_code 12 = .ok (.invokevirtual 169, 3) := by decide +kernel
theorem dM_fits_15 : decode prog_6_method_33_code 15 = .ok (.aload_n 0, 1) := by decide +kernel
theorem dM_fits_16 : decode prog_6_method_33_code 16 = .ok (.iload_n 1, 1) := by decide +kernel
theorem dM_fits_17 : decode prog_6_method_33_code 17 = .ok (.invokevirtual 166, 3) := by decide +kernel
theorem dM_fits_20 : decode prog_6_method_33_code 20 = .ok (.ladd, 1) := by decide +kernel
theorem dM_fits_21 : decode prog_6_method_33_code 21 = .ok (.aload_n 0, 1) := by decide +kernel
theorem dM_fits_22 : decode prog_6_method_33_code 22 = .ok (.iload_n 1, 1) := by decide +kernel
theorem dM_fits_23 : decode prog_6_method_33_code 23 = .ok (.invokevirtual 172, 3) := by decide +kernel
theorem dM_fits_26 : decode prog_6_method_33_code 26 = .ok (.lcmp, 1) := by decide +kernel
theorem dM_fits_27 : decode prog_6_method_33_code 27 = .ok (.ifCond .lt 7, 3) := by decide +kernel
theorem dM_fits_30 : decode prog_6_method_33_code 30 = .ok (.iconst 1, 1) := by decide +kernel
theorem dM_fits_31 : decode prog_6_method_33_code 31 = .ok (.goto 4, 3) := by decide +kernel
theorem dM_fits_34 : decode prog_6_method_33_code 34 = .ok (.iconst 0, 1) := by decide +kernel
theorem dM_fits_35 : decode prog_6_method_33_code 35 = .ok (.ireturn, 1) := by decide +kernel
def f_M_fits (m : MS) (id : Int32) : Int32 := if (f_M_net m id) < 0 then (if ((f_M_value m id) + (f_M_net m id)) < (f_M_floor m id) then 0 else 1) else 1
theorem b_M_fits (m : MS) (id : Int32) : f_M_fits m id = 0 ∨ f_M_fits m id = 1 := by
  unfold f_M_fits
  repeat' (first | split | exact Or.inl rfl | exact Or.inr rfl)
set_option maxHeartbeats 4000000 in
set_option maxRecDepth 100000 in
theorem c_M_fits (l : Launch) (D : va_G) (cI cL cQ : ClassId) (d : Nat → Nat) (κ : Nat → Option va_E) (m : MS) (hm : IsM cI cL d κ m) (hB : MB m) (sz : Nat) (id : Int32)  : Met l yM_fits wM_fits { frames := 4, cells := 0, slots := 0, locals := 99 } (va_Pc [.ref (d 0), .int (id)] (kC D vCl (kT cI cL cQ) d κ sz)) (vp_Si (fun r => r = f_M_fits m id)) 0 0 (fun _ => False) := by
  refine kMet (by decide) (Nat.le_of_ble_eq_true rfl) ?_
  intro p0 e0 s0 m0 below0 meth0 c0 hx hb hr hml hown hlocks hin hts hsz hP hK ls hl
  have hl : lv_has ls 2 [(0, .ref (d 0)), (1, .int (id))] := hl
  have hB9 := hB
  obtain ⟨hb0, hb1, hb2, hb3, hb4, hb5, hb6, hb7, hb8, hb9, hb10⟩ := hB9
  refine lv_aload_n hx hb dM_fits_0 rfl (lv_at hl 0 rfl) ?_
  refine lv_iload_n hx hb dM_fits_1 rfl (lv_at hl 1 rfl) ?_
  refine vp_callSl (W.runV (C := RM) (As := [.int (id)]) (rest := []) ⟨hx, hb, hml, hown, hts⟩ (c_M_net l D cI cL cQ d κ m hm hB _ id) (cwV 1 hts (k_gV tw_599 tw_587 tw_588 tw_41 tw_589) rfl rfl rfl (by decide +kernel) ⟨Nat.le_of_ble_eq_true rfl, Nat.le_of_ble_eq_true rfl⟩) (kPreV hP hK (q := 0) hm.1 rfl) rfl rfl hl.1 rfl (lv_room (Nat.le_of_ble_eq_true rfl)) dM_fits_2 ⟨Nat.le_of_ble_eq_true rfl, Nat.le_of_ble_eq_true rfl⟩) (fun r_2 e_2 => ?_)
  subst e_2
  refine lv_lconst (v := 0) hx hb dM_fits_5 (by decide) ?_
  refine kl_ge (tgt := 30) hx hb dM_fits_6 dM_fits_7 (by decide) (fun c_6 => ?_) (fun c_6 => ?_)
  · refine lv_iconst (v := 1) hx hb dM_fits_30 (by decide) ?_
    refine lv_goto (tgt := 35) hx hb dM_fits_31 (by decide) ?_
    exact W.zret (v := 1) hx hb hr k_nar1 (fun t ht hW => ⟨_, rfl, by rw [f_M_fits, if_neg c_6], ht⟩) (fun q h => by cases h) dM_fits_35
  · refine lv_aload_n hx hb dM_fits_10 rfl (lv_at hl 0 rfl) ?_
    refine lv_iload_n hx hb dM_fits_11 rfl (lv_at hl 1 rfl) ?_
    refine vp_callSl (W.runV (C := RM) (As := [.int (id)]) (rest := []) ⟨hx, hb, hml, hown, hts⟩ (c_M_value l D cI cL cQ d κ m hm hB _ id) (cwV 1 hts (k_gV tw_600 tw_601 tw_602 tw_41 tw_603) rfl rfl rfl (by decide +kernel) ⟨Nat.le_of_ble_eq_true rfl, Nat.le_of_ble_eq_true rfl⟩) (kPreV hP hK (q := 0) hm.1 rfl) rfl rfl hl.1 rfl (lv_room (Nat.le_of_ble_eq_true rfl)) dM_fits_12 ⟨Nat.le_of_ble_eq_true rfl, Nat.le_of_ble_eq_true rfl⟩) (fun r_12 e_12 => ?_)
    subst e_12
    refine lv_aload_n hx hb dM_fits_15 rfl (lv_at hl 0 rfl) ?_
    refine lv_iload_n hx hb dM_fits_16 rfl (lv_at hl 1 rfl) ?_
    refine vp_callSl (W.runV (C := RM) (As := [.int (id)]) (rest := [.long (f_M_value m id)]) ⟨hx, hb, hml, hown, hts⟩ (c_M_net l D cI cL cQ d κ m hm hB _ id) (cwV 1 hts (k_gV tw_599 tw_587 tw_588 tw_41 tw_589) rfl rfl rfl (by decide +kernel) ⟨Nat.le_of_ble_eq_true rfl, Nat.le_of_ble_eq_true rfl⟩) (kPreV hP hK (q := 0) hm.1 rfl) rfl rfl hl.1 rfl (lv_room (Nat.le_of_ble_eq_true rfl)) dM_fits_17 ⟨Nat.le_of_ble_eq_true rfl, Nat.le_of_ble_eq_true rfl⟩) (fun r_17 e_17 => ?_)
    subst e_17
    refine lv_ladd hx hb dM_fits_20 ?_
    refine lv_aload_n hx hb dM_fits_21 rfl (lv_at hl 0 rfl) ?_
    refine lv_iload_n hx hb dM_fits_22 rfl (lv_at hl 1 rfl) ?_
    refine vp_callSl (W.runV (C := RM) (As := [.int (id)]) (rest := [.long ((f_M_value m id) + (f_M_net m id))]) ⟨hx, hb, hml, hown, hts⟩ (c_M_floor l D cI cL cQ d κ m hm hB _ id) (cwV 1 hts (k_gV tw_604 tw_605 tw_606 tw_41 tw_607) rfl rfl rfl (by decide +kernel) ⟨Nat.le_of_ble_eq_true rfl, Nat.le_of_ble_eq_true rfl⟩) (kPreV hP hK (q := 0) hm.1 rfl) rfl rfl hl.1 rfl (lv_room (Nat.le_of_ble_eq_true rfl)) dM_fits_23 ⟨Nat.le_of_ble_eq_true rfl, Nat.le_of_ble_eq_true rfl⟩) (fun r_23 e_23 => ?_)
    subst e_23
    refine kl_lt (tgt := 34) hx hb dM_fits_26 dM_fits_27 (by decide) (fun c_26 => ?_) (fun c_26 => ?_)
    · refine lv_iconst (v := 0) hx hb dM_fits_34 (by decide) ?_
      exact W.zret (v := 0) hx hb hr k_nar0 (fun t ht hW => ⟨_, rfl, by rw [f_M_fits, if_pos c_6, if_pos c_26], ht⟩) (fun q h => by cases h) dM_fits_35
    · refine lv_iconst (v := 1) hx hb dM_fits_30 (by decide) ?_
      refine lv_goto (tgt := 35) hx hb dM_fits_31 (by decide) ?_
      exact W.zret (v := 1) hx hb hr k_nar1 (fun t ht hW => ⟨_, rfl, by rw [f_M_fits, if_pos c_6, if_neg c_26], ht⟩) (fun q h => by cases h) dM_fits_35

theorem dM_holds_0 : decode prog_6_method_34_code 0 = .ok (.iconst 1, 1) := by decide +kernel
theorem dM_holds_1 : decode prog_6_method_34_code 1 = .ok (.istore_n 1, 1) := by decide +kernel
theorem dM_holds_2 : decode prog_6_method_34_code 2 = .ok (.iconst 0, 1) := by decide +kernel
theorem dM_holds_3 : decode prog_6_method_34_code 3 = .ok (.istore_n 2, 1) := by decide +kernel
theorem dM_holds_4 : decode prog_6_method_34_code 4 = .ok (.iload_n 2, 1) := by decide +kernel
theorem dM_holds_5 : decode prog_6_method_34_code 5 = .ok (.aload_n 0, 1) := by decide +kernel
theorem dM_holds_6 : decode prog_6_method_34_code 6 = .ok (.getfield 160, 3) := by decide +kernel
theorem dM_holds_9 : decode prog_6_method_34_code 9 = .ok (.if_icmp .ge 143, 3) := by decide +kernel
theorem dM_holds_12 : decode prog_6_method_34_code 12 = .ok (.aload_n 0, 1) := by decide +kernel
theorem dM_holds_13 : decode prog_6_method_34_code 13 = .ok (.getfield 66, 3) := by decide +kernel
theorem dM_holds_16 : decode prog_6_method_34_code 16 = .ok (.aload_n 0, 1) := by decide +kernel
theorem dM_holds_17 : decode prog_6_method_34_code 17 = .ok (.getfield 69, 3) := by decide +kernel
theorem dM_holds_20 : decode prog_6_method_34_code 20 = .ok (.imul, 1) := by decide +kernel
theorem dM_holds_21 : decode prog_6_method_34_code 21 = .ok (.istore_n 3, 1) := by decide +kernel
theorem dM_holds_22 : decode prog_6_method_34_code 22 = .ok (.iload_n 1, 1) := by decide +kernel
theorem dM_holds_23 : decode prog_6_method_34_code 23 = .ok (.ifCond .eq 57, 3) := by decide +kernel
theorem dM_holds_26 : decode prog_6_method_34_code 26 = .ok (.aload_n 0, 1) := by decide +kernel
theorem dM_holds_27 : decode prog_6_method_34_code 27 = .ok (.aload_n 0, 1) := by decide +kernel
theorem dM_holds_28 : decode prog_6_method_34_code 28 = .ok (.getfield 54, 3) := by decide +kernel
theorem dM_holds_31 : decode prog_6_method_34_code 31 = .ok (.iload_n 2, 1) := by decide +kernel
theorem dM_holds_32 : decode prog_6_method_34_code 32 = .ok (.iaload, 1) := by decide +kernel
theorem dM_holds_33 : decode prog_6_method_34_code 33 = .ok (.aload_n 0, 1) := by decide +kernel
theorem dM_holds_34 : decode prog_6_method_34_code 34 = .ok (.getfield 69, 3) := by decide +kernel
theorem dM_holds_37 : decode prog_6_method_34_code 37 = .ok (.imul, 1) := by decide +kernel
theorem dM_holds_38 : decode prog_6_method_34_code 38 = .ok (.aload_n 0, 1) := by decide +kernel
theorem dM_holds_39 : decode prog_6_method_34_code 39 = .ok (.getfield 60, 3) := by decide +kernel
theorem dM_holds_42 : decode prog_6_method_34_code 42 = .ok (.iload_n 2, 1) := by decide +kernel
theorem dM_holds_43 : decode prog_6_method_34_code 43 = .ok (.iaload, 1) := by decide +kernel
theorem dM_holds_44 : decode prog_6_method_34_code 44 = .ok (.iadd, 1) := by decide +kernel
theorem dM_holds_45 : decode prog_6_method_34_code 45 = .ok (.invokevirtual 175, 3) := by decide +kernel
theorem dM_holds_48 : decode prog_6_method_34_code 48 = .ok (.ifCond .eq 32, 3) := by decide +kernel
theorem dM_holds_51 : decode prog_6_method_34_code 51 = .ok (.aload_n 0, 1) := by decide +kernel
theorem dM_holds_52 : decode prog_6_method_34_code 52 = .ok (.aload_n 0, 1) := by decide +kernel
theorem dM_holds_53 : decode prog_6_method_34_code 53 = .ok (.getfield 57, 3) := by decide +kernel
theorem dM_holds_56 : decode prog_6_method_34_code 56 = .ok (.iload_n 2, 1) := by decide +kernel
theorem dM_holds_57 : decode prog_6_method_34_code 57 = .ok (.iaload, 1) := by decide +kernel
theorem dM_holds_58 : decode prog_6_method_34_code 58 = .ok (.aload_n 0, 1) := by decide +kernel
theorem dM_holds_59 : decode prog_6_method_34_code 59 = .ok (.getfield 69, 3) := by decide +kernel
theorem dM_holds_62 : decode prog_6_method_34_code 62 = .ok (.imul, 1) := by decide +kernel
theorem dM_holds_63 : decode prog_6_method_34_code 63 = .ok (.aload_n 0, 1) := by decide +kernel
theorem dM_holds_64 : decode prog_6_method_34_code 64 = .ok (.getfield 60, 3) := by decide +kernel
theorem dM_holds_67 : decode prog_6_method_34_code 67 = .ok (.iload_n 2, 1) := by decide +kernel
theorem dM_holds_68 : decode prog_6_method_34_code 68 = .ok (.iaload, 1) := by decide +kernel
theorem dM_holds_69 : decode prog_6_method_34_code 69 = .ok (.iadd, 1) := by decide +kernel
theorem dM_holds_70 : decode prog_6_method_34_code 70 = .ok (.invokevirtual 175, 3) := by decide +kernel
theorem dM_holds_73 : decode prog_6_method_34_code 73 = .ok (.ifCond .eq 7, 3) := by decide +kernel
theorem dM_holds_76 : decode prog_6_method_34_code 76 = .ok (.iconst 1, 1) := by decide +kernel
theorem dM_holds_77 : decode prog_6_method_34_code 77 = .ok (.goto 4, 3) := by decide +kernel
theorem dM_holds_80 : decode prog_6_method_34_code 80 = .ok (.iconst 0, 1) := by decide +kernel
theorem dM_holds_81 : decode prog_6_method_34_code 81 = .ok (.istore_n 1, 1) := by decide +kernel
theorem dM_holds_82 : decode prog_6_method_34_code 82 = .ok (.iload_n 1, 1) := by decide +kernel
theorem dM_holds_83 : decode prog_6_method_34_code 83 = .ok (.ifCond .eq 61, 3) := by decide +kernel
theorem dM_holds_86 : decode prog_6_method_34_code 86 = .ok (.aload_n 0, 1) := by decide +kernel
theorem dM_holds_87 : decode prog_6_method_34_code 87 = .ok (.iload_n 3, 1) := by decide +kernel
theorem dM_holds_88 : decode prog_6_method_34_code 88 = .ok (.aload_n 0, 1) := by decide +kernel
theorem dM_holds_89 : decode prog_6_method_34_code 89 = .ok (.getfield 54, 3) := by decide +kernel
theorem dM_holds_92 : decode prog_6_method_34_code 92 = .ok (.iload_n 2, 1) := by decide +kernel
theorem dM_holds_93 : decode prog_6_method_34_code 93 = .ok (.iaload, 1) := by decide +kernel
theorem dM_holds_94 : decode prog_6_method_34_code 94 = .ok (.aload_n 0, 1) := by decide +kernel
theorem dM_holds_95 : decode prog_6_method_34_code 95 = .ok (.getfield 66, 3) := by decide +kernel
theorem dM_holds_98 : decode prog_6_method_34_code 98 = .ok (.imul, 1) := by decide +kernel
theorem dM_holds_99 : decode prog_6_method_34_code 99 = .ok (.iadd, 1) := by decide +kernel
theorem dM_holds_100 : decode prog_6_method_34_code 100 = .ok (.aload_n 0, 1) := by decide +kernel
theorem dM_holds_101 : decode prog_6_method_34_code 101 = .ok (.getfield 57, 3) := by decide +kernel
theorem dM_holds_104 : decode prog_6_method_34_code 104 = .ok (.iload_n 2, 1) := by decide +kernel
theorem dM_holds_105 : decode prog_6_method_34_code 105 = .ok (.iaload, 1) := by decide +kernel
theorem dM_holds_106 : decode prog_6_method_34_code 106 = .ok (.iadd, 1) := by decide +kernel
theorem dM_holds_107 : decode prog_6_method_34_code 107 = .ok (.invokevirtual 175, 3) := by decide +kernel
theorem dM_holds_110 : decode prog_6_method_34_code 110 = .ok (.ifCond .eq 34, 3) := by decide +kernel
theorem dM_holds_113 : decode prog_6_method_34_code 113 = .ok (.aload_n 0, 1) := by decide +kernel
theorem dM_holds_114 : decode prog_6_method_34_code 114 = .ok (.iload_n 3, 1) := by decide +kernel
theorem dM_holds_115 : decode prog_6_method_34_code 115 = .ok (.aload_n 0, 1) := by decide +kernel
theorem dM_holds_116 : decode prog_6_method_34_code 116 = .ok (.getfield 57, 3) := by decide +kernel
theorem dM_holds_119 : decode prog_6_method_34_code 119 = .ok (.iload_n 2, 1) := by decide +kernel
theorem dM_holds_120 : decode prog_6_method_34_code 120 = .ok (.iaload, 1) := by decide +kernel
theorem dM_holds_121 : decode prog_6_method_34_code 121 = .ok (.aload_n 0, 1) := by decide +kernel
theorem dM_holds_122 : decode prog_6_method_34_code 122 = .ok (.getfield 66, 3) := by decide +kernel
theorem dM_holds_125 : decode prog_6_method_34_code 125 = .ok (.imul, 1) := by decide +kernel
theorem dM_holds_126 : decode prog_6_method_34_code 126 = .ok (.iadd, 1) := by decide +kernel
theorem dM_holds_127 : decode prog_6_method_34_code 127 = .ok (.aload_n 0, 1) := by decide +kernel
theorem dM_holds_128 : decode prog_6_method_34_code 128 = .ok (.getfield 54, 3) := by decide +kernel
theorem dM_holds_131 : decode prog_6_method_34_code 131 = .ok (.iload_n 2, 1) := by decide +kernel
theorem dM_holds_132 : decode prog_6_method_34_code 132 = .ok (.iaload, 1) := by decide +kernel
theorem dM_holds_133 : decode prog_6_method_34_code 133 = .ok (.iadd, 1) := by decide +kernel
theorem dM_holds_134 : decode prog_6_method_34_code 134 = .ok (.invokevirtual 175, 3) := by decide +kernel
theorem dM_holds_137 : decode prog_6_method_34_code 137 = .ok (.ifCond .eq 7, 3) := by decide +kernel
theorem dM_holds_140 : decode prog_6_method_34_code 140 = .ok (.iconst 1, 1) := by decide +kernel
theorem dM_holds_141 : decode prog_6_method_34_code 141 = .ok (.goto 4, 3) := by decide +kernel
theorem dM_holds_144 : decode prog_6_method_34_code 144 = .ok (.iconst 0, 1) := by decide +kernel
theorem dM_holds_145 : decode prog_6_method_34_code 145 = .ok (.istore_n 1, 1) := by decide +kernel
theorem dM_holds_146 : decode prog_6_method_34_code 146 = .ok (.iinc 2 1, 3) := by decide +kernel
theorem dM_holds_149 : decode prog_6_method_34_code 149 = .ok (.goto (-145), 3) := by decide +kernel
theorem dM_holds_152 : decode prog_6_method_34_code 152 = .ok (.iload_n 1, 1) := by decide +kernel
theorem dM_holds_153 : decode prog_6_method_34_code 153 = .ok (.ireturn, 1) := by decide +kernel
def f_M_holds_l (m : MS) : Nat → Nat → Int32 → Int32
  | 0, _, _ => 0
  | n + 1, k, good => if (nI (m.1 7)) ≤ (nI k) then good else (if good = 0 then (f_M_holds_l m n (k + 1) 0) else (if (f_M_fits m ((((m.2.2.1 8) (nI k).toNatClampNeg) * (nI (m.1 1))) + ((m.2.2.1 10) (nI k).toNatClampNeg))) = 0 then (f_M_holds_l m n (k + 1) 0) else (if (f_M_fits m ((((m.2.2.1 9) (nI k).toNatClampNeg) * (nI (m.1 1))) + ((m.2.2.1 10) (nI k).toNatClampNeg))) = 0 then (f_M_holds_l m n (k + 1) 0) else (if (f_M_fits m ((((nI (m.1 0)) * (nI (m.1 1))) + (((m.2.2.1 8) (nI k).toNatClampNeg) * (nI (m.1 0)))) + ((m.2.2.1 9) (nI k).toNatClampNeg))) = 0 then (f_M_holds_l m n (k + 1) 0) else (if (f_M_fits m ((((nI (m.1 0)) * (nI (m.1 1))) + (((m.2.2.1 9) (nI k).toNatClampNeg) * (nI (m.1 0)))) + ((m.2.2.1 8) (nI k).toNatClampNeg))) = 0 then (f_M_holds_l m n (k + 1) 0) else (f_M_holds_l m n (k + 1) 1))))))
theorem f_M_holds_l_s (m : MS) (n : Nat) (k : Nat) (good : Int32) : f_M_holds_l m (n + 1) k good = (if (nI (m.1 7)) ≤ (nI k) then good else (if good = 0 then (f_M_holds_l m n (k + 1) 0) else (if (f_M_fits m ((((m.2.2.1 8) (nI k).toNatClampNeg) * (nI (m.1 1))) + ((m.2.2.1 10) (nI k).toNatClampNeg))) = 0 then (f_M_holds_l m n (k + 1) 0) else (if (f_M_fits m ((((m.2.2.1 9) (nI k).toNatClampNeg) * (nI (m.1 1))) + ((m.2.2.1 10) (nI k).toNatClampNeg))) = 0 then (f_M_holds_l m n (k + 1) 0) else (if (f_M_fits m ((((nI (m.1 0)) * (nI (m.1 1))) + (((m.2.2.1 8) (nI k).toNatClampNeg) * (nI (m.1 0)))) + ((m.2.2.1 9) (nI k).toNatClampNeg))) = 0 then (f_M_holds_l m n (k + 1) 0) else (if (f_M_fits m ((((nI (m.1 0)) * (nI (m.1 1))) + (((m.2.2.1 9) (nI k).toNatClampNeg) * (nI (m.1 0)))) + ((m.2.2.1 8) (nI k).toNatClampNeg))) = 0 then (f_M_holds_l m n (k + 1) 0) else (f_M_holds_l m n (k + 1) 1))))))) := rfl
def f_M_holds (m : MS) : Int32 := f_M_holds_l m (m.1 7 + 1) 0 1
set_option maxHeartbeats 4000000 in
set_option maxRecDepth 100000 in
theorem c_M_holds (l : Launch) (D : va_G) (cI cL cQ : ClassId) (d : Nat → Nat) (κ : Nat → Option va_E) (m : MS) (hm : IsM cI cL d κ m) (hB : MB m) (sz : Nat)   : Met l yM_holds wM_holds { frames := 5, cells := 0, slots := 0, locals := 120 } (va_Pc [.ref (d 0)] (kC D vCl (kT cI cL cQ) d κ sz)) (vp_Si (fun r => r = f_M_holds m)) 0 0 (fun _ => False) := by
  refine kMet (by decide) (Nat.le_of_ble_eq_true rfl) ?_
  intro p0 e0 s0 m0 below0 meth0 c0 hx hb hr hml hown hlocks hin hts hsz hP hK ls hl
  have hl : lv_has ls 4 [(0, .ref (d 0))] := hl
  have hB9 := hB
  obtain ⟨hb0, hb1, hb2, hb3, hb4, hb5, hb6, hb7, hb8, hb9, hb10⟩ := hB9
  refine lv_iconst (v := 1) hx hb dM_holds_0 (by decide) ?_
  refine lv_istore_n (lv' := [(1, .int (1)), (0, .ref (d 0))]) hx hb dM_holds_1 rfl hl (by decide) rfl (fun ls hl => ?_)
  refine lv_iconst (v := 0) hx hb dM_holds_2 (by decide) ?_
  refine lv_istore_n (lv' := [(2, .int (0)), (1, .int (1)), (0, .ref (d 0))]) hx hb dM_holds_3 rfl hl (by decide) rfl (fun ls hl => ?_)
  refine k_rec (σ := Nat × Int32) (fun n z9 ls => z9.1 ≤ m.1 7 ∧ m.1 7 < z9.1 + n ∧ f_M_holds_l m n z9.1 z9.2 = f_M_holds m ∧ (z9.2 = 0 ∨ z9.2 = 1) ∧ lv_has ls 4 [(2, .int (nI z9.1)), (1, .int z9.2), (0, .ref (d 0))]) (m.1 7 + 1) (0, 1) ⟨by omega, by omega, by rw [f_M_holds], Or.inr rfl, lv_sub hl [0, 1, 2] rfl⟩ ?_
  intro n z9 ls hI ih
  obtain ⟨k, good⟩ := z9
  obtain ⟨hk, hn, hE, hx9, hl⟩ := hI
  dsimp only at hk hn hE hx9 hl
  obtain ⟨n, rfl⟩ : ∃ q, n = q + 1 := ⟨n - 1, by omega⟩
  refine lv_iload_n hx hb dM_holds_4 rfl (lv_at hl 0 rfl) ?_
  refine lv_aload_n hx hb dM_holds_5 rfl (lv_at hl 2 rfl) ?_
  refine ka_get (ci := 4) (C := RM) (T := TM) (N := 26) hx hb hts inM hown hK hP (q := 0) hm.1 rfl 21 (by decide) (hts _ tw_405) (fun _ h9 => h9) rfl dM_holds_6 ?_
  refine lv_icmp_ge (tgt := 152) hx hb dM_holds_9 (by decide) (fun c_9 => ?_) (fun c_9 => ?_)
  · refine lv_iload_n hx hb dM_holds_152 rfl (lv_at hl 1 rfl) ?_
    exact W.zret (v := good) hx hb hr (k_nar hx9) (fun t ht hW => ⟨_, rfl, by rw [← hE, f_M_holds_l_s, if_pos c_9], ht⟩) (fun q h => by cases h) dM_holds_153
  · have hlt : k < m.1 7 := Nat.lt_of_not_le (fun q => c_9 (nI_le q (by omega)))
    refine lv_aload_n hx hb dM_holds_12 rfl (lv_at hl 2 rfl) ?_
    refine ka_get (ci := 4) (C := RM) (T := TM) (N := 26) hx hb hts inM hown hK hP (q := 0) hm.1 rfl 0 (by decide) (hts _ tw_384) (fun _ h9 => h9) rfl dM_holds_13 ?_
    refine lv_aload_n hx hb dM_holds_16 rfl (lv_at hl 2 rfl) ?_
    refine ka_get (ci := 4) (C := RM) (T := TM) (N := 26) hx hb hts inM hown hK hP (q := 0) hm.1 rfl 1 (by decide) (hts _ tw_385) (fun _ h9 => h9) rfl dM_holds_17 ?_
    refine lv_imul hx hb dM_holds_20 ?_
    refine lv_istore_n (lv' := [(3, .int ((nI (m.1 0)) * (nI (m.1 1)))), (2, .int (nI k)), (1, .int (good)), (0, .ref (d 0))]) hx hb dM_holds_21 rfl hl (by decide) rfl (fun ls hl => ?_)
    refine lv_iload_n hx hb dM_holds_22 rfl (lv_at hl 2 rfl) ?_
    refine lv_if_eq (tgt := 80) hx hb dM_holds_23 (by decide) (fun c_23 => ?_) (fun c_23 => ?_)
    · refine lv_iconst (v := 0) hx hb dM_holds_80 (by decide) ?_
      refine lv_istore_n (lv' := [(1, .int (0)), (3, .int ((nI (m.1 0)) * (nI (m.1 1)))), (2, .int (nI k)), (0, .ref (d 0))]) hx hb dM_holds_81 rfl hl (by decide) rfl (fun ls hl => ?_)
      refine lv_iload_n hx hb dM_holds_82 rfl (lv_at hl 0 rfl) ?_
      refine lv_if_eq (tgt := 144) hx hb dM_holds_83 (by decide) (fun _ => ?_) (fun c => absurd c (by decide))
      refine lv_iconst (v := 0) hx hb dM_holds_144 (by decide) ?_
      refine lv_istore_n (lv' := [(1, .int (0)), (3, .int ((nI (m.1 0)) * (nI (m.1 1)))), (2, .int (nI k)), (0, .ref (d 0))]) hx hb dM_holds_145 rfl hl (by decide) rfl (fun ls hl => ?_)
      refine lv_iinc (v := nI (k + 1)) (lv' := [(2, .int (nI (k + 1))), (1, .int (0)), (3, .int ((nI (m.1 0)) * (nI (m.1 1)))), (0, .ref (d 0))]) hx hb dM_holds_146 hl (k := 2) rfl (nI_add k 1) (by decide) rfl (fun ls hl => ?_)
      refine lv_goto (tgt := 4) hx hb dM_holds_149 (by decide) ?_
      exact ih n (k + 1, 0) ls (by omega) ⟨by omega, by omega, by rw [← hE, f_M_holds_l_s, if_neg c_9, if_pos c_23], by first | exact Or.inl rfl | exact Or.inr rfl | assumption, lv_sub hl [0, 1, 3] rfl⟩
    · refine lv_aload_n hx hb dM_holds_26 rfl (lv_at hl 3 rfl) ?_
      refine lv_aload_n hx hb dM_holds_27 rfl (lv_at hl 3 rfl) ?_
      refine ka_get (ci := 4) (C := RM) (T := TM) (N := 26) hx hb hts inM hown hK hP (q := 0) hm.1 rfl 22 (by decide) (hts _ tw_406) (fun _ h9 => h9) rfl dM_holds_28 ?_
      refine lv_iload_n hx hb dM_holds_31 rfl (lv_at hl 1 rfl) ?_
      refine ka_iald hx hb hK hP 0 (q := 14) hm.2.2.2.2.2.2.2.2.2.2.2.2.2.2.1 rfl (by first | assumption | exact vp_in_nI (by omega) (by omega)) dM_holds_32 ?_
      refine lv_aload_n hx hb dM_holds_33 rfl (lv_at hl 3 rfl) ?_
      refine ka_get (ci := 4) (C := RM) (T := TM) (N := 26) hx hb hts inM hown hK hP (q := 0) hm.1 rfl 1 (by decide) (hts _ tw_385) (fun _ h9 => h9) rfl dM_holds_34 ?_
      refine lv_imul hx hb dM_holds_37 ?_
      refine lv_aload_n hx hb dM_holds_38 rfl (lv_at hl 3 rfl) ?_
      refine ka_get (ci := 4) (C := RM) (T := TM) (N := 26) hx hb hts inM hown hK hP (q := 0) hm.1 rfl 24 (by decide) (hts _ tw_408) (fun _ h9 => h9) rfl dM_holds_39 ?_
      refine lv_iload_n hx hb dM_holds_42 rfl (lv_at hl 1 rfl) ?_
      refine ka_iald hx hb hK hP 0 (q := 16) hm.2.2.2.2.2.2.2.2.2.2.2.2.2.2.2.2.1 rfl (by first | assumption | exact vp_in_nI (by omega) (by omega)) dM_holds_43 ?_
      refine lv_iadd hx hb dM_holds_44 ?_
      refine vp_callSi (W.runV (C := RM) (As := [.int ((((m.2.2.1 8) (nI k).toNatClampNeg) * (nI (m.1 1))) + ((m.2.2.1 10) (nI k).toNatClampNeg))]) (rest := []) ⟨hx, hb, hml, hown, hts⟩ (c_M_fits l D cI cL cQ d κ m hm hB _ ((((m.2.2.1 8) (nI k).toNatClampNeg) * (nI (m.1 1))) + ((m.2.2.1 10) (nI k).toNatClampNeg))) (cwV 1 hts (k_gV tw_595 tw_597 tw_36 tw_41 tw_598) rfl rfl rfl (by decide +kernel) ⟨Nat.le_of_ble_eq_true rfl, Nat.le_of_ble_eq_true rfl⟩) (kPreV hP hK (q := 0) hm.1 rfl) rfl rfl hl.1 rfl (lv_room (Nat.le_of_ble_eq_true rfl)) dM_holds_45 ⟨Nat.le_of_ble_eq_true rfl, Nat.le_of_ble_eq_true rfl⟩) (fun r_45 e_45 => ?_)
      subst e_45
      refine lv_if_eq (tgt := 80) hx hb dM_holds_48 (by decide) (fun c_48 => ?_) (fun c_48 => ?_)
      · refine lv_iconst (v := 0) hx hb dM_holds_80 (by decide) ?_
        refine lv_istore_n (lv' := [(1, .int (0)), (3, .int ((nI (m.1 0)) * (nI (m.1 1)))), (2, .int (nI k)), (0, .ref (d 0))]) hx hb dM_holds_81 rfl hl (by decide) rfl (fun ls hl => ?_)
        refine lv_iload_n hx hb dM_holds_82 rfl (lv_at hl 0 rfl) ?_
        refine lv_if_eq (tgt := 144) hx hb dM_holds_83 (by decide) (fun _ => ?_) (fun c => absurd c (by decide))
        refine lv_iconst (v := 0) hx hb dM_holds_144 (by decide) ?_
        refine lv_istore_n (lv' := [(1, .int (0)), (3, .int ((nI (m.1 0)) * (nI (m.1 1)))), (2, .int (nI k)), (0, .ref (d 0))]) hx hb dM_holds_145 rfl hl (by decide) rfl (fun ls hl => ?_)
        refine lv_iinc (v := nI (k + 1)) (lv' := [(2, .int (nI (k + 1))), (1, .int (0)), (3, .int ((nI (m.1 0)) * (nI (m.1 1)))), (0, .ref (d 0))]) hx hb dM_holds_146 hl (k := 2) rfl (nI_add k 1) (by decide) rfl (fun ls hl => ?_)
        refine lv_goto (tgt := 4) hx hb dM_holds_149 (by decide) ?_
        exact ih n (k + 1, 0) ls (by omega) ⟨by omega, by omega, by rw [← hE, f_M_holds_l_s, if_neg c_9, if_neg c_23, if_pos c_48], by first | exact Or.inl rfl | exact Or.inr rfl | assumption, lv_sub hl [0, 1, 3] rfl⟩
      · refine lv_aload_n hx hb dM_holds_51 rfl (lv_at hl 3 rfl) ?_
        refine lv_aload_n hx hb dM_holds_52 rfl (lv_at hl 3 rfl) ?_
        refine ka_get (ci := 4) (C := RM) (T := TM) (N := 26) hx hb hts inM hown hK hP (q := 0) hm.1 rfl 23 (by decide) (hts _ tw_407) (fun _ h9 => h9) rfl dM_holds_53 ?_
        refine lv_iload_n hx hb dM_holds_56 rfl (lv_at hl 1 rfl) ?_
        refine ka_iald hx hb hK hP 0 (q := 15) hm.2.2.2.2.2.2.2.2.2.2.2.2.2.2.2.1 rfl (by first | assumption | exact vp_in_nI (by omega) (by omega)) dM_holds_57 ?_
        refine lv_aload_n hx hb dM_holds_58 rfl (lv_at hl 3 rfl) ?_
        refine ka_get (ci := 4) (C := RM) (T := TM) (N := 26) hx hb hts inM hown hK hP (q := 0) hm.1 rfl 1 (by decide) (hts _ tw_385) (fun _ h9 => h9) rfl dM_holds_59 ?_
        refine lv_imul hx hb dM_holds_62 ?_
        refine lv_aload_n hx hb dM_holds_63 rfl (lv_at hl 3 rfl) ?_
        refine ka_get (ci := 4) (C := RM) (T := TM) (N := 26) hx hb hts inM hown hK hP (q := 0) hm.1 rfl 24 (by decide) (hts _ tw_408) (fun _ h9 => h9) rfl dM_holds_64 ?_
        refine lv_iload_n hx hb dM_holds_67 rfl (lv_at hl 1 rfl) ?_
        refine ka_iald hx hb hK hP 0 (q := 16) hm.2.2.2.2.2.2.2.2.2.2.2.2.2.2.2.2.1 rfl (by first | assumption | exact vp_in_nI (by omega) (by omega)) dM_holds_68 ?_
        refine lv_iadd hx hb dM_holds_69 ?_
        refine vp_callSi (W.runV (C := RM) (As := [.int ((((m.2.2.1 9) (nI k).toNatClampNeg) * (nI (m.1 1))) + ((m.2.2.1 10) (nI k).toNatClampNeg))]) (rest := []) ⟨hx, hb, hml, hown, hts⟩ (c_M_fits l D cI cL cQ d κ m hm hB _ ((((m.2.2.1 9) (nI k).toNatClampNeg) * (nI (m.1 1))) + ((m.2.2.1 10) (nI k).toNatClampNeg))) (cwV 1 hts (k_gV tw_595 tw_597 tw_36 tw_41 tw_598) rfl rfl rfl (by decide +kernel) ⟨Nat.le_of_ble_eq_true rfl, Nat.le_of_ble_eq_true rfl⟩) (kPreV hP hK (q := 0) hm.1 rfl) rfl rfl hl.1 rfl (lv_room (Nat.le_of_ble_eq_true rfl)) dM_holds_70 ⟨Nat.le_of_ble_eq_true rfl, Nat.le_of_ble_eq_true rfl⟩) (fun r_70 e_70 => ?_)
        subst e_70
        refine lv_if_eq (tgt := 80) hx hb dM_holds_73 (by decide) (fun c_73 => ?_) (fun c_73 => ?_)
        · refine lv_iconst (v := 0) hx hb dM_holds_80 (by decide) ?_
          refine lv_istore_n (lv' := [(1, .int (0)), (3, .int ((nI (m.1 0)) * (nI (m.1 1)))), (2, .int (nI k)), (0, .ref (d 0))]) hx hb dM_holds_81 rfl hl (by decide) rfl (fun ls hl => ?_)
          refine lv_iload_n hx hb dM_holds_82 rfl (lv_at hl 0 rfl) ?_
          refine lv_if_eq (tgt := 144) hx hb dM_holds_83 (by decide) (fun _ => ?_) (fun c => absurd c (by decide))
          refine lv_iconst (v := 0) hx hb dM_holds_144 (by decide) ?_
          refine lv_istore_n (lv' := [(1, .int (0)), (3, .int ((nI (m.1 0)) * (nI (m.1 1)))), (2, .int (nI k)), (0, .ref (d 0))]) hx hb dM_holds_145 rfl hl (by decide) rfl (fun ls hl => ?_)
          refine lv_iinc (v := nI (k + 1)) (lv' := [(2, .int (nI (k + 1))), (1, .int (0)), (3, .int ((nI (m.1 0)) * (nI (m.1 1)))), (0, .ref (d 0))]) hx hb dM_holds_146 hl (k := 2) rfl (nI_add k 1) (by decide) rfl (fun ls hl => ?_)
          refine lv_goto (tgt := 4) hx hb dM_holds_149 (by decide) ?_
          exact ih n (k + 1, 0) ls (by omega) ⟨by omega, by omega, by rw [← hE, f_M_holds_l_s, if_neg c_9, if_neg c_23, if_neg c_48, if_pos c_73], by first | exact Or.inl rfl | exact Or.inr rfl | assumption, lv_sub hl [0, 1, 3] rfl⟩
        · refine lv_iconst (v := 1) hx hb dM_holds_76 (by decide) ?_
          refine lv_goto (tgt := 81) hx hb dM_holds_77 (by decide) ?_
          refine lv_istore_n (lv' := [(1, .int (1)), (3, .int ((nI (m.1 0)) * (nI (m.1 1)))), (2, .int (nI k)), (0, .ref (d 0))]) hx hb dM_holds_81 rfl hl (by decide) rfl (fun ls hl => ?_)
          refine lv_iload_n hx hb dM_holds_82 rfl (lv_at hl 0 rfl) ?_
          refine lv_if_eq (tgt := 144) hx hb dM_holds_83 (by decide) (fun c => absurd c (by decide)) (fun _ => ?_)
          refine lv_aload_n hx hb dM_holds_86 rfl (lv_at hl 3 rfl) ?_
          refine lv_iload_n hx hb dM_holds_87 rfl (lv_at hl 1 rfl) ?_
          refine lv_aload_n hx hb dM_holds_88 rfl (lv_at hl 3 rfl) ?_
          refine ka_get (ci := 4) (C := RM) (T := TM) (N := 26) hx hb hts inM hown hK hP (q := 0) hm.1 rfl 22 (by decide) (hts _ tw_406) (fun _ h9 => h9) rfl dM_holds_89 ?_
          refine lv_iload_n hx hb dM_holds_92 rfl (lv_at hl 2 rfl) ?_
          refine ka_iald hx hb hK hP 0 (q := 14) hm.2.2.2.2.2.2.2.2.2.2.2.2.2.2.1 rfl (by first | assumption | exact vp_in_nI (by omega) (by omega)) dM_holds_93 ?_
          refine lv_aload_n hx hb dM_holds_94 rfl (lv_at hl 3 rfl) ?_
          refine ka_get (ci := 4) (C := RM) (T := TM) (N := 26) hx hb hts inM hown hK hP (q := 0) hm.1 rfl 0 (by decide) (hts _ tw_384) (fun _ h9 => h9) rfl dM_holds_95 ?_
          refine lv_imul hx hb dM_holds_98 ?_
          refine lv_iadd hx hb dM_holds_99 ?_
          refine lv_aload_n hx hb dM_holds_100 rfl (lv_at hl 3 rfl) ?_
          refine ka_get (ci := 4) (C := RM) (T := TM) (N := 26) hx hb hts inM hown hK hP (q := 0) hm.1 rfl 23 (by decide) (hts _ tw_407) (fun _ h9 => h9) rfl dM_holds_101 ?_
          refine lv_iload_n hx hb dM_holds_104 rfl (lv_at hl 2 rfl) ?_
          refine ka_iald hx hb hK hP 0 (q := 15) hm.2.2.2.2.2.2.2.2.2.2.2.2.2.2.2.1 rfl (by first | assumption | exact vp_in_nI (by omega) (by omega)) dM_holds_105 ?_
          refine lv_iadd hx hb dM_holds_106 ?_
          refine vp_callSi (W.runV (C := RM) (As := [.int ((((nI (m.1 0)) * (nI (m.1 1))) + (((m.2.2.1 8) (nI k).toNatClampNeg) * (nI (m.1 0)))) + ((m.2.2.1 9) (nI k).toNatClampNeg))]) (rest := []) ⟨hx, hb, hml, hown, hts⟩ (c_M_fits l D cI cL cQ d κ m hm hB _ ((((nI (m.1 0)) * (nI (m.1 1))) + (((m.2.2.1 8) (nI k).toNatClampNeg) * (nI (m.1 0)))) + ((m.2.2.1 9) (nI k).toNatClampNeg))) (cwV 1 hts (k_gV tw_595 tw_597 tw_36 tw_41 tw_598) rfl rfl rfl (by decide +kernel) ⟨Nat.le_of_ble_eq_true rfl, Nat.le_of_ble_eq_true rfl⟩) (kPreV hP hK (q := 0) hm.1 rfl) rfl rfl hl.1 rfl (lv_room (Nat.le_of_ble_eq_true rfl)) dM_holds_107 ⟨Nat.le_of_ble_eq_true rfl, Nat.le_of_ble_eq_true rfl⟩) (fun r_107 e_107 => ?_)
          subst e_107
          refine lv_if_eq (tgt := 144) hx hb dM_holds_110 (by decide) (fun c_110 => ?_) (fun c_110 => ?_)
          · refine lv_iconst (v := 0) hx hb dM_holds_144 (by decide) ?_
            refine lv_istore_n (lv' := [(1, .int (0)), (3, .int ((nI (m.1 0)) * (nI (m.1 1)))), (2, .int (nI k)), (0, .ref (d 0))]) hx hb dM_holds_145 rfl hl (by decide) rfl (fun ls hl => ?_)
            refine lv_iinc (v := nI (k + 1)) (lv' := [(2, .int (nI (k + 1))), (1, .int (0)), (3, .int ((nI (m.1 0)) * (nI (m.1 1)))), (0, .ref (d 0))]) hx hb dM_holds_146 hl (k := 2) rfl (nI_add k 1) (by decide) rfl (fun ls hl => ?_)
            refine lv_goto (tgt := 4) hx hb dM_holds_149 (by decide) ?_
            exact ih n (k + 1, 0) ls (by omega) ⟨by omega, by omega, by rw [← hE, f_M_holds_l_s, if_neg c_9, if_neg c_23, if_neg c_48, if_neg c_73, if_pos c_110], by first | exact Or.inl rfl | exact Or.inr rfl | assumption, lv_sub hl [0, 1, 3] rfl⟩
          · refine lv_aload_n hx hb dM_holds_113 rfl (lv_at hl 3 rfl) ?_
            refine lv_iload_n hx hb dM_holds_114 rfl (lv_at hl 1 rfl) ?_
            refine lv_aload_n hx hb dM_holds_115 rfl (lv_at hl 3 rfl) ?_
            refine ka_get (ci := 4) (C := RM) (T := TM) (N := 26) hx hb hts inM hown hK hP (q := 0) hm.1 rfl 23 (by decide) (hts _ tw_407) (fun _ h9 => h9) rfl dM_holds_116 ?_
            refine lv_iload_n hx hb dM_holds_119 rfl (lv_at hl 2 rfl) ?_
            refine ka_iald hx hb hK hP 0 (q := 15) hm.2.2.2.2.2.2.2.2.2.2.2.2.2.2.2.1 rfl (by first | assumption | exact vp_in_nI (by omega) (by omega)) dM_holds_120 ?_
            refine lv_aload_n hx hb dM_holds_121 rfl (lv_at hl 3 rfl) ?_
            refine ka_get (ci := 4) (C := RM) (T := TM) (N := 26) hx hb hts inM hown hK hP (q := 0) hm.1 rfl 0 (by decide) (hts _ tw_384) (fun _ h9 => h9) rfl dM_holds_122 ?_
            refine lv_imul hx hb dM_holds_125 ?_
            refine lv_iadd hx hb dM_holds_126 ?_
            refine lv_aload_n hx hb dM_holds_127 rfl (lv_at hl 3 rfl) ?_
            refine ka_get (ci := 4) (C := RM) (T := TM) (N := 26) hx hb hts inM hown hK hP (q := 0) hm.1 rfl 22 (by decide) (hts _ tw_406) (fun _ h9 => h9) rfl dM_holds_128 ?_
            refine lv_iload_n hx hb dM_holds_131 rfl (lv_at hl 2 rfl) ?_
            refine ka_iald hx hb hK hP 0 (q := 14) hm.2.2.2.2.2.2.2.2.2.2.2.2.2.2.1 rfl (by first | assumption | exact vp_in_nI (by omega) (by omega)) dM_holds_132 ?_
            refine lv_iadd hx hb dM_holds_133 ?_
            refine vp_callSi (W.runV (C := RM) (As := [.int ((((nI (m.1 0)) * (nI (m.1 1))) + (((m.2.2.1 9) (nI k).toNatClampNeg) * (nI (m.1 0)))) + ((m.2.2.1 8) (nI k).toNatClampNeg))]) (rest := []) ⟨hx, hb, hml, hown, hts⟩ (c_M_fits l D cI cL cQ d κ m hm hB _ ((((nI (m.1 0)) * (nI (m.1 1))) + (((m.2.2.1 9) (nI k).toNatClampNeg) * (nI (m.1 0)))) + ((m.2.2.1 8) (nI k).toNatClampNeg))) (cwV 1 hts (k_gV tw_595 tw_597 tw_36 tw_41 tw_598) rfl rfl rfl (by decide +kernel) ⟨Nat.le_of_ble_eq_true rfl, Nat.le_of_ble_eq_true rfl⟩) (kPreV hP hK (q := 0) hm.1 rfl) rfl rfl hl.1 rfl (lv_room (Nat.le_of_ble_eq_true rfl)) dM_holds_134 ⟨Nat.le_of_ble_eq_true rfl, Nat.le_of_ble_eq_true rfl⟩) (fun r_134 e_134 => ?_)
            subst e_134
            refine lv_if_eq (tgt := 144) hx hb dM_holds_137 (by decide) (fun c_137 => ?_) (fun c_137 => ?_)
            · refine lv_iconst (v := 0) hx hb dM_holds_144 (by decide) ?_
              refine lv_istore_n (lv' := [(1, .int (0)), (3, .int ((nI (m.1 0)) * (nI (m.1 1)))), (2, .int (nI k)), (0, .ref (d 0))]) hx hb dM_holds_145 rfl hl (by decide) rfl (fun ls hl => ?_)
              refine lv_iinc (v := nI (k + 1)) (lv' := [(2, .int (nI (k + 1))), (1, .int (0)), (3, .int ((nI (m.1 0)) * (nI (m.1 1)))), (0, .ref (d 0))]) hx hb dM_holds_146 hl (k := 2) rfl (nI_add k 1) (by decide) rfl (fun ls hl => ?_)
              refine lv_goto (tgt := 4) hx hb dM_holds_149 (by decide) ?_
              exact ih n (k + 1, 0) ls (by omega) ⟨by omega, by omega, by rw [← hE, f_M_holds_l_s, if_neg c_9, if_neg c_23, if_neg c_48, if_neg c_73, if_neg c_110, if_pos c_137], by first | exact Or.inl rfl | exact Or.inr rfl | assumption, lv_sub hl [0, 1, 3] rfl⟩
            · refine lv_iconst (v := 1) hx hb dM_holds_140 (by decide) ?_
              refine lv_goto (tgt := 145) hx hb dM_holds_141 (by decide) ?_
              refine lv_istore_n (lv' := [(1, .int (1)), (3, .int ((nI (m.1 0)) * (nI (m.1 1)))), (2, .int (nI k)), (0, .ref (d 0))]) hx hb dM_holds_145 rfl hl (by decide) rfl (fun ls hl => ?_)
              refine lv_iinc (v := nI (k + 1)) (lv' := [(2, .int (nI (k + 1))), (1, .int (1)), (3, .int ((nI (m.1 0)) * (nI (m.1 1)))), (0, .ref (d 0))]) hx hb dM_holds_146 hl (k := 2) rfl (nI_add k 1) (by decide) rfl (fun ls hl => ?_)
              refine lv_goto (tgt := 4) hx hb dM_holds_149 (by decide) ?_
              exact ih n (k + 1, 1) ls (by omega) ⟨by omega, by omega, by rw [← hE, f_M_holds_l_s, if_neg c_9, if_neg c_23, if_neg c_48, if_neg c_73, if_neg c_110, if_neg c_137], by first | exact Or.inl rfl | exact Or.inr rfl | assumption, lv_sub hl [0, 1, 3] rfl⟩
end
section
theorem dX_isAmount_0 : decode prog_1_method_23_code 0 = .ok (.lload_n 0, 1) := by decide +kernel
theorem dX_isAmount_1 : decode prog_1_method_23_code 1 = .ok (.lconst 1, 1) := by decide +kernel
theorem dX_isAmount_2 : decode prog_1_method_23_code 2 = .ok (.lcmp, 1) := by decide +kernel
theorem dX_isAmount_3 : decode prog_1_method_23_code 3 = .ok (.ifCond .lt 15, 3) := by decide +kernel
theorem dX_isAmount_6 : decode prog_1_method_23_code 6 = .ok (.lload_n 0, 1) := by decide +kernel
theorem dX_isAmount_7 : decode prog_1_method_23_code 7 = .ok (.ldc2_w 114, 3) := by decide +kernel
theorem dX_isAmount_10 : decode prog_1_method_23_code 10 = .ok (.lcmp, 1) := by decide +kernel
theorem dX_isAmount_11 : decode prog_1_method_23_code 11 = .ok (.ifCond .gt 7, 3) := by decide +kernel
theorem dX_isAmount_14 : decode prog_1_method_23_code 14 = .ok (.iconst 1, 1) := by decide +kernel
theorem dX_isAmount_15 : decode prog_1_method_23_code 15 = .ok (.goto 4, 3) := by decide +kernel
theorem dX_isAmount_18 : decode prog_1_method_23_code 18 = .ok (.iconst 0, 1) := by decide +kernel
theorem dX_isAmount_19 : decode prog_1_method_23_code 19 = .ok (.ireturn, 1) := by decide +kernel
def f_X_isAmount (v : Int64) : Int32 := if v < 1 then 0 else (if 999999999999999 < v then 0 else 1)
theorem b_X_isAmount (v : Int64) : f_X_isAmount v = 0 ∨ f_X_isAmount v = 1 := by
  unfold f_X_isAmount
  repeat' (first | split | exact Or.inl rfl | exact Or.inr rfl)
set_option maxHeartbeats 4000000 in
set_option maxRecDepth 100000 in
theorem c_X_isAmount (l : Launch) (D : va_G) (cI cL cQ : ClassId) (d : Nat → Nat) (κ : Nat → Option va_E) (sz : Nat) (v : Int64)  : Met l yX_isAmount wX_isAmount { frames := 0, cells := 0, slots := 0, locals := 0 } (va_Pc [.long (v)] (kC D vCl (kT cI cL cQ) d κ sz)) (vp_Si (fun r => r = f_X_isAmount v)) 0 0 (fun _ => False) := by
  refine kMet (by decide) (Nat.le_of_ble_eq_true rfl) ?_
  intro p0 e0 s0 m0 below0 meth0 c0 hx hb hr hml hown hlocks hin hts hsz hP hK ls hl
  have hl : lv_has ls 2 [(0, .long (v))] := hl
  refine lv_lload_n hx hb dX_isAmount_0 rfl (lv_at hl 0 rfl) ?_
  refine lv_lconst (v := 1) hx hb dX_isAmount_1 (by decide) ?_
  refine kl_lt (tgt := 18) hx hb dX_isAmount_2 dX_isAmount_3 (by decide) (fun c_2 => ?_) (fun c_2 => ?_)
  · refine lv_iconst (v := 0) hx hb dX_isAmount_18 (by decide) ?_
    exact W.zret (v := 0) hx hb hr k_nar0 (fun t ht hW => ⟨_, rfl, by rw [f_X_isAmount, if_pos c_2], ht⟩) (fun q h => by cases h) dX_isAmount_19
  · refine lv_lload_n hx hb dX_isAmount_6 rfl (lv_at hl 0 rfl) ?_
    refine lv_ldc2 (v := 999999999999999) hx hb hown (hts _ tw_167) dX_isAmount_7 ?_
    refine kl_gt (tgt := 18) hx hb dX_isAmount_10 dX_isAmount_11 (by decide) (fun c_10 => ?_) (fun c_10 => ?_)
    · refine lv_iconst (v := 0) hx hb dX_isAmount_18 (by decide) ?_
      exact W.zret (v := 0) hx hb hr k_nar0 (fun t ht hW => ⟨_, rfl, by rw [f_X_isAmount, if_neg c_2, if_pos c_10], ht⟩) (fun q h => by cases h) dX_isAmount_19
    · refine lv_iconst (v := 1) hx hb dX_isAmount_14 (by decide) ?_
      refine lv_goto (tgt := 19) hx hb dX_isAmount_15 (by decide) ?_
      exact W.zret (v := 1) hx hb hr k_nar1 (fun t ht hW => ⟨_, rfl, by rw [f_X_isAmount, if_neg c_2, if_neg c_10], ht⟩) (fun q h => by cases h) dX_isAmount_19

theorem dX_isPriced_0 : decode prog_1_method_24_code 0 = .ok (.lload_n 0, 1) := by decide +kernel
theorem dX_isPriced_1 : decode prog_1_method_24_code 1 = .ok (.lconst 0, 1) := by decide +kernel
theorem dX_isPriced_2 : decode prog_1_method_24_code 2 = .ok (.lcmp, 1) := by decide +kernel
theorem dX_isPriced_3 : decode prog_1_method_24_code 3 = .ok (.ifCond .lt 25, 3) := by decide +kernel
theorem dX_isPriced_6 : decode prog_1_method_24_code 6 = .ok (.lload_n 0, 1) := by decide +kernel
theorem dX_isPriced_7 : decode prog_1_method_24_code 7 = .ok (.ldc2_w 114, 3) := by decide +kernel
theorem dX_isPriced_10 : decode prog_1_method_24_code 10 = .ok (.lcmp, 1) := by decide +kernel
theorem dX_isPriced_11 : decode prog_1_method_24_code 11 = .ok (.ifCond .gt 17, 3) := by decide +kernel
theorem dX_isPriced_14 : decode prog_1_method_24_code 14 = .ok (.iload_n 2, 1) := by decide +kernel
theorem dX_isPriced_15 : decode prog_1_method_24_code 15 = .ok (.ifCond .lt 13, 3) := by decide +kernel
theorem dX_isPriced_18 : decode prog_1_method_24_code 18 = .ok (.iload_n 2, 1) := by decide +kernel
theorem dX_isPriced_19 : decode prog_1_method_24_code 19 = .ok (.bipush 99, 2) := by decide +kernel
theorem dX_isPriced_21 : decode prog_1_method_24_code 21 = .ok (.if_icmp .gt 7, 3) := by decide +kernel
theorem dX_isPriced_24 : decode prog_1_method_24_code 24 = .ok (.iconst 1, 1) := by decide +kernel
theorem dX_isPriced_25 : decode prog_1_method_24_code 25 = .ok (.goto 4, 3) := by decide +kernel
theorem dX_isPriced_28 : decode prog_1_method_24_code 28 = .ok (.iconst 0, 1) := by decide +kernel
theorem dX_isPriced_29 : decode prog_1_method_24_code 29 = .ok (.ireturn, 1) := by decide +kernel
def f_X_isPriced (price : Int64) (haircut : Int32) : Int32 := if price < 0 then 0 else (if 999999999999999 < price then 0 else (if haircut < 0 then 0 else (if 99 < haircut then 0 else 1)))
theorem b_X_isPriced (price : Int64) (haircut : Int32) : f_X_isPriced price haircut = 0 ∨ f_X_isPriced price haircut = 1 := by
  unfold f_X_isPriced
  repeat' (first | split | exact Or.inl rfl | exact Or.inr rfl)
set_option maxHeartbeats 4000000 in
set_option maxRecDepth 100000 in
theorem c_X_isPriced (l : Launch) (D : va_G) (cI cL cQ : ClassId) (d : Nat → Nat) (κ : Nat → Option va_E) (sz : Nat) (price : Int64) (haircut : Int32)  : Met l yX_isPriced wX_isPriced { frames := 0, cells := 0, slots := 0, locals := 0 } (va_Pc [.long (price), .int (haircut)] (kC D vCl (kT cI cL cQ) d κ sz)) (vp_Si (fun r => r = f_X_isPriced price haircut)) 0 0 (fun _ => False) := by
  refine kMet (by decide) (Nat.le_of_ble_eq_true rfl) ?_
  intro p0 e0 s0 m0 below0 meth0 c0 hx hb hr hml hown hlocks hin hts hsz hP hK ls hl
  have hl : lv_has ls 3 [(0, .long (price)), (2, .int (haircut))] := hl
  refine lv_lload_n hx hb dX_isPriced_0 rfl (lv_at hl 0 rfl) ?_
  refine lv_lconst (v := 0) hx hb dX_isPriced_1 (by decide) ?_
  refine kl_lt (tgt := 28) hx hb dX_isPriced_2 dX_isPriced_3 (by decide) (fun c_2 => ?_) (fun c_2 => ?_)
  · refine lv_iconst (v := 0) hx hb dX_isPriced_28 (by decide) ?_
    exact W.zret (v := 0) hx hb hr k_nar0 (fun t ht hW => ⟨_, rfl, by rw [f_X_isPriced, if_pos c_2], ht⟩) (fun q h => by cases h) dX_isPriced_29
  · refine lv_lload_n hx hb dX_isPriced_6 rfl (lv_at hl 0 rfl) ?_
    refine lv_ldc2 (v := 999999999999999) hx hb hown (hts _ tw_167) dX_isPriced_7 ?_
    refine kl_gt (tgt := 28) hx hb dX_isPriced_10 dX_isPriced_11 (by decide) (fun c_10 => ?_) (fun c_10 => ?_)
    · refine lv_iconst (v := 0) hx hb dX_isPriced_28 (by decide) ?_
      exact W.zret (v := 0) hx hb hr k_nar0 (fun t ht hW => ⟨_, rfl, by rw [f_X_isPriced, if_neg c_2, if_pos c_10], ht⟩) (fun q h => by cases h) dX_isPriced_29
    · refine lv_iload_n hx hb dX_isPriced_14 rfl (lv_at hl 1 rfl) ?_
      refine lv_if_lt (tgt := 28) hx hb dX_isPriced_15 (by decide) (fun c_15 => ?_) (fun c_15 => ?_)
      · refine lv_iconst (v := 0) hx hb dX_isPriced_28 (by decide) ?_
        exact W.zret (v := 0) hx hb hr k_nar0 (fun t ht hW => ⟨_, rfl, by rw [f_X_isPriced, if_neg c_2, if_neg c_10, if_pos c_15], ht⟩) (fun q h => by cases h) dX_isPriced_29
      · refine lv_iload_n hx hb dX_isPriced_18 rfl (lv_at hl 1 rfl) ?_
        refine lv_bipush (v := 99) hx hb dX_isPriced_19 (by decide) ?_
        refine lv_icmp_gt (tgt := 28) hx hb dX_isPriced_21 (by decide) (fun c_21 => ?_) (fun c_21 => ?_)
        · refine lv_iconst (v := 0) hx hb dX_isPriced_28 (by decide) ?_
          exact W.zret (v := 0) hx hb hr k_nar0 (fun t ht hW => ⟨_, rfl, by rw [f_X_isPriced, if_neg c_2, if_neg c_10, if_neg c_15, if_pos c_21], ht⟩) (fun q h => by cases h) dX_isPriced_29
        · refine lv_iconst (v := 1) hx hb dX_isPriced_24 (by decide) ?_
          refine lv_goto (tgt := 29) hx hb dX_isPriced_25 (by decide) ?_
          exact W.zret (v := 1) hx hb hr k_nar1 (fun t ht hW => ⟨_, rfl, by rw [f_X_isPriced, if_neg c_2, if_neg c_10, if_neg c_15, if_neg c_21], ht⟩) (fun q h => by cases h) dX_isPriced_29

theorem dX_rateOf_0 : decode prog_1_method_32_code 0 = .ok (.lload_n 0, 1) := by decide +kernel
theorem dX_rateOf_1 : decode prog_1_method_32_code 1 = .ok (.bipush 100, 2) := by decide +kernel
theorem dX_rateOf_3 : decode prog_1_method_32_code 3 = .ok (.iload_n 2, 1) := by decide +kernel
theorem dX_rateOf_4 : decode prog_1_method_32_code 4 = .ok (.isub, 1) := by decide +kernel
theorem dX_rateOf_5 : decode prog_1_method_32_code 5 = .ok (.i2l, 1) := by decide +kernel
theorem dX_rateOf_6 : decode prog_1_method_32_code 6 = .ok (.lmul, 1) := by decide +kernel
theorem dX_rateOf_7 : decode prog_1_method_32_code 7 = .ok (.lreturn, 1) := by decide +kernel
def f_X_rateOf (price : Int64) (haircut : Int32) : Int64 := price * ((100 - haircut).toInt64)
set_option maxHeartbeats 4000000 in
set_option maxRecDepth 100000 in
theorem c_X_rateOf (l : Launch) (D : va_G) (cI cL cQ : ClassId) (d : Nat → Nat) (κ : Nat → Option va_E) (sz : Nat) (price : Int64) (haircut : Int32)  : Met l yX_rateOf wX_rateOf { frames := 0, cells := 0, slots := 0, locals := 0 } (va_Pc [.long (price), .int (haircut)] (kC D vCl (kT cI cL cQ) d κ sz)) (vp_Sl (fun r => r = f_X_rateOf price haircut)) 0 0 (fun _ => False) := by
  refine kMet (by decide) (Nat.le_of_ble_eq_true rfl) ?_
  intro p0 e0 s0 m0 below0 meth0 c0 hx hb hr hml hown hlocks hin hts hsz hP hK ls hl
  have hl : lv_has ls 3 [(0, .long (price)), (2, .int (haircut))] := hl
  refine lv_lload_n hx hb dX_rateOf_0 rfl (lv_at hl 0 rfl) ?_
  refine lv_bipush (v := 100) hx hb dX_rateOf_1 (by decide) ?_
  refine lv_iload_n hx hb dX_rateOf_3 rfl (lv_at hl 1 rfl) ?_
  refine lv_isub hx hb dX_rateOf_4 ?_
  refine lv_i2l hx hb dX_rateOf_5 rfl ?_
  refine lv_lmul hx hb dX_rateOf_6 ?_
  exact W.lret (v := price * ((100 - haircut).toInt64)) hx hb hr (fun t ht hW => ⟨_, rfl, by rw [f_X_rateOf], ht⟩) (fun q h => by cases h) dX_rateOf_7

theorem dX_worth_0 : decode prog_1_method_35_code 0 = .ok (.lload_n 2, 1) := by decide +kernel
theorem dX_worth_1 : decode prog_1_method_35_code 1 = .ok (.ldc2_w 210, 3) := by decide +kernel
theorem dX_worth_4 : decode prog_1_method_35_code 4 = .ok (.ldiv, 1) := by decide +kernel
theorem dX_worth_5 : decode prog_1_method_35_code 5 = .ok (.lstore 4, 2) := by decide +kernel
theorem dX_worth_7 : decode prog_1_method_35_code 7 = .ok (.lload_n 2, 1) := by decide +kernel
theorem dX_worth_8 : decode prog_1_method_35_code 8 = .ok (.ldc2_w 210, 3) := by decide +kernel
theorem dX_worth_11 : decode prog_1_method_35_code 11 = .ok (.lrem, 1) := by decide +kernel
theorem dX_worth_12 : decode prog_1_method_35_code 12 = .ok (.lstore 6, 2) := by decide +kernel
theorem dX_worth_14 : decode prog_1_method_35_code 14 = .ok (.lload 4, 2) := by decide +kernel
theorem dX_worth_16 : decode prog_1_method_35_code 16 = .ok (.lconst 0, 1) := by decide +kernel
theorem dX_worth_17 : decode prog_1_method_35_code 17 = .ok (.lcmp, 1) := by decide +kernel
theorem dX_worth_18 : decode prog_1_method_35_code 18 = .ok (.ifCond .le 18, 3) := by decide +kernel
theorem dX_worth_21 : decode prog_1_method_35_code 21 = .ok (.lload_n 0, 1) := by decide +kernel
theorem dX_worth_22 : decode prog_1_method_35_code 22 = .ok (.ldc2_w 212, 3) := by decide +kernel
theorem dX_worth_25 : decode prog_1_method_35_code 25 = .ok (.lload 4, 2) := by decide +kernel
theorem dX_worth_27 : decode prog_1_method_35_code 27 = .ok (.ldiv, 1) := by decide +kernel
theorem dX_worth_28 : decode prog_1_method_35_code 28 = .ok (.lcmp, 1) := by decide +kernel
theorem dX_worth_29 : decode prog_1_method_35_code 29 = .ok (.ifCond .le 7, 3) := by decide +kernel
theorem dX_worth_32 : decode prog_1_method_35_code 32 = .ok (.ldc2_w 203, 3) := by decide +kernel
theorem dX_worth_35 : decode prog_1_method_35_code 35 = .ok (.lreturn, 1) := by decide +kernel
theorem dX_worth_36 : decode prog_1_method_35_code 36 = .ok (.lload_n 0, 1) := by decide +kernel
theorem dX_worth_37 : decode prog_1_method_35_code 37 = .ok (.lload 4, 2) := by decide +kernel
theorem dX_worth_39 : decode prog_1_method_35_code 39 = .ok (.lmul, 1) := by decide +kernel
theorem dX_worth_40 : decode prog_1_method_35_code 40 = .ok (.lload_n 0, 1) := by decide +kernel
theorem dX_worth_41 : decode prog_1_method_35_code 41 = .ok (.ldc2_w 210, 3) := by decide +kernel
theorem dX_worth_44 : decode prog_1_method_35_code 44 = .ok (.ldiv, 1) := by decide +kernel
theorem dX_worth_45 : decode prog_1_method_35_code 45 = .ok (.lload 6, 2) := by decide +kernel
theorem dX_worth_47 : decode prog_1_method_35_code 47 = .ok (.lmul, 1) := by decide +kernel
theorem dX_worth_48 : decode prog_1_method_35_code 48 = .ok (.ladd, 1) := by decide +kernel
theorem dX_worth_49 : decode prog_1_method_35_code 49 = .ok (.lload_n 0, 1) := by decide +kernel
theorem dX_worth_50 : decode prog_1_method_35_code 50 = .ok (.ldc2_w 210, 3) := by decide +kernel
theorem dX_worth_53 : decode prog_1_method_35_code 53 = .ok (.lrem, 1) := by decide +kernel
theorem dX_worth_54 : decode prog_1_method_35_code 54 = .ok (.lload 6, 2) := by decide +kernel
theorem dX_worth_56 : decode prog_1_method_35_code 56 = .ok (.lmul, 1) := by decide +kernel
theorem dX_worth_57 : decode prog_1_method_35_code 57 = .ok (.ldc2_w 210, 3) := by decide +kernel
theorem dX_worth_60 : decode prog_1_method_35_code 60 = .ok (.ldiv, 1) := by decide +kernel
theorem dX_worth_61 : decode prog_1_method_35_code 61 = .ok (.ladd, 1) := by decide +kernel
theorem dX_worth_62 : decode prog_1_method_35_code 62 = .ok (.lstore 8, 2) := by decide +kernel
theorem dX_worth_64 : decode prog_1_method_35_code 64 = .ok (.lload 8, 2) := by decide +kernel
theorem dX_worth_66 : decode prog_1_method_35_code 66 = .ok (.ldc2_w 203, 3) := by decide +kernel
theorem dX_worth_69 : decode prog_1_method_35_code 69 = .ok (.invokestatic 205, 3) := by decide +kernel
theorem dX_worth_72 : decode prog_1_method_35_code 72 = .ok (.lreturn, 1) := by decide +kernel
def f_X_worth (pledged : Int64) (rate : Int64) : Int64 := if 0 < (rate / 100) then (if (4000000000000000000 / (rate / 100)) < pledged then 4000000000000000001 else (if 4000000000000000001 < (((pledged * (rate / 100)) + ((pledged / 100) * (rate - rate / 100 * 100))) + (((pledged - pledged / 100 * 100) * (rate - rate / 100 * 100)) / 100)) then 4000000000000000001 else ((pledged * (rate / 100)) + ((pledged / 100) * (rate - rate / 100 * 100))) + (((pledged - pledged / 100 * 100) * (rate - rate / 100 * 100)) / 100))) else (if 4000000000000000001 < (((pledged * (rate / 100)) + ((pledged / 100) * (rate - rate / 100 * 100))) + (((pledged - pledged / 100 * 100) * (rate - rate / 100 * 100)) / 100)) then 4000000000000000001 else ((pledged * (rate / 100)) + ((pledged / 100) * (rate - rate / 100 * 100))) + (((pledged - pledged / 100 * 100) * (rate - rate / 100 * 100)) / 100))
set_option maxHeartbeats 4000000 in
set_option maxRecDepth 100000 in
theorem c_X_worth (l : Launch) (D : va_G) (cI cL cQ : ClassId) (d : Nat → Nat) (κ : Nat → Option va_E) (sz : Nat) (pledged : Int64) (rate : Int64)  : Met l yX_worth wX_worth { frames := 1, cells := 0, slots := 0, locals := 23 } (va_Pc [.long (pledged), .long (rate)] (kC D vCl (kT cI cL cQ) d κ sz)) (vp_Sl (fun r => r = f_X_worth pledged rate)) 0 0 (fun _ => False) := by
  refine kMet (by decide) (Nat.le_of_ble_eq_true rfl) ?_
  intro p0 e0 s0 m0 below0 meth0 c0 hx hb hr hml hown hlocks hin hts hsz hP hK ls hl
  have hl : lv_has ls 10 [(0, .long (pledged)), (2, .long (rate))] := hl
  refine lv_lload_n hx hb dX_worth_0 rfl (lv_at hl 1 rfl) ?_
  refine lv_ldc2 (v := 100) hx hb hown (hts _ tw_194) dX_worth_1 ?_
  refine lv_ldiv hx hb dX_worth_4 (by decide) ?_
  refine lv_lstore (lv' := [(4, .long (rate / 100)), (0, .long (pledged)), (2, .long (rate))]) hx hb dX_worth_5 hl (by decide) rfl (fun ls hl => ?_)
  refine lv_lload_n hx hb dX_worth_7 rfl (lv_at hl 2 rfl) ?_
  refine lv_ldc2 (v := 100) hx hb hown (hts _ tw_194) dX_worth_8 ?_
  refine lv_lrem hx hb dX_worth_11 (by decide) ?_
  refine lv_lstore (lv' := [(6, .long (rate - rate / 100 * 100)), (4, .long (rate / 100)), (0, .long (pledged)), (2, .long (rate))]) hx hb dX_worth_12 hl (by decide) rfl (fun ls hl => ?_)
  refine lv_lload hx hb dX_worth_14 (lv_at hl 1 rfl) ?_
  refine lv_lconst (v := 0) hx hb dX_worth_16 (by decide) ?_
  refine kl_le (tgt := 36) hx hb dX_worth_17 dX_worth_18 (by decide) (fun c_17 => ?_) (fun c_17 => ?_)
  · refine lv_lload_n hx hb dX_worth_36 rfl (lv_at hl 2 rfl) ?_
    refine lv_lload hx hb dX_worth_37 (lv_at hl 1 rfl) ?_
    refine lv_lmul hx hb dX_worth_39 ?_
    refine lv_lload_n hx hb dX_worth_40 rfl (lv_at hl 2 rfl) ?_
    refine lv_ldc2 (v := 100) hx hb hown (hts _ tw_194) dX_worth_41 ?_
    refine lv_ldiv hx hb dX_worth_44 (by decide) ?_
    refine lv_lload hx hb dX_worth_45 (lv_at hl 0 rfl) ?_
    refine lv_lmul hx hb dX_worth_47 ?_
    refine lv_ladd hx hb dX_worth_48 ?_
    refine lv_lload_n hx hb dX_worth_49 rfl (lv_at hl 2 rfl) ?_
    refine lv_ldc2 (v := 100) hx hb hown (hts _ tw_194) dX_worth_50 ?_
    refine lv_lrem hx hb dX_worth_53 (by decide) ?_
    refine lv_lload hx hb dX_worth_54 (lv_at hl 0 rfl) ?_
    refine lv_lmul hx hb dX_worth_56 ?_
    refine lv_ldc2 (v := 100) hx hb hown (hts _ tw_194) dX_worth_57 ?_
    refine lv_ldiv hx hb dX_worth_60 (by decide) ?_
    refine lv_ladd hx hb dX_worth_61 ?_
    refine lv_lstore (lv' := [(8, .long (((pledged * (rate / 100)) + ((pledged / 100) * (rate - rate / 100 * 100))) + (((pledged - pledged / 100 * 100) * (rate - rate / 100 * 100)) / 100))), (6, .long (rate - rate / 100 * 100)), (4, .long (rate / 100)), (0, .long (pledged)), (2, .long (rate))]) hx hb dX_worth_62 hl (by decide) rfl (fun ls hl => ?_)
    refine lv_lload hx hb dX_worth_64 (lv_at hl 0 rfl) ?_
    refine lv_ldc2 (v := 4000000000000000001) hx hb hown (hts _ tw_196) dX_worth_66 ?_
    refine va_mmin_long hx hb (hml.trans hl.1.symm) hown (hts _ tw_197) (hts _ tw_198) (hts _ tw_43) (hts _ tw_199) (by decide) (by decide) (Nat.zero_le _) (Nat.zero_le _) dX_worth_69 ?_
    exact W.lret (v := if 4000000000000000001 < (((pledged * (rate / 100)) + ((pledged / 100) * (rate - rate / 100 * 100))) + (((pledged - pledged / 100 * 100) * (rate - rate / 100 * 100)) / 100)) then 4000000000000000001 else ((pledged * (rate / 100)) + ((pledged / 100) * (rate - rate / 100 * 100))) + (((pledged - pledged / 100 * 100) * (rate - rate / 100 * 100)) / 100)) hx hb hr (fun t ht hW => ⟨_, rfl, by rw [f_X_worth, if_neg c_17], ht⟩) (fun q h => by cases h) dX_worth_72
  · refine lv_lload_n hx hb dX_worth_21 rfl (lv_at hl 2 rfl) ?_
    refine lv_ldc2 (v := 4000000000000000000) hx hb hown (hts _ tw_195) dX_worth_22 ?_
    refine lv_lload hx hb dX_worth_25 (lv_at hl 1 rfl) ?_
    refine lv_ldiv hx hb dX_worth_27 (fun q => absurd c_17 (by rw [q]; decide)) ?_
    refine kl_le (tgt := 36) hx hb dX_worth_28 dX_worth_29 (by decide) (fun c_28 => ?_) (fun c_28 => ?_)
    · refine lv_lload_n hx hb dX_worth_36 rfl (lv_at hl 2 rfl) ?_
      refine lv_lload hx hb dX_worth_37 (lv_at hl 1 rfl) ?_
      refine lv_lmul hx hb dX_worth_39 ?_
      refine lv_lload_n hx hb dX_worth_40 rfl (lv_at hl 2 rfl) ?_
      refine lv_ldc2 (v := 100) hx hb hown (hts _ tw_194) dX_worth_41 ?_
      refine lv_ldiv hx hb dX_worth_44 (by decide) ?_
      refine lv_lload hx hb dX_worth_45 (lv_at hl 0 rfl) ?_
      refine lv_lmul hx hb dX_worth_47 ?_
      refine lv_ladd hx hb dX_worth_48 ?_
      refine lv_lload_n hx hb dX_worth_49 rfl (lv_at hl 2 rfl) ?_
      refine lv_ldc2 (v := 100) hx hb hown (hts _ tw_194) dX_worth_50 ?_
      refine lv_lrem hx hb dX_worth_53 (by decide) ?_
      refine lv_lload hx hb dX_worth_54 (lv_at hl 0 rfl) ?_
      refine lv_lmul hx hb dX_worth_56 ?_
      refine lv_ldc2 (v := 100) hx hb hown (hts _ tw_194) dX_worth_57 ?_
      refine lv_ldiv hx hb dX_worth_60 (by decide) ?_
      refine lv_ladd hx hb dX_worth_61 ?_
      refine lv_lstore (lv' := [(8, .long (((pledged * (rate / 100)) + ((pledged / 100) * (rate - rate / 100 * 100))) + (((pledged - pledged / 100 * 100) * (rate - rate / 100 * 100)) / 100))), (6, .long (rate - rate / 100 * 100)), (4, .long (rate / 100)), (0, .long (pledged)), (2, .long (rate))]) hx hb dX_worth_62 hl (by decide) rfl (fun ls hl => ?_)
      refine lv_lload hx hb dX_worth_64 (lv_at hl 0 rfl) ?_
      refine lv_ldc2 (v := 4000000000000000001) hx hb hown (hts _ tw_196) dX_worth_66 ?_
      refine va_mmin_long hx hb (hml.trans hl.1.symm) hown (hts _ tw_197) (hts _ tw_198) (hts _ tw_43) (hts _ tw_199) (by decide) (by decide) (Nat.zero_le _) (Nat.zero_le _) dX_worth_69 ?_
      exact W.lret (v := if 4000000000000000001 < (((pledged * (rate / 100)) + ((pledged / 100) * (rate - rate / 100 * 100))) + (((pledged - pledged / 100 * 100) * (rate - rate / 100 * 100)) / 100)) then 4000000000000000001 else ((pledged * (rate / 100)) + ((pledged / 100) * (rate - rate / 100 * 100))) + (((pledged - pledged / 100 * 100) * (rate - rate / 100 * 100)) / 100)) hx hb hr (fun t ht hW => ⟨_, rfl, by rw [f_X_worth, if_pos c_17, if_neg c_28], ht⟩) (fun q h => by cases h) dX_worth_72
    · refine lv_ldc2 (v := 4000000000000000001) hx hb hown (hts _ tw_196) dX_worth_32 ?_
      exact W.lret (v := 4000000000000000001) hx hb hr (fun t ht hW => ⟨_, rfl, by rw [f_X_worth, if_pos c_17, if_pos c_28], ht⟩) (fun q h => by cases h) dX_worth_35

theorem dX_isClient_0 : decode prog_1_method_21_code 0 = .ok (.iload_n 1, 1) := by decide +kernel
theorem dX_isClient_1 : decode prog_1_method_21_code 1 = .ok (.ifCond .le 15, 3) := by decide +kernel
theorem dX_isClient_4 : decode prog_1_method_21_code 4 = .ok (.iload_n 1, 1) := by decide +kernel
theorem dX_isClient_5 : decode prog_1_method_21_code 5 = .ok (.aload_n 0, 1) := by decide +kernel
theorem dX_isClient_6 : decode prog_1_method_21_code 6 = .ok (.getfield 9, 3) := by decide +kernel
theorem dX_isClient_9 : decode prog_1_method_21_code 9 = .ok (.if_icmp .ge 7, 3) := by decide +kernel
theorem dX_isClient_12 : decode prog_1_method_21_code 12 = .ok (.iconst 1, 1) := by decide +kernel
theorem dX_isClient_13 : decode prog_1_method_21_code 13 = .ok (.goto 4, 3) := by decide +kernel
theorem dX_isClient_16 : decode prog_1_method_21_code 16 = .ok (.iconst 0, 1) := by decide +kernel
theorem dX_isClient_17 : decode prog_1_method_21_code 17 = .ok (.ireturn, 1) := by decide +kernel
def f_X_isClient (x : XS) (p : Int32) : Int32 := if p ≤ 0 then 0 else (if (nI (x.1 0)) ≤ p then 0 else 1)
theorem b_X_isClient (x : XS) (p : Int32) : f_X_isClient x p = 0 ∨ f_X_isClient x p = 1 := by
  unfold f_X_isClient
  repeat' (first | split | exact Or.inl rfl | exact Or.inr rfl)
set_option maxHeartbeats 4000000 in
set_option maxRecDepth 100000 in
theorem c_X_isClient (l : Launch) (D : va_G) (cI cL cQ : ClassId) (d : Nat → Nat) (κ : Nat → Option va_E) (x : XS) (hX : IsX cI cL cQ d κ x) (hB : XB x) (sz : Nat) (p : Int32)  : Met l yX_isClient wX_isClient { frames := 0, cells := 0, slots := 0, locals := 0 } (va_Pc [.ref (d 18), .int (p)] (kC D vCl (kT cI cL cQ) d κ sz)) (vp_Si (fun r => r = f_X_isClient x p)) 0 0 (fun _ => False) := by
  refine kMet (by decide) (Nat.le_of_ble_eq_true rfl) ?_
  intro p0 e0 s0 m0 below0 meth0 c0 hx hb hr hml hown hlocks hin hts hsz hP hK ls hl
  have hl : lv_has ls 2 [(0, .ref (d 18)), (1, .int (p))] := hl
  have hB9 := hB
  obtain ⟨hb0, hb1, hb2, hb3, hb4, hb5, hb6, hb7, hb8⟩ := hB9
  refine lv_iload_n hx hb dX_isClient_0 rfl (lv_at hl 1 rfl) ?_
  refine lv_if_le (tgt := 16) hx hb dX_isClient_1 (by decide) (fun c_1 => ?_) (fun c_1 => ?_)
  · refine lv_iconst (v := 0) hx hb dX_isClient_16 (by decide) ?_
    exact W.zret (v := 0) hx hb hr k_nar0 (fun t ht hW => ⟨_, rfl, by rw [f_X_isClient, if_pos c_1], ht⟩) (fun q h => by cases h) dX_isClient_17
  · refine lv_iload_n hx hb dX_isClient_4 rfl (lv_at hl 1 rfl) ?_
    refine lv_aload_n hx hb dX_isClient_5 rfl (lv_at hl 0 rfl) ?_
    refine ka_get (ci := 3) (C := RX) (T := TX) (N := 10) hx hb hts inX hown hK hP (q := 18) hX.1 rfl 0 (by decide) (hts _ tw_99) (fun _ h9 => h9) rfl dX_isClient_6 ?_
    refine lv_icmp_ge (tgt := 16) hx hb dX_isClient_9 (by decide) (fun c_9 => ?_) (fun c_9 => ?_)
    · refine lv_iconst (v := 0) hx hb dX_isClient_16 (by decide) ?_
      exact W.zret (v := 0) hx hb hr k_nar0 (fun t ht hW => ⟨_, rfl, by rw [f_X_isClient, if_neg c_1, if_pos c_9], ht⟩) (fun q h => by cases h) dX_isClient_17
    · refine lv_iconst (v := 1) hx hb dX_isClient_12 (by decide) ?_
      refine lv_goto (tgt := 17) hx hb dX_isClient_13 (by decide) ?_
      exact W.zret (v := 1) hx hb hr k_nar1 (fun t ht hW => ⟨_, rfl, by rw [f_X_isClient, if_neg c_1, if_neg c_9], ht⟩) (fun q h => by cases h) dX_isClient_17

theorem dX_areTwoClients_0 : decode prog_1_method_22_code 0 = .ok (.aload_n 0, 1) := by decide +kernel
theorem dX_areTwoClients_1 : decode prog_1_method_22_code 1 = .ok (.iload_n 1, 1) := by decide +kernel
theorem dX_areTwoClients_2 : decode prog_1_method_22_code 2 = .ok (.invokevirtual 82, 3) := by decide +kernel
theorem dX_areTwoClients_5 : decode prog_1_method_22_code 5 = .ok (.ifCond .eq 20, 3) := by decide +kernel
theorem dX_areTwoClients_8 : decode prog_1_method_22_code 8 = .ok (.aload_n 0, 1) := by decide +kernel
theorem dX_areTwoClients_9 : decode prog_1_method_22_code 9 = .ok (.iload_n 2, 1) := by decide +kernel
theorem dX_areTwoClients_10 : decode prog_1_method_22_code 10 = .ok (.invokevirtual 82, 3) := by decide +kernel
theorem dX_areTwoClients_13 : decode prog_1_method_22_code 13 = .ok (.ifCond .eq 12, 3) := by decide +kernel
theorem dX_areTwoClients_16 : decode prog_1_method_22_code 16 = .ok (.iload_n 1, 1) := by decide +kernel
theorem dX_areTwoClients_17 : decode prog_1_method_22_code 17 = .ok (.iload_n 2, 1) := by decide +kernel
theorem dX_areTwoClients_18 : decode prog_1_method_22_code 18 = .ok (.if_icmp .eq 7, 3) := by decide +kernel
theorem dX_areTwoClients_21 : decode prog_1_method_22_code 21 = .ok (.iconst 1, 1) := by decide +kernel
theorem dX_areTwoClients_22 : decode prog_1_method_22_code 22 = .ok (.goto 4, 3) := by decide +kernel
theorem dX_areTwoClients_25 : decode prog_1_method_22_code 25 = .ok (.iconst 0, 1) := by decide +kernel
theorem dX_areTwoClients_26 : decode prog_1_method_22_code 26 = .ok (.ireturn, 1) := by decide +kernel
def f_X_areTwoClients (x : XS) (p : Int32) (q : Int32) : Int32 := if (f_X_isClient x p) = 0 then 0 else (if (f_X_isClient x q) = 0 then 0 else (if p = q then 0 else 1))
theorem b_X_areTwoClients (x : XS) (p : Int32) (q : Int32) : f_X_areTwoClients x p q = 0 ∨ f_X_areTwoClients x p q = 1 := by
  unfold f_X_areTwoClients
  repeat' (first | split | exact Or.inl rfl | exact Or.inr rfl)
set_option maxHeartbeats 4000000 in
set_option maxRecDepth 100000 in
theorem c_X_areTwoClients (l : Launch) (D : va_G) (cI cL cQ : ClassId) (d : Nat → Nat) (κ : Nat → Option va_E) (x : XS) (hX : IsX cI cL cQ d κ x) (hB : XB x) (sz : Nat) (p : Int32) (q : Int32)  : Met l yX_areTwoClients wX_areTwoClients { frames := 1, cells := 0, slots := 0, locals := 21 } (va_Pc [.ref (d 18), .int (p), .int (q)] (kC D vCl (kT cI cL cQ) d κ sz)) (vp_Si (fun r => r = f_X_areTwoClients x p q)) 0 0 (fun _ => False) := by
  refine kMet (by decide) (Nat.le_of_ble_eq_true rfl) ?_
  intro p0 e0 s0 m0 below0 meth0 c0 hx hb hr hml hown hlocks hin hts hsz hP hK ls hl
  have hl : lv_has ls 3 [(0, .ref (d 18)), (1, .int (p)), (2, .int (q))] := hl
  have hB9 := hB
  obtain ⟨hb0, hb1, hb2, hb3, hb4, hb5, hb6, hb7, hb8⟩ := hB9
  refine lv_aload_n hx hb dX_areTwoClients_0 rfl (lv_at hl 0 rfl) ?_
  refine lv_iload_n hx hb dX_areTwoClients_1 rfl (lv_at hl 1 rfl) ?_
  refine vp_callSi (W.runV (C := RX) (As := [.int (p)]) (rest := []) ⟨hx, hb, hml, hown, hts⟩ (c_X_isClient l D cI cL cQ d κ x hX hB _ p) (cwV 1 hts (k_gV tw_212 tw_214 tw_7 tw_38 tw_215) rfl rfl rfl (by decide +kernel) ⟨Nat.le_of_ble_eq_true rfl, Nat.le_of_ble_eq_true rfl⟩) (kPreV hP hK (q := 18) hX.1 rfl) rfl rfl hl.1 rfl (lv_room (Nat.le_of_ble_eq_true rfl)) dX_areTwoClients_2 ⟨Nat.le_of_ble_eq_true rfl, Nat.le_of_ble_eq_true rfl⟩) (fun r_2 e_2 => ?_)
  subst e_2
  refine lv_if_eq (tgt := 25) hx hb dX_areTwoClients_5 (by decide) (fun c_5 => ?_) (fun c_5 => ?_)
  · refine lv_iconst (v := 0) hx hb dX_areTwoClients_25 (by decide) ?_
    exact W.zret (v := 0) hx hb hr k_nar0 (fun t ht hW => ⟨_, rfl, by rw [f_X_areTwoClients, if_pos c_5], ht⟩) (fun q h => by cases h) dX_areTwoClients_26
  · refine lv_aload_n hx hb dX_areTwoClients_8 rfl (lv_at hl 0 rfl) ?_
    refine lv_iload_n hx hb dX_areTwoClients_9 rfl (lv_at hl 2 rfl) ?_
    refine vp_callSi (W.runV (C := RX) (As := [.int (q)]) (rest := []) ⟨hx, hb, hml, hown, hts⟩ (c_X_isClient l D cI cL cQ d κ x hX hB _ q) (cwV 1 hts (k_gV tw_212 tw_214 tw_7 tw_38 tw_215) rfl rfl rfl (by decide +kernel) ⟨Nat.le_of_ble_eq_true rfl, Nat.le_of_ble_eq_true rfl⟩) (kPreV hP hK (q := 18) hX.1 rfl) rfl rfl hl.1 rfl (lv_room (Nat.le_of_ble_eq_true rfl)) dX_areTwoClients_10 ⟨Nat.le_of_ble_eq_true rfl, Nat.le_of_ble_eq_true rfl⟩) (fun r_10 e_10 => ?_)
    subst e_10
    refine lv_if_eq (tgt := 25) hx hb dX_areTwoClients_13 (by decide) (fun c_13 => ?_) (fun c_13 => ?_)
    · refine lv_iconst (v := 0) hx hb dX_areTwoClients_25 (by decide) ?_
      exact W.zret (v := 0) hx hb hr k_nar0 (fun t ht hW => ⟨_, rfl, by rw [f_X_areTwoClients, if_neg c_5, if_pos c_13], ht⟩) (fun q h => by cases h) dX_areTwoClients_26
    · refine lv_iload_n hx hb dX_areTwoClients_16 rfl (lv_at hl 1 rfl) ?_
      refine lv_iload_n hx hb dX_areTwoClients_17 rfl (lv_at hl 2 rfl) ?_
      refine lv_icmp_eq (tgt := 25) hx hb dX_areTwoClients_18 (by decide) (fun c_18 => ?_) (fun c_18 => ?_)
      · refine lv_iconst (v := 0) hx hb dX_areTwoClients_25 (by decide) ?_
        exact W.zret (v := 0) hx hb hr k_nar0 (fun t ht hW => ⟨_, rfl, by rw [f_X_areTwoClients, if_neg c_5, if_neg c_13, if_pos c_18], ht⟩) (fun q h => by cases h) dX_areTwoClients_26
      · refine lv_iconst (v := 1) hx hb dX_areTwoClients_21 (by decide) ?_
        refine lv_goto (tgt := 26) hx hb dX_areTwoClients_22 (by decide) ?_
        exact W.zret (v := 1) hx hb hr k_nar1 (fun t ht hW => ⟨_, rfl, by rw [f_X_areTwoClients, if_neg c_5, if_neg c_13, if_neg c_18], ht⟩) (fun q h => by cases h) dX_areTwoClients_26

theorem dX_isPosition_0 : decode prog_1_method_25_code 0 = .ok (.iload_n 1, 1) := by decide +kernel
theorem dX_isPosition_1 : decode prog_1_method_25_code 1 = .ok (.ifCond .lt 15, 3) := by decide +kernel
theorem dX_isPosition_4 : decode prog_1_method_25_code 4 = .ok (.iload_n 1, 1) := by decide +kernel
theorem dX_isPosition_5 : decode prog_1_method_25_code 5 = .ok (.aload_n 0, 1) := by decide +kernel
theorem dX_isPosition_6 : decode prog_1_method_25_code 6 = .ok (.getfield 19, 3) := by decide +kernel
theorem dX_isPosition_9 : decode prog_1_method_25_code 9 = .ok (.if_icmp .ge 7, 3) := by decide +kernel
theorem dX_isPosition_12 : decode prog_1_method_25_code 12 = .ok (.iconst 1, 1) := by decide +kernel
theorem dX_isPosition_13 : decode prog_1_method_25_code 13 = .ok (.goto 4, 3) := by decide +kernel
theorem dX_isPosition_16 : decode prog_1_method_25_code 16 = .ok (.iconst 0, 1) := by decide +kernel
theorem dX_isPosition_17 : decode prog_1_method_25_code 17 = .ok (.ireturn, 1) := by decide +kernel
def f_X_isPosition (x : XS) (pos : Int32) : Int32 := if pos < 0 then 0 else (if (nI (x.1 0 * x.1 1)) ≤ pos then 0 else 1)
theorem b_X_isPosition (x : XS) (pos : Int32) : f_X_isPosition x pos = 0 ∨ f_X_isPosition x pos = 1 := by
  unfold f_X_isPosition
  repeat' (first | split | exact Or.inl rfl | exact Or.inr rfl)
set_option maxHeartbeats 4000000 in
set_option maxRecDepth 100000 in
theorem c_X_isPosition (l : Launch) (D : va_G) (cI cL cQ : ClassId) (d : Nat → Nat) (κ : Nat → Option va_E) (x : XS) (hX : IsX cI cL cQ d κ x) (hB : XB x) (sz : Nat) (pos : Int32)  : Met l yX_isPosition wX_isPosition { frames := 0, cells := 0, slots := 0, locals := 0 } (va_Pc [.ref (d 18), .int (pos)] (kC D vCl (kT cI cL cQ) d κ sz)) (vp_Si (fun r => r = f_X_isPosition x pos)) 0 0 (fun _ => False) := by
  refine kMet (by decide) (Nat.le_of_ble_eq_true rfl) ?_
  intro p0 e0 s0 m0 below0 meth0 c0 hx hb hr hml hown hlocks hin hts hsz hP hK ls hl
  have hl : lv_has ls 2 [(0, .ref (d 18)), (1, .int (pos))] := hl
  have hB9 := hB
  obtain ⟨hb0, hb1, hb2, hb3, hb4, hb5, hb6, hb7, hb8⟩ := hB9
  refine lv_iload_n hx hb dX_isPosition_0 rfl (lv_at hl 1 rfl) ?_
  refine lv_if_lt (tgt := 16) hx hb dX_isPosition_1 (by decide) (fun c_1 => ?_) (fun c_1 => ?_)
  · refine lv_iconst (v := 0) hx hb dX_isPosition_16 (by decide) ?_
    exact W.zret (v := 0) hx hb hr k_nar0 (fun t ht hW => ⟨_, rfl, by rw [f_X_isPosition, if_pos c_1], ht⟩) (fun q h => by cases h) dX_isPosition_17
  · refine lv_iload_n hx hb dX_isPosition_4 rfl (lv_at hl 1 rfl) ?_
    refine lv_aload_n hx hb dX_isPosition_5 rfl (lv_at hl 0 rfl) ?_
    refine ka_get (ci := 3) (C := RX) (T := TX) (N := 10) hx hb hts inX hown hK hP (q := 18) hX.1 rfl 1 (by decide) (hts _ tw_100) (fun _ h9 => h9) rfl dX_isPosition_6 ?_
    refine lv_icmp_ge (tgt := 16) hx hb dX_isPosition_9 (by decide) (fun c_9 => ?_) (fun c_9 => ?_)
    · refine lv_iconst (v := 0) hx hb dX_isPosition_16 (by decide) ?_
      exact W.zret (v := 0) hx hb hr k_nar0 (fun t ht hW => ⟨_, rfl, by rw [f_X_isPosition, if_neg c_1, if_pos c_9], ht⟩) (fun q h => by cases h) dX_isPosition_17
    · refine lv_iconst (v := 1) hx hb dX_isPosition_12 (by decide) ?_
      refine lv_goto (tgt := 17) hx hb dX_isPosition_13 (by decide) ?_
      exact W.zret (v := 1) hx hb hr k_nar1 (fun t ht hW => ⟨_, rfl, by rw [f_X_isPosition, if_neg c_1, if_neg c_9], ht⟩) (fun q h => by cases h) dX_isPosition_17

theorem dX_ownerOf_0 : decode prog_1_method_26_code 0 = .ok (.iload_n 1, 1) := by decide +kernel
theorem dX_ownerOf_1 : decode prog_1_method_26_code 1 = .ok (.aload_n 0, 1) := by decide +kernel
theorem dX_ownerOf_2 : decode prog_1_method_26_code 2 = .ok (.getfield 15, 3) := by decide +kernel
theorem dX_ownerOf_5 : decode prog_1_method_26_code 5 = .ok (.arraylength, 1) := by decide +kernel
theorem dX_ownerOf_6 : decode prog_1_method_26_code 6 = .ok (.idiv, 1) := by decide +kernel
theorem dX_ownerOf_7 : decode prog_1_method_26_code 7 = .ok (.ireturn, 1) := by decide +kernel
def f_X_ownerOf (x : XS) (pos : Int32) : Int32 := pos / (nI (x.1 1))
set_option maxHeartbeats 4000000 in
set_option maxRecDepth 100000 in
theorem c_X_ownerOf (l : Launch) (D : va_G) (cI cL cQ : ClassId) (d : Nat → Nat) (κ : Nat → Option va_E) (x : XS) (hX : IsX cI cL cQ d κ x) (hB : XB x) (sz : Nat) (pos : Int32)  : Met l yX_ownerOf wX_ownerOf { frames := 0, cells := 0, slots := 0, locals := 0 } (va_Pc [.ref (d 18), .int (pos)] (kC D vCl (kT cI cL cQ) d κ sz)) (vp_Si (fun r => r = f_X_ownerOf x pos)) 0 0 (fun _ => False) := by
  refine kMet (by decide) (Nat.le_of_ble_eq_true rfl) ?_
  intro p0 e0 s0 m0 below0 meth0 c0 hx hb hr hml hown hlocks hin hts hsz hP hK ls hl
  have hl : lv_has ls 2 [(0, .ref (d 18)), (1, .int (pos))] := hl
  have hB9 := hB
  obtain ⟨hb0, hb1, hb2, hb3, hb4, hb5, hb6, hb7, hb8⟩ := hB9
  refine lv_iload_n hx hb dX_ownerOf_0 rfl (lv_at hl 1 rfl) ?_
  refine lv_aload_n hx hb dX_ownerOf_1 rfl (lv_at hl 0 rfl) ?_
  refine ka_get (ci := 3) (C := RX) (T := TX) (N := 10) hx hb hts inX hown hK hP (q := 18) hX.1 rfl 2 (by decide) (hts _ tw_101) (fun _ h9 => h9) rfl dX_ownerOf_2 ?_
  refine ka_alen hx hb hK hP 2 (q := 19) hX.2.1 rfl (v := nI (x.1 1)) rfl dX_ownerOf_5 ?_
  refine lv_idiv hx hb dX_ownerOf_6 (nI_ne0 (by omega) (by omega)) ?_
  exact W.iret (v := pos / (nI (x.1 1))) hx hb hr (fun t ht hW => ⟨_, rfl, by rw [f_X_ownerOf], ht⟩) (fun q h => by cases h) dX_ownerOf_7

theorem dX_assetOf_0 : decode prog_1_method_27_code 0 = .ok (.iload_n 1, 1) := by decide +kernel
theorem dX_assetOf_1 : decode prog_1_method_27_code 1 = .ok (.aload_n 0, 1) := by decide +kernel
theorem dX_assetOf_2 : decode prog_1_method_27_code 2 = .ok (.getfield 15, 3) := by decide +kernel
theorem dX_assetOf_5 : decode prog_1_method_27_code 5 = .ok (.arraylength, 1) := by decide +kernel
theorem dX_assetOf_6 : decode prog_1_method_27_code 6 = .ok (.irem, 1) := by decide +kernel
theorem dX_assetOf_7 : decode prog_1_method_27_code 7 = .ok (.ireturn, 1) := by decide +kernel
def f_X_assetOf (x : XS) (pos : Int32) : Int32 := pos - pos / (nI (x.1 1)) * (nI (x.1 1))
set_option maxHeartbeats 4000000 in
set_option maxRecDepth 100000 in
theorem c_X_assetOf (l : Launch) (D : va_G) (cI cL cQ : ClassId) (d : Nat → Nat) (κ : Nat → Option va_E) (x : XS) (hX : IsX cI cL cQ d κ x) (hB : XB x) (sz : Nat) (pos : Int32)  : Met l yX_assetOf wX_assetOf { frames := 0, cells := 0, slots := 0, locals := 0 } (va_Pc [.ref (d 18), .int (pos)] (kC D vCl (kT cI cL cQ) d κ sz)) (vp_Si (fun r => r = f_X_assetOf x pos)) 0 0 (fun _ => False) := by
  refine kMet (by decide) (Nat.le_of_ble_eq_true rfl) ?_
  intro p0 e0 s0 m0 below0 meth0 c0 hx hb hr hml hown hlocks hin hts hsz hP hK ls hl
  have hl : lv_has ls 2 [(0, .ref (d 18)), (1, .int (pos))] := hl
  have hB9 := hB
  obtain ⟨hb0, hb1, hb2, hb3, hb4, hb5, hb6, hb7, hb8⟩ := hB9
  refine lv_iload_n hx hb dX_assetOf_0 rfl (lv_at hl 1 rfl) ?_
  refine lv_aload_n hx hb dX_assetOf_1 rfl (lv_at hl 0 rfl) ?_
  refine ka_get (ci := 3) (C := RX) (T := TX) (N := 10) hx hb hts inX hown hK hP (q := 18) hX.1 rfl 2 (by decide) (hts _ tw_101) (fun _ h9 => h9) rfl dX_assetOf_2 ?_
  refine ka_alen hx hb hK hP 2 (q := 19) hX.2.1 rfl (v := nI (x.1 1)) rfl dX_assetOf_5 ?_
  refine lv_irem hx hb dX_assetOf_6 (nI_ne0 (by omega) (by omega)) ?_
  exact W.iret (v := pos - pos / (nI (x.1 1)) * (nI (x.1 1))) hx hb hr (fun t ht hW => ⟨_, rfl, by rw [f_X_assetOf], ht⟩) (fun q h => by cases h) dX_assetOf_7

theorem dX_pairOf_0 : decode prog_1_method_28_code 0 = .ok (.iload_n 1, 1) := by decide +kernel
theorem dX_pairOf_1 : decode prog_1_method_28_code 1 = .ok (.aload_n 0, 1) := by decide +kernel
theorem dX_pairOf_2 : decode prog_1_method_28_code 2 = .ok (.getfield 9, 3) := by decide +kernel
theorem dX_pairOf_5 : decode prog_1_method_28_code 5 = .ok (.imul, 1) := by decide +kernel
theorem dX_pairOf_6 : decode prog_1_method_28_code 6 = .ok (.iload_n 2, 1) := by decide +kernel
theorem dX_pairOf_7 : decode prog_1_method_28_code 7 = .ok (.iadd, 1) := by decide +kernel
theorem dX_pairOf_8 : decode prog_1_method_28_code 8 = .ok (.ireturn, 1) := by decide +kernel
def f_X_pairOf (x : XS) (p : Int32) (q : Int32) : Int32 := (p * (nI (x.1 0))) + q
set_option maxHeartbeats 4000000 in
set_option maxRecDepth 100000 in
theorem c_X_pairOf (l : Launch) (D : va_G) (cI cL cQ : ClassId) (d : Nat → Nat) (κ : Nat → Option va_E) (x : XS) (hX : IsX cI cL cQ d κ x) (hB : XB x) (sz : Nat) (p : Int32) (q : Int32)  : Met l yX_pairOf wX_pairOf { frames := 0, cells := 0, slots := 0, locals := 0 } (va_Pc [.ref (d 18), .int (p), .int (q)] (kC D vCl (kT cI cL cQ) d κ sz)) (vp_Si (fun r => r = f_X_pairOf x p q)) 0 0 (fun _ => False) := by
  refine kMet (by decide) (Nat.le_of_ble_eq_true rfl) ?_
  intro p0 e0 s0 m0 below0 meth0 c0 hx hb hr hml hown hlocks hin hts hsz hP hK ls hl
  have hl : lv_has ls 3 [(0, .ref (d 18)), (1, .int (p)), (2, .int (q))] := hl
  have hB9 := hB
  obtain ⟨hb0, hb1, hb2, hb3, hb4, hb5, hb6, hb7, hb8⟩ := hB9
  refine lv_iload_n hx hb dX_pairOf_0 rfl (lv_at hl 1 rfl) ?_
  refine lv_aload_n hx hb dX_pairOf_1 rfl (lv_at hl 0 rfl) ?_
  refine ka_get (ci := 3) (C := RX) (T := TX) (N := 10) hx hb hts inX hown hK hP (q := 18) hX.1 rfl 0 (by decide) (hts _ tw_99) (fun _ h9 => h9) rfl dX_pairOf_2 ?_
  refine lv_imul hx hb dX_pairOf_5 ?_
  refine lv_iload_n hx hb dX_pairOf_6 rfl (lv_at hl 2 rfl) ?_
  refine lv_iadd hx hb dX_pairOf_7 ?_
  exact W.iret (v := (p * (nI (x.1 0))) + q) hx hb hr (fun t ht hW => ⟨_, rfl, by rw [f_X_pairOf], ht⟩) (fun q h => by cases h) dX_pairOf_8

theorem dX_assetAt_0 : decode prog_1_method_29_code 0 = .ok (.iload_n 1, 1) := by decide +kernel
theorem dX_assetAt_1 : decode prog_1_method_29_code 1 = .ok (.ifCond .lt 20, 3) := by decide +kernel
theorem dX_assetAt_4 : decode prog_1_method_29_code 4 = .ok (.iload_n 1, 1) := by decide +kernel
theorem dX_assetAt_5 : decode prog_1_method_29_code 5 = .ok (.aload_n 0, 1) := by decide +kernel
theorem dX_assetAt_6 : decode prog_1_method_29_code 6 = .ok (.getfield 22, 3) := by decide +kernel
theorem dX_assetAt_9 : decode prog_1_method_29_code 9 = .ok (.if_icmp .ge 12, 3) := by decide +kernel
theorem dX_assetAt_12 : decode prog_1_method_29_code 12 = .ok (.aload_n 0, 1) := by decide +kernel
theorem dX_assetAt_13 : decode prog_1_method_29_code 13 = .ok (.getfield 15, 3) := by decide +kernel
theorem dX_assetAt_16 : decode prog_1_method_29_code 16 = .ok (.iload_n 1, 1) := by decide +kernel
theorem dX_assetAt_17 : decode prog_1_method_29_code 17 = .ok (.aaload, 1) := by decide +kernel
theorem dX_assetAt_18 : decode prog_1_method_29_code 18 = .ok (.goto 4, 3) := by decide +kernel
theorem dX_assetAt_21 : decode prog_1_method_29_code 21 = .ok (.aconst_null, 1) := by decide +kernel
theorem dX_assetAt_22 : decode prog_1_method_29_code 22 = .ok (.areturn, 1) := by decide +kernel
set_option maxHeartbeats 4000000 in
set_option maxRecDepth 100000 in
theorem c_X_assetAt (l : Launch) (D : va_G) (cI cL cQ : ClassId) (d : Nat → Nat) (κ : Nat → Option va_E) (x : XS) (hX : IsX cI cL cQ d κ x) (hB : XB x) (sz : Nat) (a : Int32)  : Met l yX_assetAt wX_assetAt { frames := 0, cells := 0, slots := 0, locals := 0 } (va_Pc [.ref (d 18), .int (a)] (kC D vCl (kT cI cL cQ) d κ sz)) (va_Sq (fun r => r = if xIs x a then some (d (32 + 3 * (a).toNatClampNeg)) else none)) 0 0 (fun _ => False) := by
  refine kMet (by decide) (Nat.le_of_ble_eq_true rfl) ?_
  intro p0 e0 s0 m0 below0 meth0 c0 hx hb hr hml hown hlocks hin hts hsz hP hK ls hl
  have hl : lv_has ls 2 [(0, .ref (d 18)), (1, .int (a))] := hl
  have hB9 := hB
  obtain ⟨hb0, hb1, hb2, hb3, hb4, hb5, hb6, hb7, hb8⟩ := hB9
  refine lv_iload_n hx hb dX_assetAt_0 rfl (lv_at hl 1 rfl) ?_
  refine lv_if_lt (tgt := 21) hx hb dX_assetAt_1 (by decide) (fun c_1 => ?_) (fun c_1 => ?_)
  · refine lv_null hx hb dX_assetAt_21 ?_
    exact W.aret (v := va_rf (none)) hx hb hr (Or.inl ⟨_, rfl⟩) (va_rf_or _) (fun t ht hW => ⟨none, rfl, (if_neg (fun q => q.1 c_1)).symm, ht⟩) (fun q h => by cases h) dX_assetAt_22
  · refine lv_iload_n hx hb dX_assetAt_4 rfl (lv_at hl 1 rfl) ?_
    refine lv_aload_n hx hb dX_assetAt_5 rfl (lv_at hl 0 rfl) ?_
    refine ka_get (ci := 3) (C := RX) (T := TX) (N := 10) hx hb hts inX hown hK hP (q := 18) hX.1 rfl 3 (by decide) (hts _ tw_102) (fun _ h9 => h9) rfl dX_assetAt_6 ?_
    refine lv_icmp_ge (tgt := 21) hx hb dX_assetAt_9 (by decide) (fun c_9 => ?_) (fun c_9 => ?_)
    · refine lv_null hx hb dX_assetAt_21 ?_
      exact W.aret (v := va_rf (none)) hx hb hr (Or.inl ⟨_, rfl⟩) (va_rf_or _) (fun t ht hW => ⟨none, rfl, (if_neg (fun q => q.2 c_9)).symm, ht⟩) (fun q h => by cases h) dX_assetAt_22
    · refine lv_aload_n hx hb dX_assetAt_12 rfl (lv_at hl 0 rfl) ?_
      refine ka_get (ci := 3) (C := RX) (T := TX) (N := 10) hx hb hts inX hown hK hP (q := 18) hX.1 rfl 2 (by decide) (hts _ tw_101) (fun _ h9 => h9) rfl dX_assetAt_13 ?_
      refine lv_iload_n hx hb dX_assetAt_16 rfl (lv_at hl 1 rfl) ?_
      refine ka_aldq hx hb hK hP 2 (q := 19) hX.2.1 rfl (xIs_in hB ⟨c_1, c_9⟩).1 dX_assetAt_17 ?_
      refine lv_goto (tgt := 22) hx hb dX_assetAt_18 (by decide) ?_
      exact W.aret (v := va_rf ((xRef d (x.1 2)) (a).toNatClampNeg)) hx hb hr (Or.inl ⟨_, rfl⟩) (va_rf_or _) (fun t ht hW => ⟨(xRef d (x.1 2)) (a).toNatClampNeg, rfl, (by rw [if_pos ⟨c_1, c_9⟩]; exact if_pos (xIs_in hB ⟨c_1, c_9⟩).2), ht⟩) (fun q h => by cases h) dX_assetAt_22

theorem dX_securityAt_0 : decode prog_1_method_30_code 0 = .ok (.aload_n 0, 1) := by decide +kernel
theorem dX_securityAt_1 : decode prog_1_method_30_code 1 = .ok (.iload_n 1, 1) := by decide +kernel
theorem dX_securityAt_2 : decode prog_1_method_30_code 2 = .ok (.invokevirtual 79, 3) := by decide +kernel
theorem dX_securityAt_5 : decode prog_1_method_30_code 5 = .ok (.astore_n 2, 1) := by decide +kernel
theorem dX_securityAt_6 : decode prog_1_method_30_code 6 = .ok (.aload_n 2, 1) := by decide +kernel
theorem dX_securityAt_7 : decode prog_1_method_30_code 7 = .ok (.ifnull 14, 3) := by decide +kernel
theorem dX_securityAt_10 : decode prog_1_method_30_code 10 = .ok (.aload_n 2, 1) := by decide +kernel
theorem dX_securityAt_11 : decode prog_1_method_30_code 11 = .ok (.getfield 187, 3) := by decide +kernel
theorem dX_securityAt_14 : decode prog_1_method_30_code 14 = .ok (.ifCond .eq 7, 3) := by decide +kernel
theorem dX_securityAt_17 : decode prog_1_method_30_code 17 = .ok (.aload_n 2, 1) := by decide +kernel
theorem dX_securityAt_18 : decode prog_1_method_30_code 18 = .ok (.goto 4, 3) := by decide +kernel
theorem dX_securityAt_21 : decode prog_1_method_30_code 21 = .ok (.aconst_null, 1) := by decide +kernel
theorem dX_securityAt_22 : decode prog_1_method_30_code 22 = .ok (.areturn, 1) := by decide +kernel
set_option maxHeartbeats 4000000 in
set_option maxRecDepth 100000 in
theorem c_X_securityAt (l : Launch) (D : va_G) (cI cL cQ : ClassId) (d : Nat → Nat) (κ : Nat → Option va_E) (x : XS) (hX : IsX cI cL cQ d κ x) (hB : XB x) (sz : Nat) (a : Int32)  : Met l yX_securityAt wX_securityAt { frames := 1, cells := 0, slots := 0, locals := 21 } (va_Pc [.ref (d 18), .int (a)] (kC D vCl (kT cI cL cQ) d κ sz)) (va_Sq (fun r => r = if xSec x a then some (d (32 + 3 * (a).toNatClampNeg)) else none)) 0 0 (fun _ => False) := by
  refine kMet (by decide) (Nat.le_of_ble_eq_true rfl) ?_
  intro p0 e0 s0 m0 below0 meth0 c0 hx hb hr hml hown hlocks hin hts hsz hP hK ls hl
  have hl : lv_has ls 3 [(0, .ref (d 18)), (1, .int (a))] := hl
  have hB9 := hB
  obtain ⟨hb0, hb1, hb2, hb3, hb4, hb5, hb6, hb7, hb8⟩ := hB9
  refine lv_aload_n hx hb dX_securityAt_0 rfl (lv_at hl 0 rfl) ?_
  refine lv_iload_n hx hb dX_securityAt_1 rfl (lv_at hl 1 rfl) ?_
  refine va_csq (W.runV (C := RX) (As := [.int (a)]) (rest := []) ⟨hx, hb, hml, hown, hts⟩ (c_X_assetAt l D cI cL cQ d κ x hX hB _ a) (cwV 1 hts (k_gV tw_179 tw_181 tw_2 tw_38 tw_182) rfl rfl rfl (by decide +kernel) ⟨Nat.le_of_ble_eq_true rfl, Nat.le_of_ble_eq_true rfl⟩) (kPreV hP hK (q := 18) hX.1 rfl) rfl rfl hl.1 rfl (lv_room (Nat.le_of_ble_eq_true rfl)) dX_securityAt_2 ⟨Nat.le_of_ble_eq_true rfl, Nat.le_of_ble_eq_true rfl⟩) (fun r_2 e_2 => ?_)
  subst e_2
  by_cases hA_2 : xIs x a
  · rw [if_pos hA_2]
    have hi_2 : (a).toNatClampNeg < x.1 2 := (xIs_in hB hA_2).2
    refine lv_astore_n (lv' := [(2, .ref (d (32 + 3 * (a).toNatClampNeg))), (0, .ref (d 18)), (1, .int (a))]) hx hb dX_securityAt_5 rfl hl (by decide) rfl (fun ls hl => ?_)
    refine lv_aload_n hx hb dX_securityAt_6 rfl (lv_at hl 0 rfl) ?_
    refine lv_ifnull hx hb dX_securityAt_7 ?_
    refine lv_aload_n hx hb dX_securityAt_10 rfl (lv_at hl 0 rfl) ?_
    refine ka_get (ci := 0) (C := RA) (T := TA) (N := 4) hx hb hts inA hown hK hP (q := (32 + 3 * (a).toNatClampNeg)) (hX.2.2.2.2.2.2.2.2.2.2.2.2.2.2.1 ((a).toNatClampNeg) hi_2).1 rfl 0 (by decide) (hts _ tw_144) (fun _ h9 => h9) rfl dX_securityAt_11 ?_
    refine lv_if_eq (tgt := 21) hx hb dX_securityAt_14 (by decide) (fun c_14 => ?_) (fun c_14 => ?_)
    · refine lv_null hx hb dX_securityAt_21 ?_
      exact W.aret (v := va_rf (none)) hx hb hr (Or.inl ⟨_, rfl⟩) (va_rf_or _) (fun t ht hW => ⟨none, rfl, (if_neg (fun q => q.2 c_14)).symm, ht⟩) (fun q h => by cases h) dX_securityAt_22
    · refine lv_aload_n hx hb dX_securityAt_17 rfl (lv_at hl 0 rfl) ?_
      refine lv_goto (tgt := 22) hx hb dX_securityAt_18 (by decide) ?_
      exact W.aret (v := va_rf (some (d (32 + 3 * (a).toNatClampNeg)))) hx hb hr (Or.inl ⟨_, rfl⟩) (va_rf_or _) (fun t ht hW => ⟨some (d (32 + 3 * (a).toNatClampNeg)), rfl, (if_pos ⟨hA_2, c_14⟩).symm, ht⟩) (fun q h => by cases h) dX_securityAt_22
  · rw [if_neg hA_2]
    refine lv_astore_nN (lv' := [(2, .null), (0, .ref (d 18)), (1, .int (a))]) hx hb dX_securityAt_5 rfl hl (by decide) rfl (fun ls hl => ?_)
    refine lv_aload_nN hx hb dX_securityAt_6 rfl (lv_at hl 0 rfl) ?_
    refine lv_ifnullN (tgt := 21) hx hb dX_securityAt_7 (by decide) ?_
    refine lv_null hx hb dX_securityAt_21 ?_
    exact W.aret (v := va_rf (none)) hx hb hr (Or.inl ⟨_, rfl⟩) (va_rf_or _) (fun t ht hW => ⟨none, rfl, (if_neg (fun q => hA_2 q.1)).symm, ht⟩) (fun q h => by cases h) dX_securityAt_22

theorem dP_indexOf_0 : decode prog_4_method_2_code 0 = .ok (.iconst 0, 1) := by decide +kernel
theorem dP_indexOf_1 : decode prog_4_method_2_code 1 = .ok (.istore_n 2, 1) := by decide +kernel
theorem dP_indexOf_2 : decode prog_4_method_2_code 2 = .ok (.iload_n 2, 1) := by decide +kernel
theorem dP_indexOf_3 : decode prog_4_method_2_code 3 = .ok (.aload_n 0, 1) := by decide +kernel
theorem dP_indexOf_4 : decode prog_4_method_2_code 4 = .ok (.getfield 19, 3) := by decide +kernel
theorem dP_indexOf_7 : decode prog_4_method_2_code 7 = .ok (.if_icmp .ge 21, 3) := by decide +kernel
theorem dP_indexOf_10 : decode prog_4_method_2_code 10 = .ok (.aload_n 0, 1) := by decide +kernel
theorem dP_indexOf_11 : decode prog_4_method_2_code 11 = .ok (.getfield 9, 3) := by decide +kernel
theorem dP_indexOf_14 : decode prog_4_method_2_code 14 = .ok (.iload_n 2, 1) := by decide +kernel
theorem dP_indexOf_15 : decode prog_4_method_2_code 15 = .ok (.iaload, 1) := by decide +kernel
theorem dP_indexOf_16 : decode prog_4_method_2_code 16 = .ok (.iload_n 1, 1) := by decide +kernel
theorem dP_indexOf_17 : decode prog_4_method_2_code 17 = .ok (.if_icmp .ne 5, 3) := by decide +kernel
theorem dP_indexOf_20 : decode prog_4_method_2_code 20 = .ok (.iload_n 2, 1) := by decide +kernel
theorem dP_indexOf_21 : decode prog_4_method_2_code 21 = .ok (.ireturn, 1) := by decide +kernel
theorem dP_indexOf_22 : decode prog_4_method_2_code 22 = .ok (.iinc 2 1, 3) := by decide +kernel
theorem dP_indexOf_25 : decode prog_4_method_2_code 25 = .ok (.goto (-23), 3) := by decide +kernel
theorem dP_indexOf_28 : decode prog_4_method_2_code 28 = .ok (.iconst (-1), 1) := by decide +kernel
theorem dP_indexOf_29 : decode prog_4_method_2_code 29 = .ok (.ireturn, 1) := by decide +kernel
def f_P_indexOf_l (cnt : Nat) (f : Nat → Int32) (g : Nat → Int64) (pair : Int32) : Nat → Nat → Int32
  | 0, _ => 0
  | n + 1, k => if (nI cnt) ≤ (nI k) then (-1) else (if (f (nI k).toNatClampNeg) = pair then (nI k) else (f_P_indexOf_l cnt f g pair n (k + 1)))
theorem f_P_indexOf_l_s (cnt : Nat) (f : Nat → Int32) (g : Nat → Int64) (pair : Int32) (n : Nat) (k : Nat) : f_P_indexOf_l cnt f g pair (n + 1) k = (if (nI cnt) ≤ (nI k) then (-1) else (if (f (nI k).toNatClampNeg) = pair then (nI k) else (f_P_indexOf_l cnt f g pair n (k + 1)))) := rfl
def f_P_indexOf (cnt : Nat) (f : Nat → Int32) (g : Nat → Int64) (pair : Int32) : Int32 := f_P_indexOf_l cnt f g pair (cnt + 1) 0
set_option maxHeartbeats 4000000 in
set_option maxRecDepth 100000 in
theorem c_P_indexOf (l : Launch) (D : va_G) (cI cL cQ : ClassId) (d : Nat → Nat) (κ : Nat → Option va_E) (q len cnt : Nat) (f : Nat → Int32) (g : Nat → Int64) (hp : IsP cI cL d κ q len cnt f g) (hc : cnt ≤ len) (hlen : len ≤ 512) (sz : Nat) (pair : Int32)  : Met l yP_indexOf wP_indexOf { frames := 0, cells := 0, slots := 0, locals := 0 } (va_Pc [.ref (d q), .int (pair)] (kC D vCl (kT cI cL cQ) d κ sz)) (vp_Si (fun r => r = f_P_indexOf cnt f g pair)) 0 0 (fun _ => False) := by
  refine kMet (by decide) (Nat.le_of_ble_eq_true rfl) ?_
  intro p0 e0 s0 m0 below0 meth0 c0 hx hb hr hml hown hlocks hin hts hsz hP hK ls hl
  have hl : lv_has ls 3 [(0, .ref (d q)), (1, .int (pair))] := hl
  refine lv_iconst (v := 0) hx hb dP_indexOf_0 (by decide) ?_
  refine lv_istore_n (lv' := [(2, .int (0)), (0, .ref (d q)), (1, .int (pair))]) hx hb dP_indexOf_1 rfl hl (by decide) rfl (fun ls hl => ?_)
  refine k_rec (σ := Nat) (fun n z9 ls => z9 ≤ cnt ∧ cnt < z9 + n ∧ f_P_indexOf_l cnt f g pair n z9 = f_P_indexOf cnt f g pair ∧ lv_has ls 3 [(2, .int (nI z9)), (0, .ref (d q)), (1, .int (pair))]) (cnt + 1) (0) ⟨by omega, by omega, by rw [f_P_indexOf], lv_sub hl [0, 1, 2] rfl⟩ ?_
  intro n z9 ls hI ih
  obtain ⟨k, rfl⟩ : ∃ z, z = z9 := ⟨_, rfl⟩
  obtain ⟨hk, hn, hE, hl⟩ := hI
  obtain ⟨n, rfl⟩ : ∃ q, n = q + 1 := ⟨n - 1, by omega⟩
  refine lv_iload_n hx hb dP_indexOf_2 rfl (lv_at hl 0 rfl) ?_
  refine lv_aload_n hx hb dP_indexOf_3 rfl (lv_at hl 1 rfl) ?_
  refine ka_get (ci := 2) (C := RP) (T := TP) (N := 3) hx hb hts inP hown hK hP (q := q) hp.1 rfl 2 (by decide) (hts _ tw_62) (fun _ h9 => h9) rfl dP_indexOf_4 ?_
  refine lv_icmp_ge (tgt := 28) hx hb dP_indexOf_7 (by decide) (fun c_7 => ?_) (fun c_7 => ?_)
  · refine lv_iconst (v := -1) hx hb dP_indexOf_28 (by decide) ?_
    exact W.iret (v := -1) hx hb hr (fun t ht hW => ⟨_, rfl, by rw [← hE, f_P_indexOf_l_s, if_pos c_7], ht⟩) (fun q h => by cases h) dP_indexOf_29
  · have hlt : k < cnt := Nat.lt_of_not_le (fun q => c_7 (nI_le q (by omega)))
    refine lv_aload_n hx hb dP_indexOf_10 rfl (lv_at hl 1 rfl) ?_
    refine ka_get (ci := 2) (C := RP) (T := TP) (N := 3) hx hb hts inP hown hK hP (q := q) hp.1 rfl 0 (by decide) (hts _ tw_60) (fun _ h9 => h9) rfl dP_indexOf_11 ?_
    refine lv_iload_n hx hb dP_indexOf_14 rfl (lv_at hl 0 rfl) ?_
    refine ka_iald hx hb hK hP 0 (q := (q + 1)) hp.2.1 rfl (by first | assumption | exact vp_in_nI (by omega) (by omega)) dP_indexOf_15 ?_
    refine lv_iload_n hx hb dP_indexOf_16 rfl (lv_at hl 2 rfl) ?_
    refine lv_icmp_ne (tgt := 22) hx hb dP_indexOf_17 (by decide) (fun c_17 => ?_) (fun c_17 => ?_)
    · refine lv_iinc (v := nI (k + 1)) (lv' := [(2, .int (nI (k + 1))), (0, .ref (d q)), (1, .int (pair))]) hx hb dP_indexOf_22 hl (k := 0) rfl (nI_add k 1) (by decide) rfl (fun ls hl => ?_)
      refine lv_goto (tgt := 2) hx hb dP_indexOf_25 (by decide) ?_
      exact ih n (k + 1) ls (by omega) ⟨by omega, by omega, by rw [← hE, f_P_indexOf_l_s, if_neg c_7, if_neg c_17], lv_sub hl [0, 1, 2] rfl⟩
    · refine lv_iload_n hx hb dP_indexOf_20 rfl (lv_at hl 0 rfl) ?_
      exact W.iret (v := nI k) hx hb hr (fun t ht hW => ⟨_, rfl, by rw [← hE, f_P_indexOf_l_s, if_neg c_7, if_pos c_17], ht⟩) (fun q h => by cases h) dP_indexOf_21

theorem indexOf_l_in {cnt : Nat} {f : Nat → Int32} {g : Nat → Int64} {pair : Int32} (hcnt : cnt < 2 ^ 31) : ∀ (n k : Nat), k ≤ cnt → cnt < k + n → (f_P_indexOf_l cnt f g pair n k = -1 ∧ ∀ j, k ≤ j → j < cnt → ¬ f j = pair) ∨ ∃ j, k ≤ j ∧ j < cnt ∧ f_P_indexOf_l cnt f g pair n k = nI j ∧ f j = pair ∧ ∀ i, k ≤ i → i < j → ¬ f i = pair := by
  intro n
  induction n with
  | zero => intro k h1 h2; omega
  | succ n ih =>
    intro k h1 h2
    rw [f_P_indexOf_l_s]
    by_cases c : nI cnt ≤ nI k
    · rw [if_pos c]
      have hge : cnt ≤ k := Nat.le_of_not_lt (fun q => nI_ge q (by omega) c)
      exact Or.inl ⟨rfl, fun j h3 h4 => by omega⟩
    · have hlt : k < cnt := Nat.lt_of_not_le (fun q => c (nI_le q (by omega)))
      rw [if_neg c, nI_clamp (by omega)]
      by_cases c2 : f k = pair
      · rw [if_pos c2]
        exact Or.inr ⟨k, Nat.le_refl k, hlt, rfl, c2, fun i h3 h4 => by omega⟩
      · rw [if_neg c2]
        rcases ih (k + 1) (by omega) (by omega) with ⟨h3, h4⟩ | ⟨j, h3, h4, h5, h6, h7⟩
        · refine Or.inl ⟨h3, fun j h5 h6 => ?_⟩
          by_cases e : j = k
          · rw [e]; exact c2
          · exact h4 j (by omega) h6
        · refine Or.inr ⟨j, by omega, h4, h5, h6, fun i h8 h9 => ?_⟩
          by_cases e : i = k
          · rw [e]; exact c2
          · exact h7 i (by omega) h9
/-- the first place of a pair, or -1 -/
theorem indexOf_spec {cnt : Nat} {f : Nat → Int32} {g : Nat → Int64} {pair : Int32} (hcnt : cnt < 2 ^ 31) : (f_P_indexOf cnt f g pair = -1 ∧ ∀ j, j < cnt → ¬ f j = pair) ∨ ∃ j, j < cnt ∧ f_P_indexOf cnt f g pair = nI j ∧ f j = pair ∧ ∀ i, i < j → ¬ f i = pair := by
  rcases indexOf_l_in (f := f) (g := g) (pair := pair) hcnt (cnt + 1) 0 (by omega) (by omega) with ⟨h3, h4⟩ | ⟨j, h3, h4, h5, h6, h7⟩
  · exact Or.inl ⟨h3, fun j h => h4 j (by omega) h⟩
  · exact Or.inr ⟨j, h4, h5, h6, fun i h => h7 i (by omega) h⟩
theorem indexOf_in {cnt len : Nat} {f : Nat → Int32} {g : Nat → Int64} {pair : Int32} (hc : cnt ≤ len) (hlen : len ≤ 512) (h : ¬ f_P_indexOf cnt f g pair = -1) : vp_in (f_P_indexOf cnt f g pair) len := by
  rcases indexOf_spec (f := f) (g := g) (pair := pair) (show cnt < 2 ^ 31 by omega) with ⟨h3, -⟩ | ⟨j, h4, h5, -⟩
  · exact absurd h3 h
  · rw [h5]; exact vp_in_nI (by omega) (by omega)

theorem dP_has_0 : decode prog_4_method_3_code 0 = .ok (.aload_n 0, 1) := by decide +kernel
theorem dP_has_1 : decode prog_4_method_3_code 1 = .ok (.iload_n 1, 1) := by decide +kernel
theorem dP_has_2 : decode prog_4_method_3_code 2 = .ok (.invokevirtual 23, 3) := by decide +kernel
theorem dP_has_5 : decode prog_4_method_3_code 5 = .ok (.iconst (-1), 1) := by decide +kernel
theorem dP_has_6 : decode prog_4_method_3_code 6 = .ok (.if_icmp .eq 7, 3) := by decide +kernel
theorem dP_has_9 : decode prog_4_method_3_code 9 = .ok (.iconst 1, 1) := by decide +kernel
theorem dP_has_10 : decode prog_4_method_3_code 10 = .ok (.goto 4, 3) := by decide +kernel
theorem dP_has_13 : decode prog_4_method_3_code 13 = .ok (.iconst 0, 1) := by decide +kernel
theorem dP_has_14 : decode prog_4_method_3_code 14 = .ok (.ireturn, 1) := by decide +kernel
def f_P_has (cnt : Nat) (f : Nat → Int32) (g : Nat → Int64) (pair : Int32) : Int32 := if (f_P_indexOf cnt f g pair) = (-1) then 0 else 1
theorem b_P_has (cnt : Nat) (f : Nat → Int32) (g : Nat → Int64) (pair : Int32) : f_P_has cnt f g pair = 0 ∨ f_P_has cnt f g pair = 1 := by
  unfold f_P_has
  repeat' (first | split | exact Or.inl rfl | exact Or.inr rfl)
set_option maxHeartbeats 4000000 in
set_option maxRecDepth 100000 in
theorem c_P_has (l : Launch) (D : va_G) (cI cL cQ : ClassId) (d : Nat → Nat) (κ : Nat → Option va_E) (q len cnt : Nat) (f : Nat → Int32) (g : Nat → Int64) (hp : IsP cI cL d κ q len cnt f g) (hc : cnt ≤ len) (hlen : len ≤ 512) (sz : Nat) (pair : Int32)  : Met l yP_has wP_has { frames := 1, cells := 0, slots := 0, locals := 22 } (va_Pc [.ref (d q), .int (pair)] (kC D vCl (kT cI cL cQ) d κ sz)) (vp_Si (fun r => r = f_P_has cnt f g pair)) 0 0 (fun _ => False) := by
  refine kMet (by decide) (Nat.le_of_ble_eq_true rfl) ?_
  intro p0 e0 s0 m0 below0 meth0 c0 hx hb hr hml hown hlocks hin hts hsz hP hK ls hl
  have hl : lv_has ls 2 [(0, .ref (d q)), (1, .int (pair))] := hl
  refine lv_aload_n hx hb dP_has_0 rfl (lv_at hl 0 rfl) ?_
  refine lv_iload_n hx hb dP_has_1 rfl (lv_at hl 1 rfl) ?_
  refine vp_callSi (W.runV (C := RP) (As := [.int (pair)]) (rest := []) ⟨hx, hb, hml, hown, hts⟩ (c_P_indexOf l D cI cL cQ d κ q len cnt f g hp hc hlen _ pair) (cwV 1 hts (k_gV tw_265 tw_267 tw_13 tw_39 tw_268) rfl rfl rfl (by decide +kernel) ⟨Nat.le_of_ble_eq_true rfl, Nat.le_of_ble_eq_true rfl⟩) (kPreV hP hK (q := q) hp.1 rfl) rfl rfl hl.1 rfl (lv_room (Nat.le_of_ble_eq_true rfl)) dP_has_2 ⟨Nat.le_of_ble_eq_true rfl, Nat.le_of_ble_eq_true rfl⟩) (fun r_2 e_2 => ?_)
  subst e_2
  refine lv_iconst (v := -1) hx hb dP_has_5 (by decide) ?_
  refine lv_icmp_eq (tgt := 13) hx hb dP_has_6 (by decide) (fun c_6 => ?_) (fun c_6 => ?_)
  · refine lv_iconst (v := 0) hx hb dP_has_13 (by decide) ?_
    exact W.zret (v := 0) hx hb hr k_nar0 (fun t ht hW => ⟨_, rfl, by rw [f_P_has, if_pos c_6], ht⟩) (fun q h => by cases h) dP_has_14
  · refine lv_iconst (v := 1) hx hb dP_has_9 (by decide) ?_
    refine lv_goto (tgt := 14) hx hb dP_has_10 (by decide) ?_
    exact W.zret (v := 1) hx hb hr k_nar1 (fun t ht hW => ⟨_, rfl, by rw [f_P_has, if_neg c_6], ht⟩) (fun q h => by cases h) dP_has_14

theorem dP_amountOf_0 : decode prog_4_method_4_code 0 = .ok (.aload_n 0, 1) := by decide +kernel
theorem dP_amountOf_1 : decode prog_4_method_4_code 1 = .ok (.iload_n 1, 1) := by decide +kernel
theorem dP_amountOf_2 : decode prog_4_method_4_code 2 = .ok (.invokevirtual 23, 3) := by decide +kernel
theorem dP_amountOf_5 : decode prog_4_method_4_code 5 = .ok (.istore_n 2, 1) := by decide +kernel
theorem dP_amountOf_6 : decode prog_4_method_4_code 6 = .ok (.iload_n 2, 1) := by decide +kernel
theorem dP_amountOf_7 : decode prog_4_method_4_code 7 = .ok (.iconst (-1), 1) := by decide +kernel
theorem dP_amountOf_8 : decode prog_4_method_4_code 8 = .ok (.if_icmp .ne 7, 3) := by decide +kernel
theorem dP_amountOf_11 : decode prog_4_method_4_code 11 = .ok (.lconst 0, 1) := by decide +kernel
theorem dP_amountOf_12 : decode prog_4_method_4_code 12 = .ok (.goto 9, 3) := by decide +kernel
theorem dP_amountOf_15 : decode prog_4_method_4_code 15 = .ok (.aload_n 0, 1) := by decide +kernel
theorem dP_amountOf_16 : decode prog_4_method_4_code 16 = .ok (.getfield 15, 3) := by decide +kernel
theorem dP_amountOf_19 : decode prog_4_method_4_code 19 = .ok (.iload_n 2, 1) := by decide +kernel
theorem dP_amountOf_20 : decode prog_4_method_4_code 20 = .ok (.laload, 1) := by decide +kernel
theorem dP_amountOf_21 : decode prog_4_method_4_code 21 = .ok (.lreturn, 1) := by decide +kernel
def f_P_amountOf (cnt : Nat) (f : Nat → Int32) (g : Nat → Int64) (pair : Int32) : Int64 := if (f_P_indexOf cnt f g pair) = (-1) then 0 else (g (f_P_indexOf cnt f g pair).toNatClampNeg)
set_option maxHeartbeats 4000000 in
set_option maxRecDepth 100000 in
theorem c_P_amountOf (l : Launch) (D : va_G) (cI cL cQ : ClassId) (d : Nat → Nat) (κ : Nat → Option va_E) (q len cnt : Nat) (f : Nat → Int32) (g : Nat → Int64) (hp : IsP cI cL d κ q len cnt f g) (hc : cnt ≤ len) (hlen : len ≤ 512) (sz : Nat) (pair : Int32)  : Met l yP_amountOf wP_amountOf { frames := 1, cells := 0, slots := 0, locals := 22 } (va_Pc [.ref (d q), .int (pair)] (kC D vCl (kT cI cL cQ) d κ sz)) (vp_Sl (fun r => r = f_P_amountOf cnt f g pair)) 0 0 (fun _ => False) := by
  refine kMet (by decide) (Nat.le_of_ble_eq_true rfl) ?_
  intro p0 e0 s0 m0 below0 meth0 c0 hx hb hr hml hown hlocks hin hts hsz hP hK ls hl
  have hl : lv_has ls 3 [(0, .ref (d q)), (1, .int (pair))] := hl
  refine lv_aload_n hx hb dP_amountOf_0 rfl (lv_at hl 0 rfl) ?_
  refine lv_iload_n hx hb dP_amountOf_1 rfl (lv_at hl 1 rfl) ?_
  refine vp_callSi (W.runV (C := RP) (As := [.int (pair)]) (rest := []) ⟨hx, hb, hml, hown, hts⟩ (c_P_indexOf l D cI cL cQ d κ q len cnt f g hp hc hlen _ pair) (cwV 1 hts (k_gV tw_265 tw_267 tw_13 tw_39 tw_268) rfl rfl rfl (by decide +kernel) ⟨Nat.le_of_ble_eq_true rfl, Nat.le_of_ble_eq_true rfl⟩) (kPreV hP hK (q := q) hp.1 rfl) rfl rfl hl.1 rfl (lv_room (Nat.le_of_ble_eq_true rfl)) dP_amountOf_2 ⟨Nat.le_of_ble_eq_true rfl, Nat.le_of_ble_eq_true rfl⟩) (fun r_2 e_2 => ?_)
  subst e_2
  refine lv_istore_n (lv' := [(2, .int (f_P_indexOf cnt f g pair)), (0, .ref (d q)), (1, .int (pair))]) hx hb dP_amountOf_5 rfl hl (by decide) rfl (fun ls hl => ?_)
  refine lv_iload_n hx hb dP_amountOf_6 rfl (lv_at hl 0 rfl) ?_
  refine lv_iconst (v := -1) hx hb dP_amountOf_7 (by decide) ?_
  refine lv_icmp_ne (tgt := 15) hx hb dP_amountOf_8 (by decide) (fun c_8 => ?_) (fun c_8 => ?_)
  · refine lv_aload_n hx hb dP_amountOf_15 rfl (lv_at hl 1 rfl) ?_
    refine ka_get (ci := 2) (C := RP) (T := TP) (N := 3) hx hb hts inP hown hK hP (q := q) hp.1 rfl 1 (by decide) (hts _ tw_61) (fun _ h9 => h9) rfl dP_amountOf_16 ?_
    refine lv_iload_n hx hb dP_amountOf_19 rfl (lv_at hl 0 rfl) ?_
    refine ka_lald hx hb hK hP 1 (q := (q + 2)) hp.2.2 rfl (indexOf_in hc hlen (by assumption)) dP_amountOf_20 ?_
    exact W.lret (v := g (f_P_indexOf cnt f g pair).toNatClampNeg) hx hb hr (fun t ht hW => ⟨_, rfl, by rw [f_P_amountOf, if_neg c_8], ht⟩) (fun q h => by cases h) dP_amountOf_21
  · refine lv_lconst (v := 0) hx hb dP_amountOf_11 (by decide) ?_
    refine lv_goto (tgt := 21) hx hb dP_amountOf_12 (by decide) ?_
    exact W.lret (v := 0) hx hb hr (fun t ht hW => ⟨_, rfl, by rw [f_P_amountOf, if_pos c_8], ht⟩) (fun q h => by cases h) dP_amountOf_21

theorem dG_netOf_0 : decode prog_3_method_3_code 0 = .ok (.lconst 0, 1) := by decide +kernel
theorem dG_netOf_1 : decode prog_3_method_3_code 1 = .ok (.lstore_n 3, 1) := by decide +kernel
theorem dG_netOf_2 : decode prog_3_method_3_code 2 = .ok (.iconst 0, 1) := by decide +kernel
theorem dG_netOf_3 : decode prog_3_method_3_code 3 = .ok (.istore 5, 2) := by decide +kernel
theorem dG_netOf_5 : decode prog_3_method_3_code 5 = .ok (.iload 5, 2) := by decide +kernel
theorem dG_netOf_7 : decode prog_3_method_3_code 7 = .ok (.aload_n 0, 1) := by decide +kernel
theorem dG_netOf_8 : decode prog_3_method_3_code 8 = .ok (.getfield 25, 3) := by decide +kernel
theorem dG_netOf_11 : decode prog_3_method_3_code 11 = .ok (.if_icmp .ge 73, 3) := by decide +kernel
theorem dG_netOf_14 : decode prog_3_method_3_code 14 = .ok (.aload_n 0, 1) := by decide +kernel
theorem dG_netOf_15 : decode prog_3_method_3_code 15 = .ok (.getfield 18, 3) := by decide +kernel
theorem dG_netOf_18 : decode prog_3_method_3_code 18 = .ok (.iload 5, 2) := by decide +kernel
theorem dG_netOf_20 : decode prog_3_method_3_code 20 = .ok (.iaload, 1) := by decide +kernel
theorem dG_netOf_21 : decode prog_3_method_3_code 21 = .ok (.iload_n 2, 1) := by decide +kernel
theorem dG_netOf_22 : decode prog_3_method_3_code 22 = .ok (.if_icmp .ne 24, 3) := by decide +kernel
theorem dG_netOf_25 : decode prog_3_method_3_code 25 = .ok (.aload_n 0, 1) := by decide +kernel
theorem dG_netOf_26 : decode prog_3_method_3_code 26 = .ok (.getfield 9, 3) := by decide +kernel
theorem dG_netOf_29 : decode prog_3_method_3_code 29 = .ok (.iload 5, 2) := by decide +kernel
theorem dG_netOf_31 : decode prog_3_method_3_code 31 = .ok (.iaload, 1) := by decide +kernel
theorem dG_netOf_32 : decode prog_3_method_3_code 32 = .ok (.iload_n 1, 1) := by decide +kernel
theorem dG_netOf_33 : decode prog_3_method_3_code 33 = .ok (.if_icmp .ne 13, 3) := by decide +kernel
theorem dG_netOf_36 : decode prog_3_method_3_code 36 = .ok (.lload_n 3, 1) := by decide +kernel
theorem dG_netOf_37 : decode prog_3_method_3_code 37 = .ok (.aload_n 0, 1) := by decide +kernel
theorem dG_netOf_38 : decode prog_3_method_3_code 38 = .ok (.getfield 21, 3) := by decide +kernel
theorem dG_netOf_41 : decode prog_3_method_3_code 41 = .ok (.iload 5, 2) := by decide +kernel
theorem dG_netOf_43 : decode prog_3_method_3_code 43 = .ok (.laload, 1) := by decide +kernel
theorem dG_netOf_44 : decode prog_3_method_3_code 44 = .ok (.lsub, 1) := by decide +kernel
theorem dG_netOf_45 : decode prog_3_method_3_code 45 = .ok (.lstore_n 3, 1) := by decide +kernel
theorem dG_netOf_46 : decode prog_3_method_3_code 46 = .ok (.aload_n 0, 1) := by decide +kernel
theorem dG_netOf_47 : decode prog_3_method_3_code 47 = .ok (.getfield 18, 3) := by decide +kernel
theorem dG_netOf_50 : decode prog_3_method_3_code 50 = .ok (.iload 5, 2) := by decide +kernel
theorem dG_netOf_52 : decode prog_3_method_3_code 52 = .ok (.iaload, 1) := by decide +kernel
theorem dG_netOf_53 : decode prog_3_method_3_code 53 = .ok (.iload_n 2, 1) := by decide +kernel
theorem dG_netOf_54 : decode prog_3_method_3_code 54 = .ok (.if_icmp .ne 24, 3) := by decide +kernel
theorem dG_netOf_57 : decode prog_3_method_3_code 57 = .ok (.aload_n 0, 1) := by decide +kernel
theorem dG_netOf_58 : decode prog_3_method_3_code 58 = .ok (.getfield 15, 3) := by decide +kernel
theorem dG_netOf_61 : decode prog_3_method_3_code 61 = .ok (.iload 5, 2) := by decide +kernel
theorem dG_netOf_63 : decode prog_3_method_3_code 63 = .ok (.iaload, 1) := by decide +kernel
theorem dG_netOf_64 : decode prog_3_method_3_code 64 = .ok (.iload_n 1, 1) := by decide +kernel
theorem dG_netOf_65 : decode prog_3_method_3_code 65 = .ok (.if_icmp .ne 13, 3) := by decide +kernel
theorem dG_netOf_68 : decode prog_3_method_3_code 68 = .ok (.lload_n 3, 1) := by decide +kernel
theorem dG_netOf_69 : decode prog_3_method_3_code 69 = .ok (.aload_n 0, 1) := by decide +kernel
theorem dG_netOf_70 : decode prog_3_method_3_code 70 = .ok (.getfield 21, 3) := by decide +kernel
theorem dG_netOf_73 : decode prog_3_method_3_code 73 = .ok (.iload 5, 2) := by decide +kernel
theorem dG_netOf_75 : decode prog_3_method_3_code 75 = .ok (.laload, 1) := by decide +kernel
theorem dG_netOf_76 : decode prog_3_method_3_code 76 = .ok (.ladd, 1) := by decide +kernel
theorem dG_netOf_77 : decode prog_3_method_3_code 77 = .ok (.lstore_n 3, 1) := by decide +kernel
theorem dG_netOf_78 : decode prog_3_method_3_code 78 = .ok (.iinc 5 1, 3) := by decide +kernel
theorem dG_netOf_81 : decode prog_3_method_3_code 81 = .ok (.goto (-76), 3) := by decide +kernel
theorem dG_netOf_84 : decode prog_3_method_3_code 84 = .ok (.lload_n 3, 1) := by decide +kernel
theorem dG_netOf_85 : decode prog_3_method_3_code 85 = .ok (.lreturn, 1) := by decide +kernel
def f_G_netOf_l (x : XS) (p : Int32) (a : Int32) : Nat → Nat → Int64 → Int64
  | 0, _, _ => 0
  | n + 1, k, v => if (nI (x.1 5)) ≤ (nI k) then v else (if ((x.2.2.2.1 4) (nI k).toNatClampNeg) = a then (if ((x.2.2.2.1 2) (nI k).toNatClampNeg) = p then (if ((x.2.2.2.1 3) (nI k).toNatClampNeg) = p then (f_G_netOf_l x p a n (k + 1) ((v - ((x.2.2.2.2.1 3) (nI k).toNatClampNeg)) + ((x.2.2.2.2.1 3) (nI k).toNatClampNeg))) else (f_G_netOf_l x p a n (k + 1) (v - ((x.2.2.2.2.1 3) (nI k).toNatClampNeg)))) else (if ((x.2.2.2.1 3) (nI k).toNatClampNeg) = p then (f_G_netOf_l x p a n (k + 1) (v + ((x.2.2.2.2.1 3) (nI k).toNatClampNeg))) else (f_G_netOf_l x p a n (k + 1) v))) else (f_G_netOf_l x p a n (k + 1) v))
theorem f_G_netOf_l_s (x : XS) (p : Int32) (a : Int32) (n : Nat) (k : Nat) (v : Int64) : f_G_netOf_l x p a (n + 1) k v = (if (nI (x.1 5)) ≤ (nI k) then v else (if ((x.2.2.2.1 4) (nI k).toNatClampNeg) = a then (if ((x.2.2.2.1 2) (nI k).toNatClampNeg) = p then (if ((x.2.2.2.1 3) (nI k).toNatClampNeg) = p then (f_G_netOf_l x p a n (k + 1) ((v - ((x.2.2.2.2.1 3) (nI k).toNatClampNeg)) + ((x.2.2.2.2.1 3) (nI k).toNatClampNeg))) else (f_G_netOf_l x p a n (k + 1) (v - ((x.2.2.2.2.1 3) (nI k).toNatClampNeg)))) else (if ((x.2.2.2.1 3) (nI k).toNatClampNeg) = p then (f_G_netOf_l x p a n (k + 1) (v + ((x.2.2.2.2.1 3) (nI k).toNatClampNeg))) else (f_G_netOf_l x p a n (k + 1) v))) else (f_G_netOf_l x p a n (k + 1) v))) := rfl
def f_G_netOf (x : XS) (p : Int32) (a : Int32) : Int64 := f_G_netOf_l x p a (x.1 5 + 1) 0 0
set_option maxHeartbeats 4000000 in
set_option maxRecDepth 100000 in
theorem c_G_netOf (l : Launch) (D : va_G) (cI cL cQ : ClassId) (d : Nat → Nat) (κ : Nat → Option va_E) (x : XS) (hX : IsX cI cL cQ d κ x) (hB : XB x) (sz : Nat) (p : Int32) (a : Int32)  : Met l yG_netOf wG_netOf { frames := 0, cells := 0, slots := 0, locals := 0 } (va_Pc [.ref (d 27), .int (p), .int (a)] (kC D vCl (kT cI cL cQ) d κ sz)) (vp_Sl (fun r => r = f_G_netOf x p a)) 0 0 (fun _ => False) := by
  refine kMet (by decide) (Nat.le_of_ble_eq_true rfl) ?_
  intro p0 e0 s0 m0 below0 meth0 c0 hx hb hr hml hown hlocks hin hts hsz hP hK ls hl
  have hl : lv_has ls 6 [(0, .ref (d 27)), (1, .int (p)), (2, .int (a))] := hl
  have hB9 := hB
  obtain ⟨hb0, hb1, hb2, hb3, hb4, hb5, hb6, hb7, hb8⟩ := hB9
  refine lv_lconst (v := 0) hx hb dG_netOf_0 (by decide) ?_
  refine lv_lstore_n (lv' := [(3, .long (0)), (0, .ref (d 27)), (1, .int (p)), (2, .int (a))]) hx hb dG_netOf_1 rfl hl (by decide) rfl (fun ls hl => ?_)
  refine lv_iconst (v := 0) hx hb dG_netOf_2 (by decide) ?_
  refine lv_istore (lv' := [(5, .int (0)), (3, .long (0)), (0, .ref (d 27)), (1, .int (p)), (2, .int (a))]) hx hb dG_netOf_3 hl (by decide) rfl (fun ls hl => ?_)
  refine k_rec (σ := Nat × Int64) (fun n z9 ls => z9.1 ≤ x.1 5 ∧ x.1 5 < z9.1 + n ∧ f_G_netOf_l x p a n z9.1 z9.2 = f_G_netOf x p a ∧ lv_has ls 6 [(5, .int (nI z9.1)), (3, .long z9.2), (0, .ref (d 27)), (1, .int (p)), (2, .int (a))]) (x.1 5 + 1) (0, 0) ⟨by omega, by omega, by rw [f_G_netOf], lv_sub hl [0, 1, 2, 3, 4] rfl⟩ ?_
  intro n z9 ls hI ih
  obtain ⟨k, v⟩ := z9
  obtain ⟨hk, hn, hE, hl⟩ := hI
  dsimp only at hk hn hE hl
  obtain ⟨n, rfl⟩ : ∃ q, n = q + 1 := ⟨n - 1, by omega⟩
  refine lv_iload hx hb dG_netOf_5 (lv_at hl 0 rfl) ?_
  refine lv_aload_n hx hb dG_netOf_7 rfl (lv_at hl 2 rfl) ?_
  refine ka_get (ci := 1) (C := RG) (T := TG) (N := 5) hx hb hts inG hown hK hP (q := 27) hX.2.2.2.2.2.2.2.2.2.1 rfl 4 (by decide) (hts _ tw_86) (fun _ h9 => h9) rfl dG_netOf_8 ?_
  refine lv_icmp_ge (tgt := 84) hx hb dG_netOf_11 (by decide) (fun c_11 => ?_) (fun c_11 => ?_)
  · refine lv_lload_n hx hb dG_netOf_84 rfl (lv_at hl 1 rfl) ?_
    exact W.lret (v := v) hx hb hr (fun t ht hW => ⟨_, rfl, by rw [← hE, f_G_netOf_l_s, if_pos c_11], ht⟩) (fun q h => by cases h) dG_netOf_85
  · have hlt : k < x.1 5 := Nat.lt_of_not_le (fun q => c_11 (nI_le q (by omega)))
    refine lv_aload_n hx hb dG_netOf_14 rfl (lv_at hl 2 rfl) ?_
    refine ka_get (ci := 1) (C := RG) (T := TG) (N := 5) hx hb hts inG hown hK hP (q := 27) hX.2.2.2.2.2.2.2.2.2.1 rfl 2 (by decide) (hts _ tw_82) (fun _ h9 => h9) rfl dG_netOf_15 ?_
    refine lv_iload hx hb dG_netOf_18 (lv_at hl 0 rfl) ?_
    refine ka_iald hx hb hK hP 0 (q := 30) hX.2.2.2.2.2.2.2.2.2.2.2.2.1 rfl (by first | assumption | exact vp_in_nI (by omega) (by omega)) dG_netOf_20 ?_
    refine lv_iload_n hx hb dG_netOf_21 rfl (lv_at hl 4 rfl) ?_
    refine lv_icmp_ne (tgt := 46) hx hb dG_netOf_22 (by decide) (fun c_22 => ?_) (fun c_22 => ?_)
    · refine lv_aload_n hx hb dG_netOf_46 rfl (lv_at hl 2 rfl) ?_
      refine ka_get (ci := 1) (C := RG) (T := TG) (N := 5) hx hb hts inG hown hK hP (q := 27) hX.2.2.2.2.2.2.2.2.2.1 rfl 2 (by decide) (hts _ tw_82) (fun _ h9 => h9) rfl dG_netOf_47 ?_
      refine lv_iload hx hb dG_netOf_50 (lv_at hl 0 rfl) ?_
      refine ka_iald hx hb hK hP 0 (q := 30) hX.2.2.2.2.2.2.2.2.2.2.2.2.1 rfl (by first | assumption | exact vp_in_nI (by omega) (by omega)) dG_netOf_52 ?_
      refine lv_iload_n hx hb dG_netOf_53 rfl (lv_at hl 4 rfl) ?_
      refine lv_icmp_ne (tgt := 78) hx hb dG_netOf_54 (by decide) (fun _ => ?_) (fun c => absurd c c_22)
      refine lv_iinc (v := nI (k + 1)) (lv' := [(5, .int (nI (k + 1))), (3, .long (v)), (0, .ref (d 27)), (1, .int (p)), (2, .int (a))]) hx hb dG_netOf_78 hl (k := 0) rfl (nI_add k 1) (by decide) rfl (fun ls hl => ?_)
      refine lv_goto (tgt := 5) hx hb dG_netOf_81 (by decide) ?_
      exact ih n (k + 1, v) ls (by omega) ⟨by omega, by omega, by rw [← hE, f_G_netOf_l_s, if_neg c_11, if_neg c_22], lv_sub hl [0, 1, 2, 3, 4] rfl⟩
    · refine lv_aload_n hx hb dG_netOf_25 rfl (lv_at hl 2 rfl) ?_
      refine ka_get (ci := 1) (C := RG) (T := TG) (N := 5) hx hb hts inG hown hK hP (q := 27) hX.2.2.2.2.2.2.2.2.2.1 rfl 0 (by decide) (hts _ tw_78) (fun _ h9 => h9) rfl dG_netOf_26 ?_
      refine lv_iload hx hb dG_netOf_29 (lv_at hl 0 rfl) ?_
      refine ka_iald hx hb hK hP 0 (q := 28) hX.2.2.2.2.2.2.2.2.2.2.1 rfl (by first | assumption | exact vp_in_nI (by omega) (by omega)) dG_netOf_31 ?_
      refine lv_iload_n hx hb dG_netOf_32 rfl (lv_at hl 3 rfl) ?_
      refine lv_icmp_ne (tgt := 46) hx hb dG_netOf_33 (by decide) (fun c_33 => ?_) (fun c_33 => ?_)
      · refine lv_aload_n hx hb dG_netOf_46 rfl (lv_at hl 2 rfl) ?_
        refine ka_get (ci := 1) (C := RG) (T := TG) (N := 5) hx hb hts inG hown hK hP (q := 27) hX.2.2.2.2.2.2.2.2.2.1 rfl 2 (by decide) (hts _ tw_82) (fun _ h9 => h9) rfl dG_netOf_47 ?_
        refine lv_iload hx hb dG_netOf_50 (lv_at hl 0 rfl) ?_
        refine ka_iald hx hb hK hP 0 (q := 30) hX.2.2.2.2.2.2.2.2.2.2.2.2.1 rfl (by first | assumption | exact vp_in_nI (by omega) (by omega)) dG_netOf_52 ?_
        refine lv_iload_n hx hb dG_netOf_53 rfl (lv_at hl 4 rfl) ?_
        refine lv_icmp_ne (tgt := 78) hx hb dG_netOf_54 (by decide) (fun c => absurd c_22 c) (fun _ => ?_)
        refine lv_aload_n hx hb dG_netOf_57 rfl (lv_at hl 2 rfl) ?_
        refine ka_get (ci := 1) (C := RG) (T := TG) (N := 5) hx hb hts inG hown hK hP (q := 27) hX.2.2.2.2.2.2.2.2.2.1 rfl 1 (by decide) (hts _ tw_80) (fun _ h9 => h9) rfl dG_netOf_58 ?_
        refine lv_iload hx hb dG_netOf_61 (lv_at hl 0 rfl) ?_
        refine ka_iald hx hb hK hP 0 (q := 29) hX.2.2.2.2.2.2.2.2.2.2.2.1 rfl (by first | assumption | exact vp_in_nI (by omega) (by omega)) dG_netOf_63 ?_
        refine lv_iload_n hx hb dG_netOf_64 rfl (lv_at hl 3 rfl) ?_
        refine lv_icmp_ne (tgt := 78) hx hb dG_netOf_65 (by decide) (fun c_65 => ?_) (fun c_65 => ?_)
        · refine lv_iinc (v := nI (k + 1)) (lv' := [(5, .int (nI (k + 1))), (3, .long (v)), (0, .ref (d 27)), (1, .int (p)), (2, .int (a))]) hx hb dG_netOf_78 hl (k := 0) rfl (nI_add k 1) (by decide) rfl (fun ls hl => ?_)
          refine lv_goto (tgt := 5) hx hb dG_netOf_81 (by decide) ?_
          exact ih n (k + 1, v) ls (by omega) ⟨by omega, by omega, by rw [← hE, f_G_netOf_l_s, if_neg c_11, if_pos c_22, if_neg c_33, if_neg c_65], lv_sub hl [0, 1, 2, 3, 4] rfl⟩
        · refine lv_lload_n hx hb dG_netOf_68 rfl (lv_at hl 1 rfl) ?_
          refine lv_aload_n hx hb dG_netOf_69 rfl (lv_at hl 2 rfl) ?_
          refine ka_get (ci := 1) (C := RG) (T := TG) (N := 5) hx hb hts inG hown hK hP (q := 27) hX.2.2.2.2.2.2.2.2.2.1 rfl 3 (by decide) (hts _ tw_84) (fun _ h9 => h9) rfl dG_netOf_70 ?_
          refine lv_iload hx hb dG_netOf_73 (lv_at hl 0 rfl) ?_
          refine ka_lald hx hb hK hP 1 (q := 31) hX.2.2.2.2.2.2.2.2.2.2.2.2.2.1 rfl (by first | assumption | exact vp_in_nI (by omega) (by omega)) dG_netOf_75 ?_
          refine lv_ladd hx hb dG_netOf_76 ?_
          refine lv_lstore_n (lv' := [(3, .long (v + ((x.2.2.2.2.1 3) (nI k).toNatClampNeg))), (5, .int (nI k)), (0, .ref (d 27)), (1, .int (p)), (2, .int (a))]) hx hb dG_netOf_77 rfl hl (by decide) rfl (fun ls hl => ?_)
          refine lv_iinc (v := nI (k + 1)) (lv' := [(5, .int (nI (k + 1))), (3, .long (v + ((x.2.2.2.2.1 3) (nI k).toNatClampNeg))), (0, .ref (d 27)), (1, .int (p)), (2, .int (a))]) hx hb dG_netOf_78 hl (k := 1) rfl (nI_add k 1) (by decide) rfl (fun ls hl => ?_)
          refine lv_goto (tgt := 5) hx hb dG_netOf_81 (by decide) ?_
          exact ih n (k + 1, v + ((x.2.2.2.2.1 3) (nI k).toNatClampNeg)) ls (by omega) ⟨by omega, by omega, by rw [← hE, f_G_netOf_l_s, if_neg c_11, if_pos c_22, if_neg c_33, if_pos c_65], lv_sub hl [0, 1, 2, 3, 4] rfl⟩
      · refine lv_lload_n hx hb dG_netOf_36 rfl (lv_at hl 1 rfl) ?_
        refine lv_aload_n hx hb dG_netOf_37 rfl (lv_at hl 2 rfl) ?_
        refine ka_get (ci := 1) (C := RG) (T := TG) (N := 5) hx hb hts inG hown hK hP (q := 27) hX.2.2.2.2.2.2.2.2.2.1 rfl 3 (by decide) (hts _ tw_84) (fun _ h9 => h9) rfl dG_netOf_38 ?_
        refine lv_iload hx hb dG_netOf_41 (lv_at hl 0 rfl) ?_
        refine ka_lald hx hb hK hP 1 (q := 31) hX.2.2.2.2.2.2.2.2.2.2.2.2.2.1 rfl (by first | assumption | exact vp_in_nI (by omega) (by omega)) dG_netOf_43 ?_
        refine lv_lsub hx hb dG_netOf_44 ?_
        refine lv_lstore_n (lv' := [(3, .long (v - ((x.2.2.2.2.1 3) (nI k).toNatClampNeg))), (5, .int (nI k)), (0, .ref (d 27)), (1, .int (p)), (2, .int (a))]) hx hb dG_netOf_45 rfl hl (by decide) rfl (fun ls hl => ?_)
        refine lv_aload_n hx hb dG_netOf_46 rfl (lv_at hl 2 rfl) ?_
        refine ka_get (ci := 1) (C := RG) (T := TG) (N := 5) hx hb hts inG hown hK hP (q := 27) hX.2.2.2.2.2.2.2.2.2.1 rfl 2 (by decide) (hts _ tw_82) (fun _ h9 => h9) rfl dG_netOf_47 ?_
        refine lv_iload hx hb dG_netOf_50 (lv_at hl 1 rfl) ?_
        refine ka_iald hx hb hK hP 0 (q := 30) hX.2.2.2.2.2.2.2.2.2.2.2.2.1 rfl (by first | assumption | exact vp_in_nI (by omega) (by omega)) dG_netOf_52 ?_
        refine lv_iload_n hx hb dG_netOf_53 rfl (lv_at hl 4 rfl) ?_
        refine lv_icmp_ne (tgt := 78) hx hb dG_netOf_54 (by decide) (fun c => absurd c_22 c) (fun _ => ?_)
        refine lv_aload_n hx hb dG_netOf_57 rfl (lv_at hl 2 rfl) ?_
        refine ka_get (ci := 1) (C := RG) (T := TG) (N := 5) hx hb hts inG hown hK hP (q := 27) hX.2.2.2.2.2.2.2.2.2.1 rfl 1 (by decide) (hts _ tw_80) (fun _ h9 => h9) rfl dG_netOf_58 ?_
        refine lv_iload hx hb dG_netOf_61 (lv_at hl 1 rfl) ?_
        refine ka_iald hx hb hK hP 0 (q := 29) hX.2.2.2.2.2.2.2.2.2.2.2.1 rfl (by first | assumption | exact vp_in_nI (by omega) (by omega)) dG_netOf_63 ?_
        refine lv_iload_n hx hb dG_netOf_64 rfl (lv_at hl 3 rfl) ?_
        refine lv_icmp_ne (tgt := 78) hx hb dG_netOf_65 (by decide) (fun c_65 => ?_) (fun c_65 => ?_)
        · refine lv_iinc (v := nI (k + 1)) (lv' := [(5, .int (nI (k + 1))), (3, .long (v - ((x.2.2.2.2.1 3) (nI k).toNatClampNeg))), (0, .ref (d 27)), (1, .int (p)), (2, .int (a))]) hx hb dG_netOf_78 hl (k := 1) rfl (nI_add k 1) (by decide) rfl (fun ls hl => ?_)
          refine lv_goto (tgt := 5) hx hb dG_netOf_81 (by decide) ?_
          exact ih n (k + 1, v - ((x.2.2.2.2.1 3) (nI k).toNatClampNeg)) ls (by omega) ⟨by omega, by omega, by rw [← hE, f_G_netOf_l_s, if_neg c_11, if_pos c_22, if_pos c_33, if_neg c_65], lv_sub hl [0, 1, 2, 3, 4] rfl⟩
        · refine lv_lload_n hx hb dG_netOf_68 rfl (lv_at hl 0 rfl) ?_
          refine lv_aload_n hx hb dG_netOf_69 rfl (lv_at hl 2 rfl) ?_
          refine ka_get (ci := 1) (C := RG) (T := TG) (N := 5) hx hb hts inG hown hK hP (q := 27) hX.2.2.2.2.2.2.2.2.2.1 rfl 3 (by decide) (hts _ tw_84) (fun _ h9 => h9) rfl dG_netOf_70 ?_
          refine lv_iload hx hb dG_netOf_73 (lv_at hl 1 rfl) ?_
          refine ka_lald hx hb hK hP 1 (q := 31) hX.2.2.2.2.2.2.2.2.2.2.2.2.2.1 rfl (by first | assumption | exact vp_in_nI (by omega) (by omega)) dG_netOf_75 ?_
          refine lv_ladd hx hb dG_netOf_76 ?_
          refine lv_lstore_n (lv' := [(3, .long ((v - ((x.2.2.2.2.1 3) (nI k).toNatClampNeg)) + ((x.2.2.2.2.1 3) (nI k).toNatClampNeg))), (5, .int (nI k)), (0, .ref (d 27)), (1, .int (p)), (2, .int (a))]) hx hb dG_netOf_77 rfl hl (by decide) rfl (fun ls hl => ?_)
          refine lv_iinc (v := nI (k + 1)) (lv' := [(5, .int (nI (k + 1))), (3, .long ((v - ((x.2.2.2.2.1 3) (nI k).toNatClampNeg)) + ((x.2.2.2.2.1 3) (nI k).toNatClampNeg))), (0, .ref (d 27)), (1, .int (p)), (2, .int (a))]) hx hb dG_netOf_78 hl (k := 1) rfl (nI_add k 1) (by decide) rfl (fun ls hl => ?_)
          refine lv_goto (tgt := 5) hx hb dG_netOf_81 (by decide) ?_
          exact ih n (k + 1, (v - ((x.2.2.2.2.1 3) (nI k).toNatClampNeg)) + ((x.2.2.2.2.1 3) (nI k).toNatClampNeg)) ls (by omega) ⟨by omega, by omega, by rw [← hE, f_G_netOf_l_s, if_neg c_11, if_pos c_22, if_pos c_33, if_pos c_65], lv_sub hl [0, 1, 2, 3, 4] rfl⟩

theorem dG_paidFrom_0 : decode prog_3_method_4_code 0 = .ok (.lconst 0, 1) := by decide +kernel
theorem dG_paidFrom_1 : decode prog_3_method_4_code 1 = .ok (.lstore 4, 2) := by decide +kernel
theorem dG_paidFrom_3 : decode prog_3_method_4_code 3 = .ok (.iconst 0, 1) := by decide +kernel
theorem dG_paidFrom_4 : decode prog_3_method_4_code 4 = .ok (.istore 6, 2) := by decide +kernel
theorem dG_paidFrom_6 : decode prog_3_method_4_code 6 = .ok (.iload 6, 2) := by decide +kernel
theorem dG_paidFrom_8 : decode prog_3_method_4_code 8 = .ok (.aload_n 0, 1) := by decide +kernel
theorem dG_paidFrom_9 : decode prog_3_method_4_code 9 = .ok (.getfield 25, 3) := by decide +kernel
theorem dG_paidFrom_12 : decode prog_3_method_4_code 12 = .ok (.if_icmp .ge 99, 3) := by decide +kernel
theorem dG_paidFrom_15 : decode prog_3_method_4_code 15 = .ok (.aload_n 0, 1) := by decide +kernel
theorem dG_paidFrom_16 : decode prog_3_method_4_code 16 = .ok (.getfield 18, 3) := by decide +kernel
theorem dG_paidFrom_19 : decode prog_3_method_4_code 19 = .ok (.iload 6, 2) := by decide +kernel
theorem dG_paidFrom_21 : decode prog_3_method_4_code 21 = .ok (.iaload, 1) := by decide +kernel
theorem dG_paidFrom_22 : decode prog_3_method_4_code 22 = .ok (.iload_n 3, 1) := by decide +kernel
theorem dG_paidFrom_23 : decode prog_3_method_4_code 23 = .ok (.if_icmp .ne 37, 3) := by decide +kernel
theorem dG_paidFrom_26 : decode prog_3_method_4_code 26 = .ok (.aload_n 0, 1) := by decide +kernel
theorem dG_paidFrom_27 : decode prog_3_method_4_code 27 = .ok (.getfield 9, 3) := by decide +kernel
theorem dG_paidFrom_30 : decode prog_3_method_4_code 30 = .ok (.iload 6, 2) := by decide +kernel
theorem dG_paidFrom_32 : decode prog_3_method_4_code 32 = .ok (.iaload, 1) := by decide +kernel
theorem dG_paidFrom_33 : decode prog_3_method_4_code 33 = .ok (.iload_n 1, 1) := by decide +kernel
theorem dG_paidFrom_34 : decode prog_3_method_4_code 34 = .ok (.if_icmp .ne 26, 3) := by decide +kernel
theorem dG_paidFrom_37 : decode prog_3_method_4_code 37 = .ok (.aload_n 0, 1) := by decide +kernel
theorem dG_paidFrom_38 : decode prog_3_method_4_code 38 = .ok (.getfield 15, 3) := by decide +kernel
theorem dG_paidFrom_41 : decode prog_3_method_4_code 41 = .ok (.iload 6, 2) := by decide +kernel
theorem dG_paidFrom_43 : decode prog_3_method_4_code 43 = .ok (.iaload, 1) := by decide +kernel
theorem dG_paidFrom_44 : decode prog_3_method_4_code 44 = .ok (.iload_n 2, 1) := by decide +kernel
theorem dG_paidFrom_45 : decode prog_3_method_4_code 45 = .ok (.if_icmp .ne 15, 3) := by decide +kernel
theorem dG_paidFrom_48 : decode prog_3_method_4_code 48 = .ok (.lload 4, 2) := by decide +kernel
theorem dG_paidFrom_50 : decode prog_3_method_4_code 50 = .ok (.aload_n 0, 1) := by decide +kernel
theorem dG_paidFrom_51 : decode prog_3_method_4_code 51 = .ok (.getfield 21, 3) := by decide +kernel
theorem dG_paidFrom_54 : decode prog_3_method_4_code 54 = .ok (.iload 6, 2) := by decide +kernel
theorem dG_paidFrom_56 : decode prog_3_method_4_code 56 = .ok (.laload, 1) := by decide +kernel
theorem dG_paidFrom_57 : decode prog_3_method_4_code 57 = .ok (.ladd, 1) := by decide +kernel
theorem dG_paidFrom_58 : decode prog_3_method_4_code 58 = .ok (.lstore 4, 2) := by decide +kernel
theorem dG_paidFrom_60 : decode prog_3_method_4_code 60 = .ok (.aload_n 0, 1) := by decide +kernel
theorem dG_paidFrom_61 : decode prog_3_method_4_code 61 = .ok (.getfield 18, 3) := by decide +kernel
theorem dG_paidFrom_64 : decode prog_3_method_4_code 64 = .ok (.iload 6, 2) := by decide +kernel
theorem dG_paidFrom_66 : decode prog_3_method_4_code 66 = .ok (.iaload, 1) := by decide +kernel
theorem dG_paidFrom_67 : decode prog_3_method_4_code 67 = .ok (.iload_n 3, 1) := by decide +kernel
theorem dG_paidFrom_68 : decode prog_3_method_4_code 68 = .ok (.if_icmp .ne 37, 3) := by decide +kernel
theorem dG_paidFrom_71 : decode prog_3_method_4_code 71 = .ok (.aload_n 0, 1) := by decide +kernel
theorem dG_paidFrom_72 : decode prog_3_method_4_code 72 = .ok (.getfield 9, 3) := by decide +kernel
theorem dG_paidFrom_75 : decode prog_3_method_4_code 75 = .ok (.iload 6, 2) := by decide +kernel
theorem dG_paidFrom_77 : decode prog_3_method_4_code 77 = .ok (.iaload, 1) := by decide +kernel
theorem dG_paidFrom_78 : decode prog_3_method_4_code 78 = .ok (.iload_n 2, 1) := by decide +kernel
theorem dG_paidFrom_79 : decode prog_3_method_4_code 79 = .ok (.if_icmp .ne 26, 3) := by decide +kernel
theorem dG_paidFrom_82 : decode prog_3_method_4_code 82 = .ok (.aload_n 0, 1) := by decide +kernel
theorem dG_paidFrom_83 : decode prog_3_method_4_code 83 = .ok (.getfield 15, 3) := by decide +kernel
theorem dG_paidFrom_86 : decode prog_3_method_4_code 86 = .ok (.iload 6, 2) := by decide +kernel
theorem dG_paidFrom_88 : decode prog_3_method_4_code 88 = .ok (.iaload, 1) := by decide +kernel
theorem dG_paidFrom_89 : decode prog_3_method_4_code 89 = .ok (.iload_n 1, 1) := by decide +kernel
theorem dG_paidFrom_90 : decode prog_3_method_4_code 90 = .ok (.if_icmp .ne 15, 3) := by decide +kernel
theorem dG_paidFrom_93 : decode prog_3_method_4_code 93 = .ok (.lload 4, 2) := by decide +kernel
theorem dG_paidFrom_95 : decode prog_3_method_4_code 95 = .ok (.aload_n 0, 1) := by decide +kernel
theorem dG_paidFrom_96 : decode prog_3_method_4_code 96 = .ok (.getfield 21, 3) := by decide +kernel
theorem dG_paidFrom_99 : decode prog_3_method_4_code 99 = .ok (.iload 6, 2) := by decide +kernel
theorem dG_paidFrom_101 : decode prog_3_method_4_code 101 = .ok (.laload, 1) := by decide +kernel
theorem dG_paidFrom_102 : decode prog_3_method_4_code 102 = .ok (.lsub, 1) := by decide +kernel
theorem dG_paidFrom_103 : decode prog_3_method_4_code 103 = .ok (.lstore 4, 2) := by decide +kernel
theorem dG_paidFrom_105 : decode prog_3_method_4_code 105 = .ok (.iinc 6 1, 3) := by decide +kernel
theorem dG_paidFrom_108 : decode prog_3_method_4_code 108 = .ok (.goto (-102), 3) := by decide +kernel
theorem dG_paidFrom_111 : decode prog_3_method_4_code 111 = .ok (.lload 4, 2) := by decide +kernel
theorem dG_paidFrom_113 : decode prog_3_method_4_code 113 = .ok (.lreturn, 1) := by decide +kernel
def f_G_paidFrom_l (x : XS) (p : Int32) (q : Int32) (mo : Int32) : Nat → Nat → Int64 → Int64
  | 0, _, _ => 0
  | n + 1, k, v => if (nI (x.1 5)) ≤ (nI k) then v else (if ((x.2.2.2.1 4) (nI k).toNatClampNeg) = mo then (if ((x.2.2.2.1 2) (nI k).toNatClampNeg) = p then (if ((x.2.2.2.1 3) (nI k).toNatClampNeg) = q then (if ((x.2.2.2.1 2) (nI k).toNatClampNeg) = q then (if ((x.2.2.2.1 3) (nI k).toNatClampNeg) = p then (f_G_paidFrom_l x p q mo n (k + 1) ((v + ((x.2.2.2.2.1 3) (nI k).toNatClampNeg)) - ((x.2.2.2.2.1 3) (nI k).toNatClampNeg))) else (f_G_paidFrom_l x p q mo n (k + 1) (v + ((x.2.2.2.2.1 3) (nI k).toNatClampNeg)))) else (f_G_paidFrom_l x p q mo n (k + 1) (v + ((x.2.2.2.2.1 3) (nI k).toNatClampNeg)))) else (if ((x.2.2.2.1 2) (nI k).toNatClampNeg) = q then (if ((x.2.2.2.1 3) (nI k).toNatClampNeg) = p then (f_G_paidFrom_l x p q mo n (k + 1) (v - ((x.2.2.2.2.1 3) (nI k).toNatClampNeg))) else (f_G_paidFrom_l x p q mo n (k + 1) v)) else (f_G_paidFrom_l x p q mo n (k + 1) v))) else (if ((x.2.2.2.1 2) (nI k).toNatClampNeg) = q then (if ((x.2.2.2.1 3) (nI k).toNatClampNeg) = p then (f_G_paidFrom_l x p q mo n (k + 1) (v - ((x.2.2.2.2.1 3) (nI k).toNatClampNeg))) else (f_G_paidFrom_l x p q mo n (k + 1) v)) else (f_G_paidFrom_l x p q mo n (k + 1) v))) else (f_G_paidFrom_l x p q mo n (k + 1) v))
theorem f_G_paidFrom_l_s (x : XS) (p : Int32) (q : Int32) (mo : Int32) (n : Nat) (k : Nat) (v : Int64) : f_G_paidFrom_l x p q mo (n + 1) k v = (if (nI (x.1 5)) ≤ (nI k) then v else (if ((x.2.2.2.1 4) (nI k).toNatClampNeg) = mo then (if ((x.2.2.2.1 2) (nI k).toNatClampNeg) = p then (if ((x.2.2.2.1 3) (nI k).toNatClampNeg) = q then (if ((x.2.2.2.1 2) (nI k).toNatClampNeg) = q then (if ((x.2.2.2.1 3) (nI k).toNatClampNeg) = p then (f_G_paidFrom_l x p q mo n (k + 1) ((v + ((x.2.2.2.2.1 3) (nI k).toNatClampNeg)) - ((x.2.2.2.2.1 3) (nI k).toNatClampNeg))) else (f_G_paidFrom_l x p q mo n (k + 1) (v + ((x.2.2.2.2.1 3) (nI k).toNatClampNeg)))) else (f_G_paidFrom_l x p q mo n (k + 1) (v + ((x.2.2.2.2.1 3) (nI k).toNatClampNeg)))) else (if ((x.2.2.2.1 2) (nI k).toNatClampNeg) = q then (if ((x.2.2.2.1 3) (nI k).toNatClampNeg) = p then (f_G_paidFrom_l x p q mo n (k + 1) (v - ((x.2.2.2.2.1 3) (nI k).toNatClampNeg))) else (f_G_paidFrom_l x p q mo n (k + 1) v)) else (f_G_paidFrom_l x p q mo n (k + 1) v))) else (if ((x.2.2.2.1 2) (nI k).toNatClampNeg) = q then (if ((x.2.2.2.1 3) (nI k).toNatClampNeg) = p then (f_G_paidFrom_l x p q mo n (k + 1) (v - ((x.2.2.2.2.1 3) (nI k).toNatClampNeg))) else (f_G_paidFrom_l x p q mo n (k + 1) v)) else (f_G_paidFrom_l x p q mo n (k + 1) v))) else (f_G_paidFrom_l x p q mo n (k + 1) v))) := rfl
def f_G_paidFrom (x : XS) (p : Int32) (q : Int32) (mo : Int32) : Int64 := f_G_paidFrom_l x p q mo (x.1 5 + 1) 0 0
set_option maxHeartbeats 4000000 in
set_option maxRecDepth 100000 in
theorem c_G_paidFrom (l : Launch) (D : va_G) (cI cL cQ : ClassId) (d : Nat → Nat) (κ : Nat → Option va_E) (x : XS) (hX : IsX cI cL cQ d κ x) (hB : XB x) (sz : Nat) (p : Int32) (q : Int32) (mo : Int32)  : Met l yG_paidFrom wG_paidFrom { frames := 0, cells := 0, slots := 0, locals := 0 } (va_Pc [.ref (d 27), .int (p), .int (q), .int (mo)] (kC D vCl (kT cI cL cQ) d κ sz)) (vp_Sl (fun r => r = f_G_paidFrom x p q mo)) 0 0 (fun _ => False) := by
  refine kMet (by decide) (Nat.le_of_ble_eq_true rfl) ?_
  intro p0 e0 s0 m0 below0 meth0 c0 hx hb hr hml hown hlocks hin hts hsz hP hK ls hl
  have hl : lv_has ls 7 [(0, .ref (d 27)), (1, .int (p)), (2, .int (q)), (3, .int (mo))] := hl
  have hB9 := hB
  obtain ⟨hb0, hb1, hb2, hb3, hb4, hb5, hb6, hb7, hb8⟩ := hB9
  refine lv_lconst (v := 0) hx hb dG_paidFrom_0 (by decide) ?_
  refine lv_lstore (lv' := [(4, .long (0)), (0, .ref (d 27)), (1, .int (p)), (2, .int (q)), (3, .int (mo))]) hx hb dG_paidFrom_1 hl (by decide) rfl (fun ls hl => ?_)
  refine lv_iconst (v := 0) hx hb dG_paidFrom_3 (by decide) ?_
  refine lv_istore (lv' := [(6, .int (0)), (4, .long (0)), (0, .ref (d 27)), (1, .int (p)), (2, .int (q)), (3, .int (mo))]) hx hb dG_paidFrom_4 hl (by decide) rfl (fun ls hl => ?_)
  refine k_rec (σ := Nat × Int64) (fun n z9 ls => z9.1 ≤ x.1 5 ∧ x.1 5 < z9.1 + n ∧ f_G_paidFrom_l x p q mo n z9.1 z9.2 = f_G_paidFrom x p q mo ∧ lv_has ls 7 [(6, .int (nI z9.1)), (4, .long z9.2), (0, .ref (d 27)), (1, .int (p)), (2, .int (q)), (3, .int (mo))]) (x.1 5 + 1) (0, 0) ⟨by omega, by omega, by rw [f_G_paidFrom], lv_sub hl [0, 1, 2, 3, 4, 5] rfl⟩ ?_
  intro n z9 ls hI ih
  obtain ⟨k, v⟩ := z9
  obtain ⟨hk, hn, hE, hl⟩ := hI
  dsimp only at hk hn hE hl
  obtain ⟨n, rfl⟩ : ∃ q, n = q + 1 := ⟨n - 1, by omega⟩
  refine lv_iload hx hb dG_paidFrom_6 (lv_at hl 0 rfl) ?_
  refine lv_aload_n hx hb dG_paidFrom_8 rfl (lv_at hl 2 rfl) ?_
  refine ka_get (ci := 1) (C := RG) (T := TG) (N := 5) hx hb hts inG hown hK hP (q := 27) hX.2.2.2.2.2.2.2.2.2.1 rfl 4 (by decide) (hts _ tw_86) (fun _ h9 => h9) rfl dG_paidFrom_9 ?_
  refine lv_icmp_ge (tgt := 111) hx hb dG_paidFrom_12 (by decide) (fun c_12 => ?_) (fun c_12 => ?_)
  · refine lv_lload hx hb dG_paidFrom_111 (lv_at hl 1 rfl) ?_
    exact W.lret (v := v) hx hb hr (fun t ht hW => ⟨_, rfl, by rw [← hE, f_G_paidFrom_l_s, if_pos c_12], ht⟩) (fun q h => by cases h) dG_paidFrom_113
  · have hlt : k < x.1 5 := Nat.lt_of_not_le (fun q => c_12 (nI_le q (by omega)))
    refine lv_aload_n hx hb dG_paidFrom_15 rfl (lv_at hl 2 rfl) ?_
    refine ka_get (ci := 1) (C := RG) (T := TG) (N := 5) hx hb hts inG hown hK hP (q := 27) hX.2.2.2.2.2.2.2.2.2.1 rfl 2 (by decide) (hts _ tw_82) (fun _ h9 => h9) rfl dG_paidFrom_16 ?_
    refine lv_iload hx hb dG_paidFrom_19 (lv_at hl 0 rfl) ?_
    refine ka_iald hx hb hK hP 0 (q := 30) hX.2.2.2.2.2.2.2.2.2.2.2.2.1 rfl (by first | assumption | exact vp_in_nI (by omega) (by omega)) dG_paidFrom_21 ?_
    refine lv_iload_n hx hb dG_paidFrom_22 rfl (lv_at hl 5 rfl) ?_
    refine lv_icmp_ne (tgt := 60) hx hb dG_paidFrom_23 (by decide) (fun c_23 => ?_) (fun c_23 => ?_)
    · refine lv_aload_n hx hb dG_paidFrom_60 rfl (lv_at hl 2 rfl) ?_
      refine ka_get (ci := 1) (C := RG) (T := TG) (N := 5) hx hb hts inG hown hK hP (q := 27) hX.2.2.2.2.2.2.2.2.2.1 rfl 2 (by decide) (hts _ tw_82) (fun _ h9 => h9) rfl dG_paidFrom_61 ?_
      refine lv_iload hx hb dG_paidFrom_64 (lv_at hl 0 rfl) ?_
      refine ka_iald hx hb hK hP 0 (q := 30) hX.2.2.2.2.2.2.2.2.2.2.2.2.1 rfl (by first | assumption | exact vp_in_nI (by omega) (by omega)) dG_paidFrom_66 ?_
      refine lv_iload_n hx hb dG_paidFrom_67 rfl (lv_at hl 5 rfl) ?_
      refine lv_icmp_ne (tgt := 105) hx hb dG_paidFrom_68 (by decide) (fun _ => ?_) (fun c => absurd c c_23)
      refine lv_iinc (v := nI (k + 1)) (lv' := [(6, .int (nI (k + 1))), (4, .long (v)), (0, .ref (d 27)), (1, .int (p)), (2, .int (q)), (3, .int (mo))]) hx hb dG_paidFrom_105 hl (k := 0) rfl (nI_add k 1) (by decide) rfl (fun ls hl => ?_)
      refine lv_goto (tgt := 6) hx hb dG_paidFrom_108 (by decide) ?_
      exact ih n (k + 1, v) ls (by omega) ⟨by omega, by omega, by rw [← hE, f_G_paidFrom_l_s, if_neg c_12, if_neg c_23], lv_sub hl [0, 1, 2, 3, 4, 5] rfl⟩
    · refine lv_aload_n hx hb dG_paidFrom_26 rfl (lv_at hl 2 rfl) ?_
      refine ka_get (ci := 1) (C := RG) (T := TG) (N := 5) hx hb hts inG hown hK hP (q := 27) hX.2.2.2.2.2.2.2.2.2.1 rfl 0 (by decide) (hts _ tw_78) (fun _ h9 => h9) rfl dG_paidFrom_27 ?_
      refine lv_iload hx hb dG_paidFrom_30 (lv_at hl 0 rfl) ?_
      refine ka_iald hx hb hK hP 0 (q := 28) hX.2.2.2.2.2.2.2.2.2.2.1 rfl (by first | assumption | exact vp_in_nI (by omega) (by omega)) dG_paidFrom_32 ?_
      refine lv_iload_n hx hb dG_paidFrom_33 rfl (lv_at hl 3 rfl) ?_
      refine lv_icmp_ne (tgt := 60) hx hb dG_paidFrom_34 (by decide) (fun c_34 => ?_) (fun c_34 => ?_)
      · refine lv_aload_n hx hb dG_paidFrom_60 rfl (lv_at hl 2 rfl) ?_
        refine ka_get (ci := 1) (C := RG) (T := TG) (N := 5) hx hb hts inG hown hK hP (q := 27) hX.2.2.2.2.2.2.2.2.2.1 rfl 2 (by decide) (hts _ tw_82) (fun _ h9 => h9) rfl dG_paidFrom_61 ?_
        refine lv_iload hx hb dG_paidFrom_64 (lv_at hl 0 rfl) ?_
        refine ka_iald hx hb hK hP 0 (q := 30) hX.2.2.2.2.2.2.2.2.2.2.2.2.1 rfl (by first | assumption | exact vp_in_nI (by omega) (by omega)) dG_paidFrom_66 ?_
        refine lv_iload_n hx hb dG_paidFrom_67 rfl (lv_at hl 5 rfl) ?_
        refine lv_icmp_ne (tgt := 105) hx hb dG_paidFrom_68 (by decide) (fun c => absurd c_23 c) (fun _ => ?_)
        refine lv_aload_n hx hb dG_paidFrom_71 rfl (lv_at hl 2 rfl) ?_
        refine ka_get (ci := 1) (C := RG) (T := TG) (N := 5) hx hb hts inG hown hK hP (q := 27) hX.2.2.2.2.2.2.2.2.2.1 rfl 0 (by decide) (hts _ tw_78) (fun _ h9 => h9) rfl dG_paidFrom_72 ?_
        refine lv_iload hx hb dG_paidFrom_75 (lv_at hl 0 rfl) ?_
        refine ka_iald hx hb hK hP 0 (q := 28) hX.2.2.2.2.2.2.2.2.2.2.1 rfl (by first | assumption | exact vp_in_nI (by omega) (by omega)) dG_paidFrom_77 ?_
        refine lv_iload_n hx hb dG_paidFrom_78 rfl (lv_at hl 4 rfl) ?_
        refine lv_icmp_ne (tgt := 105) hx hb dG_paidFrom_79 (by decide) (fun c_79 => ?_) (fun c_79 => ?_)
        · refine lv_iinc (v := nI (k + 1)) (lv' := [(6, .int (nI (k + 1))), (4, .long (v)), (0, .ref (d 27)), (1, .int (p)), (2, .int (q)), (3, .int (mo))]) hx hb dG_paidFrom_105 hl (k := 0) rfl (nI_add k 1) (by decide) rfl (fun ls hl => ?_)
          refine lv_goto (tgt := 6) hx hb dG_paidFrom_108 (by decide) ?_
          exact ih n (k + 1, v) ls (by omega) ⟨by omega, by omega, by rw [← hE, f_G_paidFrom_l_s, if_neg c_12, if_pos c_23, if_neg c_34, if_neg c_79], lv_sub hl [0, 1, 2, 3, 4, 5] rfl⟩
        · refine lv_aload_n hx hb dG_paidFrom_82 rfl (lv_at hl 2 rfl) ?_
          refine ka_get (ci := 1) (C := RG) (T := TG) (N := 5) hx hb hts inG hown hK hP (q := 27) hX.2.2.2.2.2.2.2.2.2.1 rfl 1 (by decide) (hts _ tw_80) (fun _ h9 => h9) rfl dG_paidFrom_83 ?_
          refine lv_iload hx hb dG_paidFrom_86 (lv_at hl 0 rfl) ?_
          refine ka_iald hx hb hK hP 0 (q := 29) hX.2.2.2.2.2.2.2.2.2.2.2.1 rfl (by first | assumption | exact vp_in_nI (by omega) (by omega)) dG_paidFrom_88 ?_
          refine lv_iload_n hx hb dG_paidFrom_89 rfl (lv_at hl 3 rfl) ?_
          refine lv_icmp_ne (tgt := 105) hx hb dG_paidFrom_90 (by decide) (fun c_90 => ?_) (fun c_90 => ?_)
          · refine lv_iinc (v := nI (k + 1)) (lv' := [(6, .int (nI (k + 1))), (4, .long (v)), (0, .ref (d 27)), (1, .int (p)), (2, .int (q)), (3, .int (mo))]) hx hb dG_paidFrom_105 hl (k := 0) rfl (nI_add k 1) (by decide) rfl (fun ls hl => ?_)
            refine lv_goto (tgt := 6) hx hb dG_paidFrom_108 (by decide) ?_
            exact ih n (k + 1, v) ls (by omega) ⟨by omega, by omega, by rw [← hE, f_G_paidFrom_l_s, if_neg c_12, if_pos c_23, if_neg c_34, if_pos c_79, if_neg c_90], lv_sub hl [0, 1, 2, 3, 4, 5] rfl⟩
          · refine lv_lload hx hb dG_paidFrom_93 (lv_at hl 1 rfl) ?_
            refine lv_aload_n hx hb dG_paidFrom_95 rfl (lv_at hl 2 rfl) ?_
            refine ka_get (ci := 1) (C := RG) (T := TG) (N := 5) hx hb hts inG hown hK hP (q := 27) hX.2.2.2.2.2.2.2.2.2.1 rfl 3 (by decide) (hts _ tw_84) (fun _ h9 => h9) rfl dG_paidFrom_96 ?_
            refine lv_iload hx hb dG_paidFrom_99 (lv_at hl 0 rfl) ?_
            refine ka_lald hx hb hK hP 1 (q := 31) hX.2.2.2.2.2.2.2.2.2.2.2.2.2.1 rfl (by first | assumption | exact vp_in_nI (by omega) (by omega)) dG_paidFrom_101 ?_
            refine lv_lsub hx hb dG_paidFrom_102 ?_
            refine lv_lstore (lv' := [(4, .long (v - ((x.2.2.2.2.1 3) (nI k).toNatClampNeg))), (6, .int (nI k)), (0, .ref (d 27)), (1, .int (p)), (2, .int (q)), (3, .int (mo))]) hx hb dG_paidFrom_103 hl (by decide) rfl (fun ls hl => ?_)
            refine lv_iinc (v := nI (k + 1)) (lv' := [(6, .int (nI (k + 1))), (4, .long (v - ((x.2.2.2.2.1 3) (nI k).toNatClampNeg))), (0, .ref (d 27)), (1, .int (p)), (2, .int (q)), (3, .int (mo))]) hx hb dG_paidFrom_105 hl (k := 1) rfl (nI_add k 1) (by decide) rfl (fun ls hl => ?_)
            refine lv_goto (tgt := 6) hx hb dG_paidFrom_108 (by decide) ?_
            exact ih n (k + 1, v - ((x.2.2.2.2.1 3) (nI k).toNatClampNeg)) ls (by omega) ⟨by omega, by omega, by rw [← hE, f_G_paidFrom_l_s, if_neg c_12, if_pos c_23, if_neg c_34, if_pos c_79, if_pos c_90], lv_sub hl [0, 1, 2, 3, 4, 5] rfl⟩
      · refine lv_aload_n hx hb dG_paidFrom_37 rfl (lv_at hl 2 rfl) ?_
        refine ka_get (ci := 1) (C := RG) (T := TG) (N := 5) hx hb hts inG hown hK hP (q := 27) hX.2.2.2.2.2.2.2.2.2.1 rfl 1 (by decide) (hts _ tw_80) (fun _ h9 => h9) rfl dG_paidFrom_38 ?_
        refine lv_iload hx hb dG_paidFrom_41 (lv_at hl 0 rfl) ?_
        refine ka_iald hx hb hK hP 0 (q := 29) hX.2.2.2.2.2.2.2.2.2.2.2.1 rfl (by first | assumption | exact vp_in_nI (by omega) (by omega)) dG_paidFrom_43 ?_
        refine lv_iload_n hx hb dG_paidFrom_44 rfl (lv_at hl 4 rfl) ?_
        refine lv_icmp_ne (tgt := 60) hx hb dG_paidFrom_45 (by decide) (fun c_45 => ?_) (fun c_45 => ?_)
        · refine lv_aload_n hx hb dG_paidFrom_60 rfl (lv_at hl 2 rfl) ?_
          refine ka_get (ci := 1) (C := RG) (T := TG) (N := 5) hx hb hts inG hown hK hP (q := 27) hX.2.2.2.2.2.2.2.2.2.1 rfl 2 (by decide) (hts _ tw_82) (fun _ h9 => h9) rfl dG_paidFrom_61 ?_
          refine lv_iload hx hb dG_paidFrom_64 (lv_at hl 0 rfl) ?_
          refine ka_iald hx hb hK hP 0 (q := 30) hX.2.2.2.2.2.2.2.2.2.2.2.2.1 rfl (by first | assumption | exact vp_in_nI (by omega) (by omega)) dG_paidFrom_66 ?_
          refine lv_iload_n hx hb dG_paidFrom_67 rfl (lv_at hl 5 rfl) ?_
          refine lv_icmp_ne (tgt := 105) hx hb dG_paidFrom_68 (by decide) (fun c => absurd c_23 c) (fun _ => ?_)
          refine lv_aload_n hx hb dG_paidFrom_71 rfl (lv_at hl 2 rfl) ?_
          refine ka_get (ci := 1) (C := RG) (T := TG) (N := 5) hx hb hts inG hown hK hP (q := 27) hX.2.2.2.2.2.2.2.2.2.1 rfl 0 (by decide) (hts _ tw_78) (fun _ h9 => h9) rfl dG_paidFrom_72 ?_
          refine lv_iload hx hb dG_paidFrom_75 (lv_at hl 0 rfl) ?_
          refine ka_iald hx hb hK hP 0 (q := 28) hX.2.2.2.2.2.2.2.2.2.2.1 rfl (by first | assumption | exact vp_in_nI (by omega) (by omega)) dG_paidFrom_77 ?_
          refine lv_iload_n hx hb dG_paidFrom_78 rfl (lv_at hl 4 rfl) ?_
          refine lv_icmp_ne (tgt := 105) hx hb dG_paidFrom_79 (by decide) (fun c_79 => ?_) (fun c_79 => ?_)
          · refine lv_iinc (v := nI (k + 1)) (lv' := [(6, .int (nI (k + 1))), (4, .long (v)), (0, .ref (d 27)), (1, .int (p)), (2, .int (q)), (3, .int (mo))]) hx hb dG_paidFrom_105 hl (k := 0) rfl (nI_add k 1) (by decide) rfl (fun ls hl => ?_)
            refine lv_goto (tgt := 6) hx hb dG_paidFrom_108 (by decide) ?_
            exact ih n (k + 1, v) ls (by omega) ⟨by omega, by omega, by rw [← hE, f_G_paidFrom_l_s, if_neg c_12, if_pos c_23, if_pos c_34, if_neg c_45, if_neg c_79], lv_sub hl [0, 1, 2, 3, 4, 5] rfl⟩
          · refine lv_aload_n hx hb dG_paidFrom_82 rfl (lv_at hl 2 rfl) ?_
            refine ka_get (ci := 1) (C := RG) (T := TG) (N := 5) hx hb hts inG hown hK hP (q := 27) hX.2.2.2.2.2.2.2.2.2.1 rfl 1 (by decide) (hts _ tw_80) (fun _ h9 => h9) rfl dG_paidFrom_83 ?_
            refine lv_iload hx hb dG_paidFrom_86 (lv_at hl 0 rfl) ?_
            refine ka_iald hx hb hK hP 0 (q := 29) hX.2.2.2.2.2.2.2.2.2.2.2.1 rfl (by first | assumption | exact vp_in_nI (by omega) (by omega)) dG_paidFrom_88 ?_
            refine lv_iload_n hx hb dG_paidFrom_89 rfl (lv_at hl 3 rfl) ?_
            refine lv_icmp_ne (tgt := 105) hx hb dG_paidFrom_90 (by decide) (fun c_90 => ?_) (fun c_90 => ?_)
            · refine lv_iinc (v := nI (k + 1)) (lv' := [(6, .int (nI (k + 1))), (4, .long (v)), (0, .ref (d 27)), (1, .int (p)), (2, .int (q)), (3, .int (mo))]) hx hb dG_paidFrom_105 hl (k := 0) rfl (nI_add k 1) (by decide) rfl (fun ls hl => ?_)
              refine lv_goto (tgt := 6) hx hb dG_paidFrom_108 (by decide) ?_
              exact ih n (k + 1, v) ls (by omega) ⟨by omega, by omega, by rw [← hE, f_G_paidFrom_l_s, if_neg c_12, if_pos c_23, if_pos c_34, if_neg c_45, if_pos c_79, if_neg c_90], lv_sub hl [0, 1, 2, 3, 4, 5] rfl⟩
            · refine lv_lload hx hb dG_paidFrom_93 (lv_at hl 1 rfl) ?_
              refine lv_aload_n hx hb dG_paidFrom_95 rfl (lv_at hl 2 rfl) ?_
              refine ka_get (ci := 1) (C := RG) (T := TG) (N := 5) hx hb hts inG hown hK hP (q := 27) hX.2.2.2.2.2.2.2.2.2.1 rfl 3 (by decide) (hts _ tw_84) (fun _ h9 => h9) rfl dG_paidFrom_96 ?_
              refine lv_iload hx hb dG_paidFrom_99 (lv_at hl 0 rfl) ?_
              refine ka_lald hx hb hK hP 1 (q := 31) hX.2.2.2.2.2.2.2.2.2.2.2.2.2.1 rfl (by first | assumption | exact vp_in_nI (by omega) (by omega)) dG_paidFrom_101 ?_
              refine lv_lsub hx hb dG_paidFrom_102 ?_
              refine lv_lstore (lv' := [(4, .long (v - ((x.2.2.2.2.1 3) (nI k).toNatClampNeg))), (6, .int (nI k)), (0, .ref (d 27)), (1, .int (p)), (2, .int (q)), (3, .int (mo))]) hx hb dG_paidFrom_103 hl (by decide) rfl (fun ls hl => ?_)
              refine lv_iinc (v := nI (k + 1)) (lv' := [(6, .int (nI (k + 1))), (4, .long (v - ((x.2.2.2.2.1 3) (nI k).toNatClampNeg))), (0, .ref (d 27)), (1, .int (p)), (2, .int (q)), (3, .int (mo))]) hx hb dG_paidFrom_105 hl (k := 1) rfl (nI_add k 1) (by decide) rfl (fun ls hl => ?_)
              refine lv_goto (tgt := 6) hx hb dG_paidFrom_108 (by decide) ?_
              exact ih n (k + 1, v - ((x.2.2.2.2.1 3) (nI k).toNatClampNeg)) ls (by omega) ⟨by omega, by omega, by rw [← hE, f_G_paidFrom_l_s, if_neg c_12, if_pos c_23, if_pos c_34, if_neg c_45, if_pos c_79, if_pos c_90], lv_sub hl [0, 1, 2, 3, 4, 5] rfl⟩
        · refine lv_lload hx hb dG_paidFrom_48 (lv_at hl 1 rfl) ?_
          refine lv_aload_n hx hb dG_paidFrom_50 rfl (lv_at hl 2 rfl) ?_
          refine ka_get (ci := 1) (C := RG) (T := TG) (N := 5) hx hb hts inG hown hK hP (q := 27) hX.2.2.2.2.2.2.2.2.2.1 rfl 3 (by decide) (hts _ tw_84) (fun _ h9 => h9) rfl dG_paidFrom_51 ?_
          refine lv_iload hx hb dG_paidFrom_54 (lv_at hl 0 rfl) ?_
          refine ka_lald hx hb hK hP 1 (q := 31) hX.2.2.2.2.2.2.2.2.2.2.2.2.2.1 rfl (by first | assumption | exact vp_in_nI (by omega) (by omega)) dG_paidFrom_56 ?_
          refine lv_ladd hx hb dG_paidFrom_57 ?_
          refine lv_lstore (lv' := [(4, .long (v + ((x.2.2.2.2.1 3) (nI k).toNatClampNeg))), (6, .int (nI k)), (0, .ref (d 27)), (1, .int (p)), (2, .int (q)), (3, .int (mo))]) hx hb dG_paidFrom_58 hl (by decide) rfl (fun ls hl => ?_)
          refine lv_aload_n hx hb dG_paidFrom_60 rfl (lv_at hl 2 rfl) ?_
          refine ka_get (ci := 1) (C := RG) (T := TG) (N := 5) hx hb hts inG hown hK hP (q := 27) hX.2.2.2.2.2.2.2.2.2.1 rfl 2 (by decide) (hts _ tw_82) (fun _ h9 => h9) rfl dG_paidFrom_61 ?_
          refine lv_iload hx hb dG_paidFrom_64 (lv_at hl 1 rfl) ?_
          refine ka_iald hx hb hK hP 0 (q := 30) hX.2.2.2.2.2.2.2.2.2.2.2.2.1 rfl (by first | assumption | exact vp_in_nI (by omega) (by omega)) dG_paidFrom_66 ?_
          refine lv_iload_n hx hb dG_paidFrom_67 rfl (lv_at hl 5 rfl) ?_
          refine lv_icmp_ne (tgt := 105) hx hb dG_paidFrom_68 (by decide) (fun c => absurd c_23 c) (fun _ => ?_)
          refine lv_aload_n hx hb dG_paidFrom_71 rfl (lv_at hl 2 rfl) ?_
          refine ka_get (ci := 1) (C := RG) (T := TG) (N := 5) hx hb hts inG hown hK hP (q := 27) hX.2.2.2.2.2.2.2.2.2.1 rfl 0 (by decide) (hts _ tw_78) (fun _ h9 => h9) rfl dG_paidFrom_72 ?_
          refine lv_iload hx hb dG_paidFrom_75 (lv_at hl 1 rfl) ?_
          refine ka_iald hx hb hK hP 0 (q := 28) hX.2.2.2.2.2.2.2.2.2.2.1 rfl (by first | assumption | exact vp_in_nI (by omega) (by omega)) dG_paidFrom_77 ?_
          refine lv_iload_n hx hb dG_paidFrom_78 rfl (lv_at hl 4 rfl) ?_
          refine lv_icmp_ne (tgt := 105) hx hb dG_paidFrom_79 (by decide) (fun c_79 => ?_) (fun c_79 => ?_)
          · refine lv_iinc (v := nI (k + 1)) (lv' := [(6, .int (nI (k + 1))), (4, .long (v + ((x.2.2.2.2.1 3) (nI k).toNatClampNeg))), (0, .ref (d 27)), (1, .int (p)), (2, .int (q)), (3, .int (mo))]) hx hb dG_paidFrom_105 hl (k := 1) rfl (nI_add k 1) (by decide) rfl (fun ls hl => ?_)
            refine lv_goto (tgt := 6) hx hb dG_paidFrom_108 (by decide) ?_
            exact ih n (k + 1, v + ((x.2.2.2.2.1 3) (nI k).toNatClampNeg)) ls (by omega) ⟨by omega, by omega, by rw [← hE, f_G_paidFrom_l_s, if_neg c_12, if_pos c_23, if_pos c_34, if_pos c_45, if_neg c_79], lv_sub hl [0, 1, 2, 3, 4, 5] rfl⟩
          · refine lv_aload_n hx hb dG_paidFrom_82 rfl (lv_at hl 2 rfl) ?_
            refine ka_get (ci := 1) (C := RG) (T := TG) (N := 5) hx hb hts inG hown hK hP (q := 27) hX.2.2.2.2.2.2.2.2.2.1 rfl 1 (by decide) (hts _ tw_80) (fun _ h9 => h9) rfl dG_paidFrom_83 ?_
            refine lv_iload hx hb dG_paidFrom_86 (lv_at hl 1 rfl) ?_
            refine ka_iald hx hb hK hP 0 (q := 29) hX.2.2.2.2.2.2.2.2.2.2.2.1 rfl (by first | assumption | exact vp_in_nI (by omega) (by omega)) dG_paidFrom_88 ?_
            refine lv_iload_n hx hb dG_paidFrom_89 rfl (lv_at hl 3 rfl) ?_
            refine lv_icmp_ne (tgt := 105) hx hb dG_paidFrom_90 (by decide) (fun c_90 => ?_) (fun c_90 => ?_)
            · refine lv_iinc (v := nI (k + 1)) (lv' := [(6, .int (nI (k + 1))), (4, .long (v + ((x.2.2.2.2.1 3) (nI k).toNatClampNeg))), (0, .ref (d 27)), (1, .int (p)), (2, .int (q)), (3, .int (mo))]) hx hb dG_paidFrom_105 hl (k := 1) rfl (nI_add k 1) (by decide) rfl (fun ls hl => ?_)
              refine lv_goto (tgt := 6) hx hb dG_paidFrom_108 (by decide) ?_
              exact ih n (k + 1, v + ((x.2.2.2.2.1 3) (nI k).toNatClampNeg)) ls (by omega) ⟨by omega, by omega, by rw [← hE, f_G_paidFrom_l_s, if_neg c_12, if_pos c_23, if_pos c_34, if_pos c_45, if_pos c_79, if_neg c_90], lv_sub hl [0, 1, 2, 3, 4, 5] rfl⟩
            · refine lv_lload hx hb dG_paidFrom_93 (lv_at hl 0 rfl) ?_
              refine lv_aload_n hx hb dG_paidFrom_95 rfl (lv_at hl 2 rfl) ?_
              refine ka_get (ci := 1) (C := RG) (T := TG) (N := 5) hx hb hts inG hown hK hP (q := 27) hX.2.2.2.2.2.2.2.2.2.1 rfl 3 (by decide) (hts _ tw_84) (fun _ h9 => h9) rfl dG_paidFrom_96 ?_
              refine lv_iload hx hb dG_paidFrom_99 (lv_at hl 1 rfl) ?_
              refine ka_lald hx hb hK hP 1 (q := 31) hX.2.2.2.2.2.2.2.2.2.2.2.2.2.1 rfl (by first | assumption | exact vp_in_nI (by omega) (by omega)) dG_paidFrom_101 ?_
              refine lv_lsub hx hb dG_paidFrom_102 ?_
              refine lv_lstore (lv' := [(4, .long ((v + ((x.2.2.2.2.1 3) (nI k).toNatClampNeg)) - ((x.2.2.2.2.1 3) (nI k).toNatClampNeg))), (6, .int (nI k)), (0, .ref (d 27)), (1, .int (p)), (2, .int (q)), (3, .int (mo))]) hx hb dG_paidFrom_103 hl (by decide) rfl (fun ls hl => ?_)
              refine lv_iinc (v := nI (k + 1)) (lv' := [(6, .int (nI (k + 1))), (4, .long ((v + ((x.2.2.2.2.1 3) (nI k).toNatClampNeg)) - ((x.2.2.2.2.1 3) (nI k).toNatClampNeg))), (0, .ref (d 27)), (1, .int (p)), (2, .int (q)), (3, .int (mo))]) hx hb dG_paidFrom_105 hl (k := 1) rfl (nI_add k 1) (by decide) rfl (fun ls hl => ?_)
              refine lv_goto (tgt := 6) hx hb dG_paidFrom_108 (by decide) ?_
              exact ih n (k + 1, (v + ((x.2.2.2.2.1 3) (nI k).toNatClampNeg)) - ((x.2.2.2.2.1 3) (nI k).toNatClampNeg)) ls (by omega) ⟨by omega, by omega, by rw [← hE, f_G_paidFrom_l_s, if_neg c_12, if_pos c_23, if_pos c_34, if_pos c_45, if_pos c_79, if_pos c_90], lv_sub hl [0, 1, 2, 3, 4, 5] rfl⟩
end
section
theorem client_in {x : XS} (hB : XB x) {p : Int32} (h : ¬ f_X_isClient x p = 0) : vp_in p (x.1 0) := by
  unfold f_X_isClient at h
  by_cases c1 : p ≤ 0
  · rw [if_pos c1] at h; exact absurd rfl h
  · rw [if_neg c1] at h
    by_cases c2 : nI (x.1 0) ≤ p
    · rw [if_pos c2] at h; exact absurd rfl h
    · obtain ⟨hb0, hb1, -⟩ := hB
      obtain ⟨j, hj, rfl⟩ := nI_of (x := p) (fun q => c1 (Int32.le_of_lt q))
      exact vp_in_nI (Nat.lt_of_not_le (fun q => c2 (nI_le q hj))) (by omega)
theorem owner_in {x : XS} (hB : XB x) {pos : Int32} (h : ¬ f_X_isPosition x pos = 0) : vp_in (f_X_ownerOf x pos) (x.1 0) := by
  unfold f_X_isPosition at h
  by_cases c1 : pos < 0
  · rw [if_pos c1] at h; exact absurd rfl h
  · rw [if_neg c1] at h
    by_cases c2 : nI (x.1 0 * x.1 1) ≤ pos
    · rw [if_pos c2] at h; exact absurd rfl h
    · obtain ⟨hb0, hb1, hb2, hb3, -⟩ := hB
      obtain ⟨j, hj, rfl⟩ := nI_of c1
      have h3 : j < x.1 0 * x.1 1 := Nat.lt_of_not_le (fun q => c2 (nI_le q hj))
      unfold f_X_ownerOf
      rw [pk_div hj (by omega) (by omega)]
      exact vp_in_nI (Nat.div_lt_of_lt_mul (by rw [Nat.mul_comm]; exact h3)) (by omega)

theorem dX_lowest_0 : decode prog_1_method_33_code 0 = .ok (.iload_n 2, 1) := by decide +kernel
theorem dX_lowest_1 : decode prog_1_method_33_code 1 = .ok (.ifCond .ne 7, 3) := by decide +kernel
theorem dX_lowest_4 : decode prog_1_method_33_code 4 = .ok (.ldc2_w 194, 3) := by decide +kernel
theorem dX_lowest_7 : decode prog_1_method_33_code 7 = .ok (.lreturn, 1) := by decide +kernel
theorem dX_lowest_8 : decode prog_1_method_33_code 8 = .ok (.aload_n 1, 1) := by decide +kernel
theorem dX_lowest_9 : decode prog_1_method_33_code 9 = .ok (.getfield 187, 3) := by decide +kernel
theorem dX_lowest_12 : decode prog_1_method_33_code 12 = .ok (.ifCond .eq 10, 3) := by decide +kernel
theorem dX_lowest_15 : decode prog_1_method_33_code 15 = .ok (.aload_n 1, 1) := by decide +kernel
theorem dX_lowest_16 : decode prog_1_method_33_code 16 = .ok (.getfield 103, 3) := by decide +kernel
theorem dX_lowest_19 : decode prog_1_method_33_code 19 = .ok (.iload_n 2, 1) := by decide +kernel
theorem dX_lowest_20 : decode prog_1_method_33_code 20 = .ok (.laload, 1) := by decide +kernel
theorem dX_lowest_21 : decode prog_1_method_33_code 21 = .ok (.lreturn, 1) := by decide +kernel
theorem dX_lowest_22 : decode prog_1_method_33_code 22 = .ok (.aload_n 1, 1) := by decide +kernel
theorem dX_lowest_23 : decode prog_1_method_33_code 23 = .ok (.aload_n 0, 1) := by decide +kernel
theorem dX_lowest_24 : decode prog_1_method_33_code 24 = .ok (.aload_n 0, 1) := by decide +kernel
theorem dX_lowest_25 : decode prog_1_method_33_code 25 = .ok (.getfield 25, 3) := by decide +kernel
theorem dX_lowest_28 : decode prog_1_method_33_code 28 = .ok (.invokevirtual 79, 3) := by decide +kernel
theorem dX_lowest_31 : decode prog_1_method_33_code 31 = .ok (.if_acmp .ne 13, 3) := by decide +kernel
theorem dX_lowest_34 : decode prog_1_method_33_code 34 = .ok (.aload_n 0, 1) := by decide +kernel
theorem dX_lowest_35 : decode prog_1_method_33_code 35 = .ok (.getfield 28, 3) := by decide +kernel
theorem dX_lowest_38 : decode prog_1_method_33_code 38 = .ok (.iload_n 2, 1) := by decide +kernel
theorem dX_lowest_39 : decode prog_1_method_33_code 39 = .ok (.laload, 1) := by decide +kernel
theorem dX_lowest_40 : decode prog_1_method_33_code 40 = .ok (.lneg, 1) := by decide +kernel
theorem dX_lowest_41 : decode prog_1_method_33_code 41 = .ok (.goto 4, 3) := by decide +kernel
theorem dX_lowest_44 : decode prog_1_method_33_code 44 = .ok (.lconst 0, 1) := by decide +kernel
theorem dX_lowest_45 : decode prog_1_method_33_code 45 = .ok (.lreturn, 1) := by decide +kernel
def f_X_lowest (x : XS) (i : Nat) (p : Int32) : Int64 := if p = 0 then (-9223372036854775808) else (if (xS x i) = 0 then (if xIs x x.2.1 then (if i = (x.2.1).toNatClampNeg then (-((x.2.2.2.2.1 0) (p).toNatClampNeg)) else 0) else 0) else ((xP x i) (p).toNatClampNeg))
set_option maxHeartbeats 4000000 in
set_option maxRecDepth 100000 in
theorem c_X_lowest (l : Launch) (D : va_G) (cI cL cQ : ClassId) (d : Nat → Nat) (κ : Nat → Option va_E) (x : XS) (hX : IsX cI cL cQ d κ x) (hB : XB x) (sz : Nat) (i : Nat) (hi : i < x.1 2) (p : Int32) (hpP : vp_in p (x.1 0)) : Met l yX_lowest wX_lowest { frames := 1, cells := 0, slots := 0, locals := 21 } (va_Pc [.ref (d 18), .ref (d (32 + 3 * i)), .int (p)] (kC D vCl (kT cI cL cQ) d κ sz)) (vp_Sl (fun r => r = f_X_lowest x i p)) 0 0 (fun _ => False) := by
  refine kMet (by decide) (Nat.le_of_ble_eq_true rfl) ?_
  intro p0 e0 s0 m0 below0 meth0 c0 hx hb hr hml hown hlocks hin hts hsz hP hK ls hl
  have hl : lv_has ls 3 [(0, .ref (d 18)), (1, .ref (d (32 + 3 * i))), (2, .int (p))] := hl
  have hB9 := hB
  obtain ⟨hb0, hb1, hb2, hb3, hb4, hb5, hb6, hb7, hb8⟩ := hB9
  refine lv_iload_n hx hb dX_lowest_0 rfl (lv_at hl 2 rfl) ?_
  refine lv_if_ne (tgt := 8) hx hb dX_lowest_1 (by decide) (fun c_1 => ?_) (fun c_1 => ?_)
  · refine lv_aload_n hx hb dX_lowest_8 rfl (lv_at hl 1 rfl) ?_
    refine ka_get (ci := 0) (C := RA) (T := TA) (N := 4) hx hb hts inA hown hK hP (q := (32 + 3 * i)) (hX.2.2.2.2.2.2.2.2.2.2.2.2.2.2.1 i hi).1 rfl 0 (by decide) (hts _ tw_144) (fun _ h9 => h9) rfl dX_lowest_9 ?_
    refine lv_if_eq (tgt := 22) hx hb dX_lowest_12 (by decide) (fun c_12 => ?_) (fun c_12 => ?_)
    · refine lv_aload_n hx hb dX_lowest_22 rfl (lv_at hl 1 rfl) ?_
      refine lv_aload_n hx hb dX_lowest_23 rfl (lv_at hl 0 rfl) ?_
      refine lv_aload_n hx hb dX_lowest_24 rfl (lv_at hl 0 rfl) ?_
      refine ka_get (ci := 3) (C := RX) (T := TX) (N := 10) hx hb hts inX hown hK hP (q := 18) hX.1 rfl 4 (by decide) (hts _ tw_103) (fun _ h9 => h9) rfl dX_lowest_25 ?_
      refine va_csq (W.runV (C := RX) (As := [.int (x.2.1)]) (rest := [.ref (d (32 + 3 * i))]) ⟨hx, hb, hml, hown, hts⟩ (c_X_assetAt l D cI cL cQ d κ x hX hB _ x.2.1) (cwV 1 hts (k_gV tw_179 tw_181 tw_2 tw_38 tw_182) rfl rfl rfl (by decide +kernel) ⟨Nat.le_of_ble_eq_true rfl, Nat.le_of_ble_eq_true rfl⟩) (kPreV hP hK (q := 18) hX.1 rfl) rfl rfl hl.1 rfl (lv_room (Nat.le_of_ble_eq_true rfl)) dX_lowest_28 ⟨Nat.le_of_ble_eq_true rfl, Nat.le_of_ble_eq_true rfl⟩) (fun r_28 e_28 => ?_)
      subst e_28
      by_cases hA_28 : xIs x x.2.1
      · rw [if_pos hA_28]
        have hi_28 : (x.2.1).toNatClampNeg < x.1 2 := (xIs_in hB hA_28).2
        refine lv_acmp_ne (rx := some (d (32 + 3 * i))) (ry := some (d (32 + 3 * (x.2.1).toNatClampNeg))) (tgt := 44) hx hb dX_lowest_31 (by decide) (fun c_31 => ?_) (fun c_31 => ?_)
        · have c_31 : ¬ i = (x.2.1).toNatClampNeg := fun q => c_31 (by rw [q])
          refine lv_lconst (v := 0) hx hb dX_lowest_44 (by decide) ?_
          exact W.lret (v := 0) hx hb hr (fun t ht hW => ⟨_, rfl, by rw [f_X_lowest, if_neg c_1, if_pos c_12, if_pos hA_28, if_neg c_31], ht⟩) (fun q h => by cases h) dX_lowest_45
        · have c_31 : i = (x.2.1).toNatClampNeg := k_same hP (hX.2.2.2.2.2.2.2.2.2.2.2.2.2.2.1 i hi).1 (hX.2.2.2.2.2.2.2.2.2.2.2.2.2.2.1 ((x.2.1).toNatClampNeg) hi_28).1 c_31
          refine lv_aload_n hx hb dX_lowest_34 rfl (lv_at hl 0 rfl) ?_
          refine ka_get (ci := 3) (C := RX) (T := TX) (N := 10) hx hb hts inX hown hK hP (q := 18) hX.1 rfl 5 (by decide) (hts _ tw_104) (fun _ h9 => h9) rfl dX_lowest_35 ?_
          refine lv_iload_n hx hb dX_lowest_38 rfl (lv_at hl 2 rfl) ?_
          refine ka_lald hx hb hK hP 1 (q := 20) hX.2.2.1 rfl (by first | assumption | exact vp_in_nI (by omega) (by omega)) dX_lowest_39 ?_
          refine lv_lneg hx hb dX_lowest_40 ?_
          refine lv_goto (tgt := 45) hx hb dX_lowest_41 (by decide) ?_
          exact W.lret (v := -((x.2.2.2.2.1 0) (p).toNatClampNeg)) hx hb hr (fun t ht hW => ⟨_, rfl, by rw [f_X_lowest, if_neg c_1, if_pos c_12, if_pos hA_28, if_pos c_31], ht⟩) (fun q h => by cases h) dX_lowest_45
      · rw [if_neg hA_28]
        refine lv_acmp_ne (rx := some (d (32 + 3 * i))) (ry := none) (tgt := 44) hx hb dX_lowest_31 (by decide) (fun _ => ?_) (fun c => by cases c)
        refine lv_lconst (v := 0) hx hb dX_lowest_44 (by decide) ?_
        exact W.lret (v := 0) hx hb hr (fun t ht hW => ⟨_, rfl, by rw [f_X_lowest, if_neg c_1, if_pos c_12, if_neg hA_28], ht⟩) (fun q h => by cases h) dX_lowest_45
    · refine lv_aload_n hx hb dX_lowest_15 rfl (lv_at hl 1 rfl) ?_
      refine ka_get (ci := 0) (C := RA) (T := TA) (N := 4) hx hb hts inA hown hK hP (q := (32 + 3 * i)) (hX.2.2.2.2.2.2.2.2.2.2.2.2.2.2.1 i hi).1 rfl 2 (by decide) (hts _ tw_148) (fun _ h9 => h9) rfl dX_lowest_16 ?_
      refine lv_iload_n hx hb dX_lowest_19 rfl (lv_at hl 2 rfl) ?_
      refine ka_lald hx hb hK hP 1 (q := (34 + 3 * i)) (hX.2.2.2.2.2.2.2.2.2.2.2.2.2.2.1 i hi).2.2 rfl (by unfold xPl; rw [if_neg c_12]; exact hpP) dX_lowest_20 ?_
      exact W.lret (v := (xP x i) (p).toNatClampNeg) hx hb hr (fun t ht hW => ⟨_, rfl, by rw [f_X_lowest, if_neg c_1, if_neg c_12], ht⟩) (fun q h => by cases h) dX_lowest_21
  · refine lv_ldc2 (v := -9223372036854775808) hx hb hown (hts _ tw_232) dX_lowest_4 ?_
    exact W.lret (v := -9223372036854775808) hx hb hr (fun t ht hW => ⟨_, rfl, by rw [f_X_lowest, if_pos c_1], ht⟩) (fun q h => by cases h) dX_lowest_7

theorem dX_creditWith_0 : decode prog_1_method_34_code 0 = .ok (.aload_n 0, 1) := by decide +kernel
theorem dX_creditWith_1 : decode prog_1_method_34_code 1 = .ok (.getfield 28, 3) := by decide +kernel
theorem dX_creditWith_4 : decode prog_1_method_34_code 4 = .ok (.iload_n 2, 1) := by decide +kernel
theorem dX_creditWith_5 : decode prog_1_method_34_code 5 = .ok (.laload, 1) := by decide +kernel
theorem dX_creditWith_6 : decode prog_1_method_34_code 6 = .ok (.aload_n 1, 1) := by decide +kernel
theorem dX_creditWith_7 : decode prog_1_method_34_code 7 = .ok (.getfield 103, 3) := by decide +kernel
theorem dX_creditWith_10 : decode prog_1_method_34_code 10 = .ok (.iload_n 2, 1) := by decide +kernel
theorem dX_creditWith_11 : decode prog_1_method_34_code 11 = .ok (.laload, 1) := by decide +kernel
theorem dX_creditWith_12 : decode prog_1_method_34_code 12 = .ok (.aload_n 1, 1) := by decide +kernel
theorem dX_creditWith_13 : decode prog_1_method_34_code 13 = .ok (.getfield 196, 3) := by decide +kernel
theorem dX_creditWith_16 : decode prog_1_method_34_code 16 = .ok (.invokestatic 199, 3) := by decide +kernel
theorem dX_creditWith_19 : decode prog_1_method_34_code 19 = .ok (.lsub, 1) := by decide +kernel
theorem dX_creditWith_20 : decode prog_1_method_34_code 20 = .ok (.lstore 7, 2) := by decide +kernel
theorem dX_creditWith_22 : decode prog_1_method_34_code 22 = .ok (.lload 7, 2) := by decide +kernel
theorem dX_creditWith_24 : decode prog_1_method_34_code 24 = .ok (.lload_n 3, 1) := by decide +kernel
theorem dX_creditWith_25 : decode prog_1_method_34_code 25 = .ok (.lload 5, 2) := by decide +kernel
theorem dX_creditWith_27 : decode prog_1_method_34_code 27 = .ok (.invokestatic 199, 3) := by decide +kernel
theorem dX_creditWith_30 : decode prog_1_method_34_code 30 = .ok (.ladd, 1) := by decide +kernel
theorem dX_creditWith_31 : decode prog_1_method_34_code 31 = .ok (.ldc2_w 203, 3) := by decide +kernel
theorem dX_creditWith_34 : decode prog_1_method_34_code 34 = .ok (.invokestatic 205, 3) := by decide +kernel
theorem dX_creditWith_37 : decode prog_1_method_34_code 37 = .ok (.lreturn, 1) := by decide +kernel
def f_X_creditWith (x : XS) (i : Nat) (p : Int32) (pledged : Int64) (rate : Int64) : Int64 := if 4000000000000000001 < ((((x.2.2.2.2.1 0) (p).toNatClampNeg) - (f_X_worth ((xP x i) (p).toNatClampNeg) (xR x i))) + (f_X_worth pledged rate)) then 4000000000000000001 else (((x.2.2.2.2.1 0) (p).toNatClampNeg) - (f_X_worth ((xP x i) (p).toNatClampNeg) (xR x i))) + (f_X_worth pledged rate)
set_option maxHeartbeats 4000000 in
set_option maxRecDepth 100000 in
theorem c_X_creditWith (l : Launch) (D : va_G) (cI cL cQ : ClassId) (d : Nat → Nat) (κ : Nat → Option va_E) (x : XS) (hX : IsX cI cL cQ d κ x) (hB : XB x) (sz : Nat) (i : Nat) (hi : i < x.1 2) (p : Int32) (pledged : Int64) (rate : Int64) (hpP : vp_in p (x.1 0)) (hsec : ¬ xS x i = 0) : Met l yX_creditWith wX_creditWith { frames := 2, cells := 0, slots := 0, locals := 52 } (va_Pc [.ref (d 18), .ref (d (32 + 3 * i)), .int (p), .long (pledged), .long (rate)] (kC D vCl (kT cI cL cQ) d κ sz)) (vp_Sl (fun r => r = f_X_creditWith x i p pledged rate)) 0 0 (fun _ => False) := by
  refine kMet (by decide) (Nat.le_of_ble_eq_true rfl) ?_
  intro p0 e0 s0 m0 below0 meth0 c0 hx hb hr hml hown hlocks hin hts hsz hP hK ls hl
  have hl : lv_has ls 9 [(0, .ref (d 18)), (1, .ref (d (32 + 3 * i))), (2, .int (p)), (3, .long (pledged)), (5, .long (rate))] := hl
  have hB9 := hB
  obtain ⟨hb0, hb1, hb2, hb3, hb4, hb5, hb6, hb7, hb8⟩ := hB9
  refine lv_aload_n hx hb dX_creditWith_0 rfl (lv_at hl 0 rfl) ?_
  refine ka_get (ci := 3) (C := RX) (T := TX) (N := 10) hx hb hts inX hown hK hP (q := 18) hX.1 rfl 5 (by decide) (hts _ tw_104) (fun _ h9 => h9) rfl dX_creditWith_1 ?_
  refine lv_iload_n hx hb dX_creditWith_4 rfl (lv_at hl 2 rfl) ?_
  refine ka_lald hx hb hK hP 1 (q := 20) hX.2.2.1 rfl (by first | assumption | exact vp_in_nI (by omega) (by omega)) dX_creditWith_5 ?_
  refine lv_aload_n hx hb dX_creditWith_6 rfl (lv_at hl 1 rfl) ?_
  refine ka_get (ci := 0) (C := RA) (T := TA) (N := 4) hx hb hts inA hown hK hP (q := (32 + 3 * i)) (hX.2.2.2.2.2.2.2.2.2.2.2.2.2.2.1 i hi).1 rfl 2 (by decide) (hts _ tw_148) (fun _ h9 => h9) rfl dX_creditWith_7 ?_
  refine lv_iload_n hx hb dX_creditWith_10 rfl (lv_at hl 2 rfl) ?_
  refine ka_lald hx hb hK hP 1 (q := (34 + 3 * i)) (hX.2.2.2.2.2.2.2.2.2.2.2.2.2.2.1 i hi).2.2 rfl (by unfold xPl; rw [if_neg hsec]; exact hpP) dX_creditWith_11 ?_
  refine lv_aload_n hx hb dX_creditWith_12 rfl (lv_at hl 1 rfl) ?_
  refine ka_get (ci := 0) (C := RA) (T := TA) (N := 4) hx hb hts inA hown hK hP (q := (32 + 3 * i)) (hX.2.2.2.2.2.2.2.2.2.2.2.2.2.2.1 i hi).1 rfl 3 (by decide) (hts _ tw_150) (fun _ h9 => h9) rfl dX_creditWith_13 ?_
  refine vp_callSl (W.runS (As := [.long ((xP x i) (p).toNatClampNeg), .long (xR x i)]) (rest := [.long ((x.2.2.2.2.1 0) (p).toNatClampNeg)]) ⟨hx, hb, hml, hown, hts⟩ (c_X_worth l D cI cL cQ d κ _ ((xP x i) (p).toNatClampNeg) (xR x i)) (cwS 2 hts (k_gS tw_191 tw_192 tw_38 tw_193) rfl rfl rfl (by decide +kernel) ⟨Nat.le_of_ble_eq_true rfl, Nat.le_of_ble_eq_true rfl⟩) (kPreS hP hK) rfl rfl hl.1 rfl (lv_room (Nat.le_of_ble_eq_true rfl)) dX_creditWith_16 ⟨Nat.le_of_ble_eq_true rfl, Nat.le_of_ble_eq_true rfl⟩) (fun r_16 e_16 => ?_)
  subst e_16
  refine lv_lsub hx hb dX_creditWith_19 ?_
  refine lv_lstore (lv' := [(7, .long (((x.2.2.2.2.1 0) (p).toNatClampNeg) - (f_X_worth ((xP x i) (p).toNatClampNeg) (xR x i)))), (0, .ref (d 18)), (1, .ref (d (32 + 3 * i))), (2, .int (p)), (3, .long (pledged)), (5, .long (rate))]) hx hb dX_creditWith_20 hl (by decide) rfl (fun ls hl => ?_)
  refine lv_lload hx hb dX_creditWith_22 (lv_at hl 0 rfl) ?_
  refine lv_lload_n hx hb dX_creditWith_24 rfl (lv_at hl 4 rfl) ?_
  refine lv_lload hx hb dX_creditWith_25 (lv_at hl 5 rfl) ?_
  refine vp_callSl (W.runS (As := [.long (pledged), .long (rate)]) (rest := [.long (((x.2.2.2.2.1 0) (p).toNatClampNeg) - (f_X_worth ((xP x i) (p).toNatClampNeg) (xR x i)))]) ⟨hx, hb, hml, hown, hts⟩ (c_X_worth l D cI cL cQ d κ _ pledged rate) (cwS 2 hts (k_gS tw_191 tw_192 tw_38 tw_193) rfl rfl rfl (by decide +kernel) ⟨Nat.le_of_ble_eq_true rfl, Nat.le_of_ble_eq_true rfl⟩) (kPreS hP hK) rfl rfl hl.1 rfl (lv_room (Nat.le_of_ble_eq_true rfl)) dX_creditWith_27 ⟨Nat.le_of_ble_eq_true rfl, Nat.le_of_ble_eq_true rfl⟩) (fun r_27 e_27 => ?_)
  subst e_27
  refine lv_ladd hx hb dX_creditWith_30 ?_
  refine lv_ldc2 (v := 4000000000000000001) hx hb hown (hts _ tw_196) dX_creditWith_31 ?_
  refine va_mmin_long hx hb (hml.trans hl.1.symm) hown (hts _ tw_197) (hts _ tw_198) (hts _ tw_43) (hts _ tw_199) (by decide) (by decide) (Nat.zero_le _) (Nat.zero_le _) dX_creditWith_34 ?_
  exact W.lret (v := if 4000000000000000001 < ((((x.2.2.2.2.1 0) (p).toNatClampNeg) - (f_X_worth ((xP x i) (p).toNatClampNeg) (xR x i))) + (f_X_worth pledged rate)) then 4000000000000000001 else (((x.2.2.2.2.1 0) (p).toNatClampNeg) - (f_X_worth ((xP x i) (p).toNatClampNeg) (xR x i))) + (f_X_worth pledged rate)) hx hb hr (fun t ht hW => ⟨_, rfl, by rw [f_X_creditWith], ht⟩) (fun q h => by cases h) dX_creditWith_37

theorem dX_isOverdrawn_0 : decode prog_1_method_36_code 0 = .ok (.aload_n 0, 1) := by decide +kernel
theorem dX_isOverdrawn_1 : decode prog_1_method_36_code 1 = .ok (.aload_n 0, 1) := by decide +kernel
theorem dX_isOverdrawn_2 : decode prog_1_method_36_code 2 = .ok (.getfield 25, 3) := by decide +kernel
theorem dX_isOverdrawn_5 : decode prog_1_method_36_code 5 = .ok (.invokevirtual 79, 3) := by decide +kernel
theorem dX_isOverdrawn_8 : decode prog_1_method_36_code 8 = .ok (.astore 4, 2) := by decide +kernel
theorem dX_isOverdrawn_10 : decode prog_1_method_36_code 10 = .ok (.aload 4, 2) := by decide +kernel
theorem dX_isOverdrawn_12 : decode prog_1_method_36_code 12 = .ok (.ifnull 20, 3) := by decide +kernel
theorem dX_isOverdrawn_15 : decode prog_1_method_36_code 15 = .ok (.aload 4, 2) := by decide +kernel
theorem dX_isOverdrawn_17 : decode prog_1_method_36_code 17 = .ok (.getfield 90, 3) := by decide +kernel
theorem dX_isOverdrawn_20 : decode prog_1_method_36_code 20 = .ok (.iload_n 1, 1) := by decide +kernel
theorem dX_isOverdrawn_21 : decode prog_1_method_36_code 21 = .ok (.laload, 1) := by decide +kernel
theorem dX_isOverdrawn_22 : decode prog_1_method_36_code 22 = .ok (.lload_n 2, 1) := by decide +kernel
theorem dX_isOverdrawn_23 : decode prog_1_method_36_code 23 = .ok (.lneg, 1) := by decide +kernel
theorem dX_isOverdrawn_24 : decode prog_1_method_36_code 24 = .ok (.lcmp, 1) := by decide +kernel
theorem dX_isOverdrawn_25 : decode prog_1_method_36_code 25 = .ok (.ifCond .ge 7, 3) := by decide +kernel
theorem dX_isOverdrawn_28 : decode prog_1_method_36_code 28 = .ok (.iconst 1, 1) := by decide +kernel
theorem dX_isOverdrawn_29 : decode prog_1_method_36_code 29 = .ok (.goto 4, 3) := by decide +kernel
theorem dX_isOverdrawn_32 : decode prog_1_method_36_code 32 = .ok (.iconst 0, 1) := by decide +kernel
theorem dX_isOverdrawn_33 : decode prog_1_method_36_code 33 = .ok (.ireturn, 1) := by decide +kernel
def f_X_isOverdrawn (x : XS) (p : Int32) (credit : Int64) : Int32 := if xIs x x.2.1 then (if ((xH x ((x.2.1).toNatClampNeg)) (p).toNatClampNeg) < (-credit) then 1 else 0) else 0
theorem b_X_isOverdrawn (x : XS) (p : Int32) (credit : Int64) : f_X_isOverdrawn x p credit = 0 ∨ f_X_isOverdrawn x p credit = 1 := by
  unfold f_X_isOverdrawn
  repeat' (first | split | exact Or.inl rfl | exact Or.inr rfl)
set_option maxHeartbeats 4000000 in
set_option maxRecDepth 100000 in
theorem c_X_isOverdrawn (l : Launch) (D : va_G) (cI cL cQ : ClassId) (d : Nat → Nat) (κ : Nat → Option va_E) (x : XS) (hX : IsX cI cL cQ d κ x) (hB : XB x) (sz : Nat) (p : Int32) (credit : Int64) (hpP : vp_in p (x.1 0)) : Met l yX_isOverdrawn wX_isOverdrawn { frames := 1, cells := 0, slots := 0, locals := 21 } (va_Pc [.ref (d 18), .int (p), .long (credit)] (kC D vCl (kT cI cL cQ) d κ sz)) (vp_Si (fun r => r = f_X_isOverdrawn x p credit)) 0 0 (fun _ => False) := by
  refine kMet (by decide) (Nat.le_of_ble_eq_true rfl) ?_
  intro p0 e0 s0 m0 below0 meth0 c0 hx hb hr hml hown hlocks hin hts hsz hP hK ls hl
  have hl : lv_has ls 5 [(0, .ref (d 18)), (1, .int (p)), (2, .long (credit))] := hl
  have hB9 := hB
  obtain ⟨hb0, hb1, hb2, hb3, hb4, hb5, hb6, hb7, hb8⟩ := hB9
  refine lv_aload_n hx hb dX_isOverdrawn_0 rfl (lv_at hl 0 rfl) ?_
  refine lv_aload_n hx hb dX_isOverdrawn_1 rfl (lv_at hl 0 rfl) ?_
  refine ka_get (ci := 3) (C := RX) (T := TX) (N := 10) hx hb hts inX hown hK hP (q := 18) hX.1 rfl 4 (by decide) (hts _ tw_103) (fun _ h9 => h9) rfl dX_isOverdrawn_2 ?_
  refine va_csq (W.runV (C := RX) (As := [.int (x.2.1)]) (rest := []) ⟨hx, hb, hml, hown, hts⟩ (c_X_assetAt l D cI cL cQ d κ x hX hB _ x.2.1) (cwV 1 hts (k_gV tw_179 tw_181 tw_2 tw_38 tw_182) rfl rfl rfl (by decide +kernel) ⟨Nat.le_of_ble_eq_true rfl, Nat.le_of_ble_eq_true rfl⟩) (kPreV hP hK (q := 18) hX.1 rfl) rfl rfl hl.1 rfl (lv_room (Nat.le_of_ble_eq_true rfl)) dX_isOverdrawn_5 ⟨Nat.le_of_ble_eq_true rfl, Nat.le_of_ble_eq_true rfl⟩) (fun r_5 e_5 => ?_)
  subst e_5
  by_cases hA_5 : xIs x x.2.1
  · rw [if_pos hA_5]
    have hi_5 : (x.2.1).toNatClampNeg < x.1 2 := (xIs_in hB hA_5).2
    refine lv_astore (lv' := [(4, .ref (d (32 + 3 * (x.2.1).toNatClampNeg))), (0, .ref (d 18)), (1, .int (p)), (2, .long (credit))]) hx hb dX_isOverdrawn_8 hl (by decide) rfl (fun ls hl => ?_)
    refine lv_aload hx hb dX_isOverdrawn_10 (lv_at hl 0 rfl) ?_
    refine lv_ifnull hx hb dX_isOverdrawn_12 ?_
    refine lv_aload hx hb dX_isOverdrawn_15 (lv_at hl 0 rfl) ?_
    refine ka_get (ci := 0) (C := RA) (T := TA) (N := 4) hx hb hts inA hown hK hP (q := (32 + 3 * (x.2.1).toNatClampNeg)) (hX.2.2.2.2.2.2.2.2.2.2.2.2.2.2.1 ((x.2.1).toNatClampNeg) hi_5).1 rfl 1 (by decide) (hts _ tw_146) (fun _ h9 => h9) rfl dX_isOverdrawn_17 ?_
    refine lv_iload_n hx hb dX_isOverdrawn_20 rfl (lv_at hl 2 rfl) ?_
    refine ka_lald hx hb hK hP 1 (q := (33 + 3 * (x.2.1).toNatClampNeg)) (hX.2.2.2.2.2.2.2.2.2.2.2.2.2.2.1 ((x.2.1).toNatClampNeg) hi_5).2.1 rfl (by first | assumption | exact vp_in_nI (by omega) (by omega)) dX_isOverdrawn_21 ?_
    refine lv_lload_n hx hb dX_isOverdrawn_22 rfl (lv_at hl 3 rfl) ?_
    refine lv_lneg hx hb dX_isOverdrawn_23 ?_
    refine kl_ge (tgt := 32) hx hb dX_isOverdrawn_24 dX_isOverdrawn_25 (by decide) (fun c_24 => ?_) (fun c_24 => ?_)
    · refine lv_iconst (v := 0) hx hb dX_isOverdrawn_32 (by decide) ?_
      exact W.zret (v := 0) hx hb hr k_nar0 (fun t ht hW => ⟨_, rfl, by rw [f_X_isOverdrawn, if_pos hA_5, if_neg c_24], ht⟩) (fun q h => by cases h) dX_isOverdrawn_33
    · refine lv_iconst (v := 1) hx hb dX_isOverdrawn_28 (by decide) ?_
      refine lv_goto (tgt := 33) hx hb dX_isOverdrawn_29 (by decide) ?_
      exact W.zret (v := 1) hx hb hr k_nar1 (fun t ht hW => ⟨_, rfl, by rw [f_X_isOverdrawn, if_pos hA_5, if_pos c_24], ht⟩) (fun q h => by cases h) dX_isOverdrawn_33
  · rw [if_neg hA_5]
    refine lv_astoreN (lv' := [(4, .null), (0, .ref (d 18)), (1, .int (p)), (2, .long (credit))]) hx hb dX_isOverdrawn_8 hl (by decide) rfl (fun ls hl => ?_)
    refine lv_aloadN hx hb dX_isOverdrawn_10 (lv_at hl 0 rfl) ?_
    refine lv_ifnullN (tgt := 32) hx hb dX_isOverdrawn_12 (by decide) ?_
    refine lv_iconst (v := 0) hx hb dX_isOverdrawn_32 (by decide) ?_
    exact W.zret (v := 0) hx hb hr k_nar0 (fun t ht hW => ⟨_, rfl, by rw [f_X_isOverdrawn, if_neg hA_5], ht⟩) (fun q h => by cases h) dX_isOverdrawn_33

theorem dX_faultOfRate_0 : decode prog_1_method_38_code 0 = .ok (.lconst 0, 1) := by decide +kernel
theorem dX_faultOfRate_1 : decode prog_1_method_38_code 1 = .ok (.lstore 4, 2) := by decide +kernel
theorem dX_faultOfRate_3 : decode prog_1_method_38_code 3 = .ok (.iconst 1, 1) := by decide +kernel
theorem dX_faultOfRate_4 : decode prog_1_method_38_code 4 = .ok (.istore 6, 2) := by decide +kernel
theorem dX_faultOfRate_6 : decode prog_1_method_38_code 6 = .ok (.iload 6, 2) := by decide +kernel
theorem dX_faultOfRate_8 : decode prog_1_method_38_code 8 = .ok (.aload_n 0, 1) := by decide +kernel
theorem dX_faultOfRate_9 : decode prog_1_method_38_code 9 = .ok (.getfield 9, 3) := by decide +kernel
theorem dX_faultOfRate_12 : decode prog_1_method_38_code 12 = .ok (.if_icmp .ge 53, 3) := by decide +kernel
theorem dX_faultOfRate_15 : decode prog_1_method_38_code 15 = .ok (.aload_n 0, 1) := by decide +kernel
theorem dX_faultOfRate_16 : decode prog_1_method_38_code 16 = .ok (.aload_n 1, 1) := by decide +kernel
theorem dX_faultOfRate_17 : decode prog_1_method_38_code 17 = .ok (.iload 6, 2) := by decide +kernel
theorem dX_faultOfRate_19 : decode prog_1_method_38_code 19 = .ok (.aload_n 1, 1) := by decide +kernel
theorem dX_faultOfRate_20 : decode prog_1_method_38_code 20 = .ok (.getfield 103, 3) := by decide +kernel
theorem dX_faultOfRate_23 : decode prog_1_method_38_code 23 = .ok (.iload 6, 2) := by decide +kernel
theorem dX_faultOfRate_25 : decode prog_1_method_38_code 25 = .ok (.laload, 1) := by decide +kernel
theorem dX_faultOfRate_26 : decode prog_1_method_38_code 26 = .ok (.lload_n 2, 1) := by decide +kernel
theorem dX_faultOfRate_27 : decode prog_1_method_38_code 27 = .ok (.invokevirtual 214, 3) := by decide +kernel
theorem dX_faultOfRate_30 : decode prog_1_method_38_code 30 = .ok (.lstore 7, 2) := by decide +kernel
theorem dX_faultOfRate_32 : decode prog_1_method_38_code 32 = .ok (.aload_n 0, 1) := by decide +kernel
theorem dX_faultOfRate_33 : decode prog_1_method_38_code 33 = .ok (.iload 6, 2) := by decide +kernel
theorem dX_faultOfRate_35 : decode prog_1_method_38_code 35 = .ok (.lload 7, 2) := by decide +kernel
theorem dX_faultOfRate_37 : decode prog_1_method_38_code 37 = .ok (.invokevirtual 218, 3) := by decide +kernel
theorem dX_faultOfRate_40 : decode prog_1_method_38_code 40 = .ok (.ifCond .eq 6, 3) := by decide +kernel
theorem dX_faultOfRate_43 : decode prog_1_method_38_code 43 = .ok (.bipush 9, 2) := by decide +kernel
theorem dX_faultOfRate_45 : decode prog_1_method_38_code 45 = .ok (.ireturn, 1) := by decide +kernel
theorem dX_faultOfRate_46 : decode prog_1_method_38_code 46 = .ok (.lload 4, 2) := by decide +kernel
theorem dX_faultOfRate_48 : decode prog_1_method_38_code 48 = .ok (.lload 7, 2) := by decide +kernel
theorem dX_faultOfRate_50 : decode prog_1_method_38_code 50 = .ok (.ladd, 1) := by decide +kernel
theorem dX_faultOfRate_51 : decode prog_1_method_38_code 51 = .ok (.ldc2_w 203, 3) := by decide +kernel
theorem dX_faultOfRate_54 : decode prog_1_method_38_code 54 = .ok (.invokestatic 205, 3) := by decide +kernel
theorem dX_faultOfRate_57 : decode prog_1_method_38_code 57 = .ok (.lstore 4, 2) := by decide +kernel
theorem dX_faultOfRate_59 : decode prog_1_method_38_code 59 = .ok (.iinc 6 1, 3) := by decide +kernel
theorem dX_faultOfRate_62 : decode prog_1_method_38_code 62 = .ok (.goto (-56), 3) := by decide +kernel
theorem dX_faultOfRate_65 : decode prog_1_method_38_code 65 = .ok (.lload 4, 2) := by decide +kernel
theorem dX_faultOfRate_67 : decode prog_1_method_38_code 67 = .ok (.ldc2_w 212, 3) := by decide +kernel
theorem dX_faultOfRate_70 : decode prog_1_method_38_code 70 = .ok (.lcmp, 1) := by decide +kernel
theorem dX_faultOfRate_71 : decode prog_1_method_38_code 71 = .ok (.ifCond .le 8, 3) := by decide +kernel
theorem dX_faultOfRate_74 : decode prog_1_method_38_code 74 = .ok (.bipush 10, 2) := by decide +kernel
theorem dX_faultOfRate_76 : decode prog_1_method_38_code 76 = .ok (.goto 4, 3) := by decide +kernel
theorem dX_faultOfRate_79 : decode prog_1_method_38_code 79 = .ok (.iconst 0, 1) := by decide +kernel
theorem dX_faultOfRate_80 : decode prog_1_method_38_code 80 = .ok (.ireturn, 1) := by decide +kernel
def f_X_faultOfRate_l (x : XS) (i : Nat) (rate : Int64) : Nat → Nat → Int64 → Int32
  | 0, _, _ => 0
  | n + 1, p, all => if (nI (x.1 0)) ≤ (nI p) then (if 4000000000000000000 < all then 10 else 0) else (if (f_X_isOverdrawn x (nI p) (f_X_creditWith x i (nI p) ((xP x i) (nI p).toNatClampNeg) rate)) = 0 then (f_X_faultOfRate_l x i rate n (p + 1) (if 4000000000000000001 < (all + (f_X_creditWith x i (nI p) ((xP x i) (nI p).toNatClampNeg) rate)) then 4000000000000000001 else all + (f_X_creditWith x i (nI p) ((xP x i) (nI p).toNatClampNeg) rate))) else 9)
theorem f_X_faultOfRate_l_s (x : XS) (i : Nat) (rate : Int64) (n : Nat) (p : Nat) (all : Int64) : f_X_faultOfRate_l x i rate (n + 1) p all = (if (nI (x.1 0)) ≤ (nI p) then (if 4000000000000000000 < all then 10 else 0) else (if (f_X_isOverdrawn x (nI p) (f_X_creditWith x i (nI p) ((xP x i) (nI p).toNatClampNeg) rate)) = 0 then (f_X_faultOfRate_l x i rate n (p + 1) (if 4000000000000000001 < (all + (f_X_creditWith x i (nI p) ((xP x i) (nI p).toNatClampNeg) rate)) then 4000000000000000001 else all + (f_X_creditWith x i (nI p) ((xP x i) (nI p).toNatClampNeg) rate))) else 9)) := rfl
def f_X_faultOfRate (x : XS) (i : Nat) (rate : Int64) : Int32 := f_X_faultOfRate_l x i rate (x.1 0 + 1) 1 0
set_option maxHeartbeats 4000000 in
set_option maxRecDepth 100000 in
theorem c_X_faultOfRate (l : Launch) (D : va_G) (cI cL cQ : ClassId) (d : Nat → Nat) (κ : Nat → Option va_E) (x : XS) (hX : IsX cI cL cQ d κ x) (hB : XB x) (sz : Nat) (i : Nat) (hi : i < x.1 2) (rate : Int64) (hsec : ¬ xS x i = 0) : Met l yX_faultOfRate wX_faultOfRate { frames := 3, cells := 0, slots := 0, locals := 80 } (va_Pc [.ref (d 18), .ref (d (32 + 3 * i)), .long (rate)] (kC D vCl (kT cI cL cQ) d κ sz)) (vp_Si (fun r => r = f_X_faultOfRate x i rate)) 0 0 (fun _ => False) := by
  refine kMet (by decide) (Nat.le_of_ble_eq_true rfl) ?_
  intro p0 e0 s0 m0 below0 meth0 c0 hx hb hr hml hown hlocks hin hts hsz hP hK ls hl
  have hl : lv_has ls 9 [(0, .ref (d 18)), (1, .ref (d (32 + 3 * i))), (2, .long (rate))] := hl
  have hB9 := hB
  obtain ⟨hb0, hb1, hb2, hb3, hb4, hb5, hb6, hb7, hb8⟩ := hB9
  refine lv_lconst (v := 0) hx hb dX_faultOfRate_0 (by decide) ?_
  refine lv_lstore (lv' := [(4, .long (0)), (0, .ref (d 18)), (1, .ref (d (32 + 3 * i))), (2, .long (rate))]) hx hb dX_faultOfRate_1 hl (by decide) rfl (fun ls hl => ?_)
  refine lv_iconst (v := 1) hx hb dX_faultOfRate_3 (by decide) ?_
  refine lv_istore (lv' := [(6, .int (1)), (4, .long (0)), (0, .ref (d 18)), (1, .ref (d (32 + 3 * i))), (2, .long (rate))]) hx hb dX_faultOfRate_4 hl (by decide) rfl (fun ls hl => ?_)
  refine k_rec (σ := Nat × Int64) (fun n z9 ls => z9.1 ≤ x.1 0 ∧ x.1 0 < z9.1 + n ∧ f_X_faultOfRate_l x i rate n z9.1 z9.2 = f_X_faultOfRate x i rate ∧ lv_has ls 9 [(6, .int (nI z9.1)), (4, .long z9.2), (0, .ref (d 18)), (1, .ref (d (32 + 3 * i))), (2, .long (rate))]) (x.1 0 + 1) (1, 0) ⟨by omega, by omega, by rw [f_X_faultOfRate], lv_sub hl [0, 1, 2, 3, 4] rfl⟩ ?_
  intro n z9 ls hI ih
  obtain ⟨p, all⟩ := z9
  obtain ⟨hk, hn, hE, hl⟩ := hI
  dsimp only at hk hn hE hl
  obtain ⟨n, rfl⟩ : ∃ q, n = q + 1 := ⟨n - 1, by omega⟩
  refine lv_iload hx hb dX_faultOfRate_6 (lv_at hl 0 rfl) ?_
  refine lv_aload_n hx hb dX_faultOfRate_8 rfl (lv_at hl 2 rfl) ?_
  refine ka_get (ci := 3) (C := RX) (T := TX) (N := 10) hx hb hts inX hown hK hP (q := 18) hX.1 rfl 0 (by decide) (hts _ tw_99) (fun _ h9 => h9) rfl dX_faultOfRate_9 ?_
  refine lv_icmp_ge (tgt := 65) hx hb dX_faultOfRate_12 (by decide) (fun c_12 => ?_) (fun c_12 => ?_)
  · refine lv_lload hx hb dX_faultOfRate_65 (lv_at hl 1 rfl) ?_
    refine lv_ldc2 (v := 4000000000000000000) hx hb hown (hts _ tw_195) dX_faultOfRate_67 ?_
    refine kl_le (tgt := 79) hx hb dX_faultOfRate_70 dX_faultOfRate_71 (by decide) (fun c_70 => ?_) (fun c_70 => ?_)
    · refine lv_iconst (v := 0) hx hb dX_faultOfRate_79 (by decide) ?_
      exact W.iret (v := 0) hx hb hr (fun t ht hW => ⟨_, rfl, by rw [← hE, f_X_faultOfRate_l_s, if_pos c_12, if_neg c_70], ht⟩) (fun q h => by cases h) dX_faultOfRate_80
    · refine lv_bipush (v := 10) hx hb dX_faultOfRate_74 (by decide) ?_
      refine lv_goto (tgt := 80) hx hb dX_faultOfRate_76 (by decide) ?_
      exact W.iret (v := 10) hx hb hr (fun t ht hW => ⟨_, rfl, by rw [← hE, f_X_faultOfRate_l_s, if_pos c_12, if_pos c_70], ht⟩) (fun q h => by cases h) dX_faultOfRate_80
  · have hlt : p < x.1 0 := Nat.lt_of_not_le (fun q => c_12 (nI_le q (by omega)))
    refine lv_aload_n hx hb dX_faultOfRate_15 rfl (lv_at hl 2 rfl) ?_
    refine lv_aload_n hx hb dX_faultOfRate_16 rfl (lv_at hl 3 rfl) ?_
    refine lv_iload hx hb dX_faultOfRate_17 (lv_at hl 0 rfl) ?_
    refine lv_aload_n hx hb dX_faultOfRate_19 rfl (lv_at hl 3 rfl) ?_
    refine ka_get (ci := 0) (C := RA) (T := TA) (N := 4) hx hb hts inA hown hK hP (q := (32 + 3 * i)) (hX.2.2.2.2.2.2.2.2.2.2.2.2.2.2.1 i hi).1 rfl 2 (by decide) (hts _ tw_148) (fun _ h9 => h9) rfl dX_faultOfRate_20 ?_
    refine lv_iload hx hb dX_faultOfRate_23 (lv_at hl 0 rfl) ?_
    refine ka_lald hx hb hK hP 1 (q := (34 + 3 * i)) (hX.2.2.2.2.2.2.2.2.2.2.2.2.2.2.1 i hi).2.2 rfl (by unfold xPl; rw [if_neg hsec]; exact (vp_in_nI (by omega) (by omega))) dX_faultOfRate_25 ?_
    refine lv_lload_n hx hb dX_faultOfRate_26 rfl (lv_at hl 4 rfl) ?_
    refine vp_callSl (W.runV (C := RX) (As := [.ref (d (32 + 3 * i)), .int (nI p), .long ((xP x i) (nI p).toNatClampNeg), .long (rate)]) (rest := []) ⟨hx, hb, hml, hown, hts⟩ (c_X_creditWith l D cI cL cQ d κ x hX hB _ i hi (nI p) ((xP x i) (nI p).toNatClampNeg) rate (vp_in_nI (by omega) (by omega)) hsec) (cwV 4 hts (k_gV tw_187 tw_189 tw_4 tw_38 tw_190) rfl rfl rfl (by decide +kernel) ⟨Nat.le_of_ble_eq_true rfl, Nat.le_of_ble_eq_true rfl⟩) (kPreV hP hK (q := 18) hX.1 rfl) rfl rfl hl.1 rfl (lv_room (Nat.le_of_ble_eq_true rfl)) dX_faultOfRate_27 ⟨Nat.le_of_ble_eq_true rfl, Nat.le_of_ble_eq_true rfl⟩) (fun r_27 e_27 => ?_)
    subst e_27
    refine lv_lstore (lv' := [(7, .long (f_X_creditWith x i (nI p) ((xP x i) (nI p).toNatClampNeg) rate)), (6, .int (nI p)), (4, .long (all)), (0, .ref (d 18)), (1, .ref (d (32 + 3 * i))), (2, .long (rate))]) hx hb dX_faultOfRate_30 hl (by decide) rfl (fun ls hl => ?_)
    refine lv_aload_n hx hb dX_faultOfRate_32 rfl (lv_at hl 3 rfl) ?_
    refine lv_iload hx hb dX_faultOfRate_33 (lv_at hl 1 rfl) ?_
    refine lv_lload hx hb dX_faultOfRate_35 (lv_at hl 0 rfl) ?_
    refine vp_callSi (W.runV (C := RX) (As := [.int (nI p), .long (f_X_creditWith x i (nI p) ((xP x i) (nI p).toNatClampNeg) rate)]) (rest := []) ⟨hx, hb, hml, hown, hts⟩ (c_X_isOverdrawn l D cI cL cQ d κ x hX hB _ (nI p) (f_X_creditWith x i (nI p) ((xP x i) (nI p).toNatClampNeg) rate) (vp_in_nI (by omega) (by omega))) (cwV 2 hts (k_gV tw_200 tw_202 tw_5 tw_38 tw_203) rfl rfl rfl (by decide +kernel) ⟨Nat.le_of_ble_eq_true rfl, Nat.le_of_ble_eq_true rfl⟩) (kPreV hP hK (q := 18) hX.1 rfl) rfl rfl hl.1 rfl (lv_room (Nat.le_of_ble_eq_true rfl)) dX_faultOfRate_37 ⟨Nat.le_of_ble_eq_true rfl, Nat.le_of_ble_eq_true rfl⟩) (fun r_37 e_37 => ?_)
    subst e_37
    refine lv_if_eq (tgt := 46) hx hb dX_faultOfRate_40 (by decide) (fun c_40 => ?_) (fun c_40 => ?_)
    · refine lv_lload hx hb dX_faultOfRate_46 (lv_at hl 2 rfl) ?_
      refine lv_lload hx hb dX_faultOfRate_48 (lv_at hl 0 rfl) ?_
      refine lv_ladd hx hb dX_faultOfRate_50 ?_
      refine lv_ldc2 (v := 4000000000000000001) hx hb hown (hts _ tw_196) dX_faultOfRate_51 ?_
      refine va_mmin_long hx hb (hml.trans hl.1.symm) hown (hts _ tw_197) (hts _ tw_198) (hts _ tw_43) (hts _ tw_199) (by decide) (by decide) (Nat.zero_le _) (Nat.zero_le _) dX_faultOfRate_54 ?_
      refine lv_lstore (lv' := [(4, .long (if 4000000000000000001 < (all + (f_X_creditWith x i (nI p) ((xP x i) (nI p).toNatClampNeg) rate)) then 4000000000000000001 else all + (f_X_creditWith x i (nI p) ((xP x i) (nI p).toNatClampNeg) rate))), (7, .long (f_X_creditWith x i (nI p) ((xP x i) (nI p).toNatClampNeg) rate)), (6, .int (nI p)), (0, .ref (d 18)), (1, .ref (d (32 + 3 * i))), (2, .long (rate))]) hx hb dX_faultOfRate_57 hl (by decide) rfl (fun ls hl => ?_)
      refine lv_iinc (v := nI (p + 1)) (lv' := [(6, .int (nI (p + 1))), (4, .long (if 4000000000000000001 < (all + (f_X_creditWith x i (nI p) ((xP x i) (nI p).toNatClampNeg) rate)) then 4000000000000000001 else all + (f_X_creditWith x i (nI p) ((xP x i) (nI p).toNatClampNeg) rate))), (7, .long (f_X_creditWith x i (nI p) ((xP x i) (nI p).toNatClampNeg) rate)), (0, .ref (d 18)), (1, .ref (d (32 + 3 * i))), (2, .long (rate))]) hx hb dX_faultOfRate_59 hl (k := 2) rfl (nI_add p 1) (by decide) rfl (fun ls hl => ?_)
      refine lv_goto (tgt := 6) hx hb dX_faultOfRate_62 (by decide) ?_
      exact ih n (p + 1, if 4000000000000000001 < (all + (f_X_creditWith x i (nI p) ((xP x i) (nI p).toNatClampNeg) rate)) then 4000000000000000001 else all + (f_X_creditWith x i (nI p) ((xP x i) (nI p).toNatClampNeg) rate)) ls (by omega) ⟨by omega, by omega, by rw [← hE, f_X_faultOfRate_l_s, if_neg c_12, if_pos c_40], lv_sub hl [0, 1, 3, 4, 5] rfl⟩
    · refine lv_bipush (v := 9) hx hb dX_faultOfRate_43 (by decide) ?_
      exact W.iret (v := 9) hx hb hr (fun t ht hW => ⟨_, rfl, by rw [← hE, f_X_faultOfRate_l_s, if_neg c_12, if_neg c_40], ht⟩) (fun q h => by cases h) dX_faultOfRate_45

theorem dX_paidFrom_0 : decode prog_1_method_40_code 0 = .ok (.iload_n 1, 1) := by decide +kernel
theorem dX_paidFrom_1 : decode prog_1_method_40_code 1 = .ok (.iload_n 2, 1) := by decide +kernel
theorem dX_paidFrom_2 : decode prog_1_method_40_code 2 = .ok (.if_icmp .ge 19, 3) := by decide +kernel
theorem dX_paidFrom_5 : decode prog_1_method_40_code 5 = .ok (.aload_n 0, 1) := by decide +kernel
theorem dX_paidFrom_6 : decode prog_1_method_40_code 6 = .ok (.getfield 45, 3) := by decide +kernel
theorem dX_paidFrom_9 : decode prog_1_method_40_code 9 = .ok (.aload_n 0, 1) := by decide +kernel
theorem dX_paidFrom_10 : decode prog_1_method_40_code 10 = .ok (.iload_n 1, 1) := by decide +kernel
theorem dX_paidFrom_11 : decode prog_1_method_40_code 11 = .ok (.iload_n 2, 1) := by decide +kernel
theorem dX_paidFrom_12 : decode prog_1_method_40_code 12 = .ok (.invokevirtual 120, 3) := by decide +kernel
theorem dX_paidFrom_15 : decode prog_1_method_40_code 15 = .ok (.invokevirtual 221, 3) := by decide +kernel
theorem dX_paidFrom_18 : decode prog_1_method_40_code 18 = .ok (.goto 17, 3) := by decide +kernel
theorem dX_paidFrom_21 : decode prog_1_method_40_code 21 = .ok (.aload_n 0, 1) := by decide +kernel
theorem dX_paidFrom_22 : decode prog_1_method_40_code 22 = .ok (.getfield 45, 3) := by decide +kernel
theorem dX_paidFrom_25 : decode prog_1_method_40_code 25 = .ok (.aload_n 0, 1) := by decide +kernel
theorem dX_paidFrom_26 : decode prog_1_method_40_code 26 = .ok (.iload_n 2, 1) := by decide +kernel
theorem dX_paidFrom_27 : decode prog_1_method_40_code 27 = .ok (.iload_n 1, 1) := by decide +kernel
theorem dX_paidFrom_28 : decode prog_1_method_40_code 28 = .ok (.invokevirtual 120, 3) := by decide +kernel
theorem dX_paidFrom_31 : decode prog_1_method_40_code 31 = .ok (.invokevirtual 221, 3) := by decide +kernel
theorem dX_paidFrom_34 : decode prog_1_method_40_code 34 = .ok (.lneg, 1) := by decide +kernel
theorem dX_paidFrom_35 : decode prog_1_method_40_code 35 = .ok (.lreturn, 1) := by decide +kernel
def f_X_paidFrom (x : XS) (p : Int32) (q : Int32) : Int64 := if q ≤ p then (-(f_P_amountOf (x.1 4) (x.2.2.2.1 1) (x.2.2.2.2.1 2) (f_X_pairOf x q p))) else (f_P_amountOf (x.1 4) (x.2.2.2.1 1) (x.2.2.2.2.1 2) (f_X_pairOf x p q))
set_option maxHeartbeats 4000000 in
set_option maxRecDepth 100000 in
theorem c_X_paidFrom (l : Launch) (D : va_G) (cI cL cQ : ClassId) (d : Nat → Nat) (κ : Nat → Option va_E) (x : XS) (hX : IsX cI cL cQ d κ x) (hB : XB x) (sz : Nat) (p : Int32) (q : Int32)  : Met l yX_paidFrom wX_paidFrom { frames := 2, cells := 0, slots := 0, locals := 44 } (va_Pc [.ref (d 18), .int (p), .int (q)] (kC D vCl (kT cI cL cQ) d κ sz)) (vp_Sl (fun r => r = f_X_paidFrom x p q)) 0 0 (fun _ => False) := by
  refine kMet (by decide) (Nat.le_of_ble_eq_true rfl) ?_
  intro p0 e0 s0 m0 below0 meth0 c0 hx hb hr hml hown hlocks hin hts hsz hP hK ls hl
  have hl : lv_has ls 3 [(0, .ref (d 18)), (1, .int (p)), (2, .int (q))] := hl
  have hB9 := hB
  obtain ⟨hb0, hb1, hb2, hb3, hb4, hb5, hb6, hb7, hb8⟩ := hB9
  refine lv_iload_n hx hb dX_paidFrom_0 rfl (lv_at hl 1 rfl) ?_
  refine lv_iload_n hx hb dX_paidFrom_1 rfl (lv_at hl 2 rfl) ?_
  refine lv_icmp_ge (tgt := 21) hx hb dX_paidFrom_2 (by decide) (fun c_2 => ?_) (fun c_2 => ?_)
  · refine lv_aload_n hx hb dX_paidFrom_21 rfl (lv_at hl 0 rfl) ?_
    refine ka_get (ci := 3) (C := RX) (T := TX) (N := 10) hx hb hts inX hown hK hP (q := 18) hX.1 rfl 8 (by decide) (hts _ tw_107) (fun _ h9 => h9) rfl dX_paidFrom_22 ?_
    refine lv_aload_n hx hb dX_paidFrom_25 rfl (lv_at hl 0 rfl) ?_
    refine lv_iload_n hx hb dX_paidFrom_26 rfl (lv_at hl 2 rfl) ?_
    refine lv_iload_n hx hb dX_paidFrom_27 rfl (lv_at hl 1 rfl) ?_
    refine vp_callSi (W.runV (C := RX) (As := [.int (q), .int (p)]) (rest := [.ref (d 24)]) ⟨hx, hb, hml, hown, hts⟩ (c_X_pairOf l D cI cL cQ d κ x hX hB _ q p) (cwV 2 hts (k_gV tw_257 tw_259 tw_12 tw_38 tw_260) rfl rfl rfl (by decide +kernel) ⟨Nat.le_of_ble_eq_true rfl, Nat.le_of_ble_eq_true rfl⟩) (kPreV hP hK (q := 18) hX.1 rfl) rfl rfl hl.1 rfl (lv_room (Nat.le_of_ble_eq_true rfl)) dX_paidFrom_28 ⟨Nat.le_of_ble_eq_true rfl, Nat.le_of_ble_eq_true rfl⟩) (fun r_28 e_28 => ?_)
    subst e_28
    refine vp_callSl (W.runV (C := RP) (As := [.int (f_X_pairOf x q p)]) (rest := []) ⟨hx, hb, hml, hown, hts⟩ (c_P_amountOf l D cI cL cQ d κ 24 512 (x.1 4) (x.2.2.2.1 1) (x.2.2.2.2.1 2) ⟨hX.2.2.2.2.2.2.1, hX.2.2.2.2.2.2.2.1, hX.2.2.2.2.2.2.2.2.1⟩ (by omega) (by decide) _ (f_X_pairOf x q p)) (cwV 1 hts (k_gV tw_261 tw_262 tw_263 tw_39 tw_264) rfl rfl rfl (by decide +kernel) ⟨Nat.le_of_ble_eq_true rfl, Nat.le_of_ble_eq_true rfl⟩) (kPreV hP hK (q := 24) hX.2.2.2.2.2.2.1 rfl) rfl rfl hl.1 rfl (lv_room (Nat.le_of_ble_eq_true rfl)) dX_paidFrom_31 ⟨Nat.le_of_ble_eq_true rfl, Nat.le_of_ble_eq_true rfl⟩) (fun r_31 e_31 => ?_)
    subst e_31
    refine lv_lneg hx hb dX_paidFrom_34 ?_
    exact W.lret (v := -(f_P_amountOf (x.1 4) (x.2.2.2.1 1) (x.2.2.2.2.1 2) (f_X_pairOf x q p))) hx hb hr (fun t ht hW => ⟨_, rfl, by rw [f_X_paidFrom, if_pos c_2], ht⟩) (fun q h => by cases h) dX_paidFrom_35
  · refine lv_aload_n hx hb dX_paidFrom_5 rfl (lv_at hl 0 rfl) ?_
    refine ka_get (ci := 3) (C := RX) (T := TX) (N := 10) hx hb hts inX hown hK hP (q := 18) hX.1 rfl 8 (by decide) (hts _ tw_107) (fun _ h9 => h9) rfl dX_paidFrom_6 ?_
    refine lv_aload_n hx hb dX_paidFrom_9 rfl (lv_at hl 0 rfl) ?_
    refine lv_iload_n hx hb dX_paidFrom_10 rfl (lv_at hl 1 rfl) ?_
    refine lv_iload_n hx hb dX_paidFrom_11 rfl (lv_at hl 2 rfl) ?_
    refine vp_callSi (W.runV (C := RX) (As := [.int (p), .int (q)]) (rest := [.ref (d 24)]) ⟨hx, hb, hml, hown, hts⟩ (c_X_pairOf l D cI cL cQ d κ x hX hB _ p q) (cwV 2 hts (k_gV tw_257 tw_259 tw_12 tw_38 tw_260) rfl rfl rfl (by decide +kernel) ⟨Nat.le_of_ble_eq_true rfl, Nat.le_of_ble_eq_true rfl⟩) (kPreV hP hK (q := 18) hX.1 rfl) rfl rfl hl.1 rfl (lv_room (Nat.le_of_ble_eq_true rfl)) dX_paidFrom_12 ⟨Nat.le_of_ble_eq_true rfl, Nat.le_of_ble_eq_true rfl⟩) (fun r_12 e_12 => ?_)
    subst e_12
    refine vp_callSl (W.runV (C := RP) (As := [.int (f_X_pairOf x p q)]) (rest := []) ⟨hx, hb, hml, hown, hts⟩ (c_P_amountOf l D cI cL cQ d κ 24 512 (x.1 4) (x.2.2.2.1 1) (x.2.2.2.2.1 2) ⟨hX.2.2.2.2.2.2.1, hX.2.2.2.2.2.2.2.1, hX.2.2.2.2.2.2.2.2.1⟩ (by omega) (by decide) _ (f_X_pairOf x p q)) (cwV 1 hts (k_gV tw_261 tw_262 tw_263 tw_39 tw_264) rfl rfl rfl (by decide +kernel) ⟨Nat.le_of_ble_eq_true rfl, Nat.le_of_ble_eq_true rfl⟩) (kPreV hP hK (q := 24) hX.2.2.2.2.2.2.1 rfl) rfl rfl hl.1 rfl (lv_room (Nat.le_of_ble_eq_true rfl)) dX_paidFrom_15 ⟨Nat.le_of_ble_eq_true rfl, Nat.le_of_ble_eq_true rfl⟩) (fun r_15 e_15 => ?_)
    subst e_15
    refine lv_goto (tgt := 35) hx hb dX_paidFrom_18 (by decide) ?_
    exact W.lret (v := f_P_amountOf (x.1 4) (x.2.2.2.1 1) (x.2.2.2.2.1 2) (f_X_pairOf x p q)) hx hb hr (fun t ht hW => ⟨_, rfl, by rw [f_X_paidFrom, if_neg c_2], ht⟩) (fun q h => by cases h) dX_paidFrom_35

theorem dX_roomOf_0 : decode prog_1_method_42_code 0 = .ok (.aload_n 0, 1) := by decide +kernel
theorem dX_roomOf_1 : decode prog_1_method_42_code 1 = .ok (.getfield 41, 3) := by decide +kernel
theorem dX_roomOf_4 : decode prog_1_method_42_code 4 = .ok (.iload_n 1, 1) := by decide +kernel
theorem dX_roomOf_5 : decode prog_1_method_42_code 5 = .ok (.invokevirtual 221, 3) := by decide +kernel
theorem dX_roomOf_8 : decode prog_1_method_42_code 8 = .ok (.aload_n 0, 1) := by decide +kernel
theorem dX_roomOf_9 : decode prog_1_method_42_code 9 = .ok (.iload_n 1, 1) := by decide +kernel
theorem dX_roomOf_10 : decode prog_1_method_42_code 10 = .ok (.aload_n 0, 1) := by decide +kernel
theorem dX_roomOf_11 : decode prog_1_method_42_code 11 = .ok (.getfield 9, 3) := by decide +kernel
theorem dX_roomOf_14 : decode prog_1_method_42_code 14 = .ok (.idiv, 1) := by decide +kernel
theorem dX_roomOf_15 : decode prog_1_method_42_code 15 = .ok (.iload_n 1, 1) := by decide +kernel
theorem dX_roomOf_16 : decode prog_1_method_42_code 16 = .ok (.aload_n 0, 1) := by decide +kernel
theorem dX_roomOf_17 : decode prog_1_method_42_code 17 = .ok (.getfield 9, 3) := by decide +kernel
theorem dX_roomOf_20 : decode prog_1_method_42_code 20 = .ok (.irem, 1) := by decide +kernel
theorem dX_roomOf_21 : decode prog_1_method_42_code 21 = .ok (.invokevirtual 116, 3) := by decide +kernel
theorem dX_roomOf_24 : decode prog_1_method_42_code 24 = .ok (.lsub, 1) := by decide +kernel
theorem dX_roomOf_25 : decode prog_1_method_42_code 25 = .ok (.lreturn, 1) := by decide +kernel
def f_X_roomOf (x : XS) (pair : Int32) : Int64 := (f_P_amountOf (x.1 3) (x.2.2.2.1 0) (x.2.2.2.2.1 1) pair) - (f_X_paidFrom x (pair / (nI (x.1 0))) (pair - pair / (nI (x.1 0)) * (nI (x.1 0))))
set_option maxHeartbeats 4000000 in
set_option maxRecDepth 100000 in
theorem c_X_roomOf (l : Launch) (D : va_G) (cI cL cQ : ClassId) (d : Nat → Nat) (κ : Nat → Option va_E) (x : XS) (hX : IsX cI cL cQ d κ x) (hB : XB x) (sz : Nat) (pair : Int32)  : Met l yX_roomOf wX_roomOf { frames := 3, cells := 0, slots := 0, locals := 66 } (va_Pc [.ref (d 18), .int (pair)] (kC D vCl (kT cI cL cQ) d κ sz)) (vp_Sl (fun r => r = f_X_roomOf x pair)) 0 0 (fun _ => False) := by
  refine kMet (by decide) (Nat.le_of_ble_eq_true rfl) ?_
  intro p0 e0 s0 m0 below0 meth0 c0 hx hb hr hml hown hlocks hin hts hsz hP hK ls hl
  have hl : lv_has ls 2 [(0, .ref (d 18)), (1, .int (pair))] := hl
  have hB9 := hB
  obtain ⟨hb0, hb1, hb2, hb3, hb4, hb5, hb6, hb7, hb8⟩ := hB9
  refine lv_aload_n hx hb dX_roomOf_0 rfl (lv_at hl 0 rfl) ?_
  refine ka_get (ci := 3) (C := RX) (T := TX) (N := 10) hx hb hts inX hown hK hP (q := 18) hX.1 rfl 7 (by decide) (hts _ tw_106) (fun _ h9 => h9) rfl dX_roomOf_1 ?_
  refine lv_iload_n hx hb dX_roomOf_4 rfl (lv_at hl 1 rfl) ?_
  refine vp_callSl (W.runV (C := RP) (As := [.int (pair)]) (rest := []) ⟨hx, hb, hml, hown, hts⟩ (c_P_amountOf l D cI cL cQ d κ 21 40 (x.1 3) (x.2.2.2.1 0) (x.2.2.2.2.1 1) ⟨hX.2.2.2.1, hX.2.2.2.2.1, hX.2.2.2.2.2.1⟩ (by omega) (by decide) _ pair) (cwV 1 hts (k_gV tw_261 tw_262 tw_263 tw_39 tw_264) rfl rfl rfl (by decide +kernel) ⟨Nat.le_of_ble_eq_true rfl, Nat.le_of_ble_eq_true rfl⟩) (kPreV hP hK (q := 21) hX.2.2.2.1 rfl) rfl rfl hl.1 rfl (lv_room (Nat.le_of_ble_eq_true rfl)) dX_roomOf_5 ⟨Nat.le_of_ble_eq_true rfl, Nat.le_of_ble_eq_true rfl⟩) (fun r_5 e_5 => ?_)
  subst e_5
  refine lv_aload_n hx hb dX_roomOf_8 rfl (lv_at hl 0 rfl) ?_
  refine lv_iload_n hx hb dX_roomOf_9 rfl (lv_at hl 1 rfl) ?_
  refine lv_aload_n hx hb dX_roomOf_10 rfl (lv_at hl 0 rfl) ?_
  refine ka_get (ci := 3) (C := RX) (T := TX) (N := 10) hx hb hts inX hown hK hP (q := 18) hX.1 rfl 0 (by decide) (hts _ tw_99) (fun _ h9 => h9) rfl dX_roomOf_11 ?_
  refine lv_idiv hx hb dX_roomOf_14 (nI_ne0 (by omega) (by omega)) ?_
  refine lv_iload_n hx hb dX_roomOf_15 rfl (lv_at hl 1 rfl) ?_
  refine lv_aload_n hx hb dX_roomOf_16 rfl (lv_at hl 0 rfl) ?_
  refine ka_get (ci := 3) (C := RX) (T := TX) (N := 10) hx hb hts inX hown hK hP (q := 18) hX.1 rfl 0 (by decide) (hts _ tw_99) (fun _ h9 => h9) rfl dX_roomOf_17 ?_
  refine lv_irem hx hb dX_roomOf_20 (nI_ne0 (by omega) (by omega)) ?_
  refine vp_callSl (W.runV (C := RX) (As := [.int (pair / (nI (x.1 0))), .int (pair - pair / (nI (x.1 0)) * (nI (x.1 0)))]) (rest := [.long (f_P_amountOf (x.1 3) (x.2.2.2.1 0) (x.2.2.2.2.1 1) pair)]) ⟨hx, hb, hml, hown, hts⟩ (c_X_paidFrom l D cI cL cQ d κ x hX hB _ (pair / (nI (x.1 0))) (pair - pair / (nI (x.1 0)) * (nI (x.1 0)))) (cwV 2 hts (k_gV tw_253 tw_255 tw_11 tw_38 tw_256) rfl rfl rfl (by decide +kernel) ⟨Nat.le_of_ble_eq_true rfl, Nat.le_of_ble_eq_true rfl⟩) (kPreV hP hK (q := 18) hX.1 rfl) rfl rfl hl.1 rfl (lv_room (Nat.le_of_ble_eq_true rfl)) dX_roomOf_21 ⟨Nat.le_of_ble_eq_true rfl, Nat.le_of_ble_eq_true rfl⟩) (fun r_21 e_21 => ?_)
  subst e_21
  refine lv_lsub hx hb dX_roomOf_24 ?_
  exact W.lret (v := (f_P_amountOf (x.1 3) (x.2.2.2.1 0) (x.2.2.2.2.1 1) pair) - (f_X_paidFrom x (pair / (nI (x.1 0))) (pair - pair / (nI (x.1 0)) * (nI (x.1 0))))) hx hb hr (fun t ht hW => ⟨_, rfl, by rw [f_X_roomOf], ht⟩) (fun q h => by cases h) dX_roomOf_25

theorem dX_breaksFloor_0 : decode prog_1_method_43_code 0 = .ok (.aload_n 0, 1) := by decide +kernel
theorem dX_breaksFloor_1 : decode prog_1_method_43_code 1 = .ok (.iload_n 2, 1) := by decide +kernel
theorem dX_breaksFloor_2 : decode prog_1_method_43_code 2 = .ok (.invokevirtual 79, 3) := by decide +kernel
theorem dX_breaksFloor_5 : decode prog_1_method_43_code 5 = .ok (.astore_n 3, 1) := by decide +kernel
theorem dX_breaksFloor_6 : decode prog_1_method_43_code 6 = .ok (.aload_n 0, 1) := by decide +kernel
theorem dX_breaksFloor_7 : decode prog_1_method_43_code 7 = .ok (.getfield 51, 3) := by decide +kernel
theorem dX_breaksFloor_10 : decode prog_1_method_43_code 10 = .ok (.iload_n 1, 1) := by decide +kernel
theorem dX_breaksFloor_11 : decode prog_1_method_43_code 11 = .ok (.iload_n 2, 1) := by decide +kernel
theorem dX_breaksFloor_12 : decode prog_1_method_43_code 12 = .ok (.invokevirtual 174, 3) := by decide +kernel
theorem dX_breaksFloor_15 : decode prog_1_method_43_code 15 = .ok (.lstore 4, 2) := by decide +kernel
theorem dX_breaksFloor_17 : decode prog_1_method_43_code 17 = .ok (.aload_n 3, 1) := by decide +kernel
theorem dX_breaksFloor_18 : decode prog_1_method_43_code 18 = .ok (.ifnull 33, 3) := by decide +kernel
theorem dX_breaksFloor_21 : decode prog_1_method_43_code 21 = .ok (.lload 4, 2) := by decide +kernel
theorem dX_breaksFloor_23 : decode prog_1_method_43_code 23 = .ok (.lconst 0, 1) := by decide +kernel
theorem dX_breaksFloor_24 : decode prog_1_method_43_code 24 = .ok (.lcmp, 1) := by decide +kernel
theorem dX_breaksFloor_25 : decode prog_1_method_43_code 25 = .ok (.ifCond .ge 26, 3) := by decide +kernel
theorem dX_breaksFloor_28 : decode prog_1_method_43_code 28 = .ok (.aload_n 3, 1) := by decide +kernel
theorem dX_breaksFloor_29 : decode prog_1_method_43_code 29 = .ok (.getfield 90, 3) := by decide +kernel
theorem dX_breaksFloor_32 : decode prog_1_method_43_code 32 = .ok (.iload_n 1, 1) := by decide +kernel
theorem dX_breaksFloor_33 : decode prog_1_method_43_code 33 = .ok (.laload, 1) := by decide +kernel
theorem dX_breaksFloor_34 : decode prog_1_method_43_code 34 = .ok (.lload 4, 2) := by decide +kernel
theorem dX_breaksFloor_36 : decode prog_1_method_43_code 36 = .ok (.ladd, 1) := by decide +kernel
theorem dX_breaksFloor_37 : decode prog_1_method_43_code 37 = .ok (.aload_n 0, 1) := by decide +kernel
theorem dX_breaksFloor_38 : decode prog_1_method_43_code 38 = .ok (.aload_n 3, 1) := by decide +kernel
theorem dX_breaksFloor_39 : decode prog_1_method_43_code 39 = .ok (.iload_n 1, 1) := by decide +kernel
theorem dX_breaksFloor_40 : decode prog_1_method_43_code 40 = .ok (.invokevirtual 99, 3) := by decide +kernel
theorem dX_breaksFloor_43 : decode prog_1_method_43_code 43 = .ok (.lcmp, 1) := by decide +kernel
theorem dX_breaksFloor_44 : decode prog_1_method_43_code 44 = .ok (.ifCond .ge 7, 3) := by decide +kernel
theorem dX_breaksFloor_47 : decode prog_1_method_43_code 47 = .ok (.iconst 1, 1) := by decide +kernel
theorem dX_breaksFloor_48 : decode prog_1_method_43_code 48 = .ok (.goto 4, 3) := by decide +kernel
theorem dX_breaksFloor_51 : decode prog_1_method_43_code 51 = .ok (.iconst 0, 1) := by decide +kernel
theorem dX_breaksFloor_52 : decode prog_1_method_43_code 52 = .ok (.ireturn, 1) := by decide +kernel
def f_X_breaksFloor (x : XS) (p : Int32) (a : Int32) : Int32 := if xIs x a then (if (f_G_netOf x p a) < 0 then (if (((xH x ((a).toNatClampNeg)) (p).toNatClampNeg) + (f_G_netOf x p a)) < (f_X_lowest x ((a).toNatClampNeg) p) then 1 else 0) else 0) else 0
theorem b_X_breaksFloor (x : XS) (p : Int32) (a : Int32) : f_X_breaksFloor x p a = 0 ∨ f_X_breaksFloor x p a = 1 := by
  unfold f_X_breaksFloor
  repeat' (first | split | exact Or.inl rfl | exact Or.inr rfl)
set_option maxHeartbeats 4000000 in
set_option maxRecDepth 100000 in
theorem c_X_breaksFloor (l : Launch) (D : va_G) (cI cL cQ : ClassId) (d : Nat → Nat) (κ : Nat → Option va_E) (x : XS) (hX : IsX cI cL cQ d κ x) (hB : XB x) (sz : Nat) (p : Int32) (a : Int32) (hpP : vp_in p (x.1 0)) : Met l yX_breaksFloor wX_breaksFloor { frames := 2, cells := 0, slots := 0, locals := 43 } (va_Pc [.ref (d 18), .int (p), .int (a)] (kC D vCl (kT cI cL cQ) d κ sz)) (vp_Si (fun r => r = f_X_breaksFloor x p a)) 0 0 (fun _ => False) := by
  refine kMet (by decide) (Nat.le_of_ble_eq_true rfl) ?_
  intro p0 e0 s0 m0 below0 meth0 c0 hx hb hr hml hown hlocks hin hts hsz hP hK ls hl
  have hl : lv_has ls 6 [(0, .ref (d 18)), (1, .int (p)), (2, .int (a))] := hl
  have hB9 := hB
  obtain ⟨hb0, hb1, hb2, hb3, hb4, hb5, hb6, hb7, hb8⟩ := hB9
  refine lv_aload_n hx hb dX_breaksFloor_0 rfl (lv_at hl 0 rfl) ?_
  refine lv_iload_n hx hb dX_breaksFloor_1 rfl (lv_at hl 2 rfl) ?_
  refine va_csq (W.runV (C := RX) (As := [.int (a)]) (rest := []) ⟨hx, hb, hml, hown, hts⟩ (c_X_assetAt l D cI cL cQ d κ x hX hB _ a) (cwV 1 hts (k_gV tw_179 tw_181 tw_2 tw_38 tw_182) rfl rfl rfl (by decide +kernel) ⟨Nat.le_of_ble_eq_true rfl, Nat.le_of_ble_eq_true rfl⟩) (kPreV hP hK (q := 18) hX.1 rfl) rfl rfl hl.1 rfl (lv_room (Nat.le_of_ble_eq_true rfl)) dX_breaksFloor_2 ⟨Nat.le_of_ble_eq_true rfl, Nat.le_of_ble_eq_true rfl⟩) (fun r_2 e_2 => ?_)
  subst e_2
  by_cases hA_2 : xIs x a
  · rw [if_pos hA_2]
    have hi_2 : (a).toNatClampNeg < x.1 2 := (xIs_in hB hA_2).2
    refine lv_astore_n (lv' := [(3, .ref (d (32 + 3 * (a).toNatClampNeg))), (0, .ref (d 18)), (1, .int (p)), (2, .int (a))]) hx hb dX_breaksFloor_5 rfl hl (by decide) rfl (fun ls hl => ?_)
    refine lv_aload_n hx hb dX_breaksFloor_6 rfl (lv_at hl 1 rfl) ?_
    refine ka_get (ci := 3) (C := RX) (T := TX) (N := 10) hx hb hts inX hown hK hP (q := 18) hX.1 rfl 9 (by decide) (hts _ tw_108) (fun _ h9 => h9) rfl dX_breaksFloor_7 ?_
    refine lv_iload_n hx hb dX_breaksFloor_10 rfl (lv_at hl 2 rfl) ?_
    refine lv_iload_n hx hb dX_breaksFloor_11 rfl (lv_at hl 3 rfl) ?_
    refine vp_callSl (W.runV (C := RG) (As := [.int (p), .int (a)]) (rest := []) ⟨hx, hb, hml, hown, hts⟩ (c_G_netOf l D cI cL cQ d κ x hX hB _ p a) (cwV 2 hts (k_gV tw_305 tw_306 tw_307 tw_40 tw_308) rfl rfl rfl (by decide +kernel) ⟨Nat.le_of_ble_eq_true rfl, Nat.le_of_ble_eq_true rfl⟩) (kPreV hP hK (q := 27) hX.2.2.2.2.2.2.2.2.2.1 rfl) rfl rfl hl.1 rfl (lv_room (Nat.le_of_ble_eq_true rfl)) dX_breaksFloor_12 ⟨Nat.le_of_ble_eq_true rfl, Nat.le_of_ble_eq_true rfl⟩) (fun r_12 e_12 => ?_)
    subst e_12
    refine lv_lstore (lv' := [(4, .long (f_G_netOf x p a)), (3, .ref (d (32 + 3 * (a).toNatClampNeg))), (0, .ref (d 18)), (1, .int (p)), (2, .int (a))]) hx hb dX_breaksFloor_15 hl (by decide) rfl (fun ls hl => ?_)
    refine lv_aload_n hx hb dX_breaksFloor_17 rfl (lv_at hl 1 rfl) ?_
    refine lv_ifnull hx hb dX_breaksFloor_18 ?_
    refine lv_lload hx hb dX_breaksFloor_21 (lv_at hl 0 rfl) ?_
    refine lv_lconst (v := 0) hx hb dX_breaksFloor_23 (by decide) ?_
    refine kl_ge (tgt := 51) hx hb dX_breaksFloor_24 dX_breaksFloor_25 (by decide) (fun c_24 => ?_) (fun c_24 => ?_)
    · refine lv_iconst (v := 0) hx hb dX_breaksFloor_51 (by decide) ?_
      exact W.zret (v := 0) hx hb hr k_nar0 (fun t ht hW => ⟨_, rfl, by rw [f_X_breaksFloor, if_pos hA_2, if_neg c_24], ht⟩) (fun q h => by cases h) dX_breaksFloor_52
    · refine lv_aload_n hx hb dX_breaksFloor_28 rfl (lv_at hl 1 rfl) ?_
      refine ka_get (ci := 0) (C := RA) (T := TA) (N := 4) hx hb hts inA hown hK hP (q := (32 + 3 * (a).toNatClampNeg)) (hX.2.2.2.2.2.2.2.2.2.2.2.2.2.2.1 ((a).toNatClampNeg) hi_2).1 rfl 1 (by decide) (hts _ tw_146) (fun _ h9 => h9) rfl dX_breaksFloor_29 ?_
      refine lv_iload_n hx hb dX_breaksFloor_32 rfl (lv_at hl 3 rfl) ?_
      refine ka_lald hx hb hK hP 1 (q := (33 + 3 * (a).toNatClampNeg)) (hX.2.2.2.2.2.2.2.2.2.2.2.2.2.2.1 ((a).toNatClampNeg) hi_2).2.1 rfl (by first | assumption | exact vp_in_nI (by omega) (by omega)) dX_breaksFloor_33 ?_
      refine lv_lload hx hb dX_breaksFloor_34 (lv_at hl 0 rfl) ?_
      refine lv_ladd hx hb dX_breaksFloor_36 ?_
      refine lv_aload_n hx hb dX_breaksFloor_37 rfl (lv_at hl 2 rfl) ?_
      refine lv_aload_n hx hb dX_breaksFloor_38 rfl (lv_at hl 1 rfl) ?_
      refine lv_iload_n hx hb dX_breaksFloor_39 rfl (lv_at hl 3 rfl) ?_
      refine vp_callSl (W.runV (C := RX) (As := [.ref (d (32 + 3 * (a).toNatClampNeg)), .int (p)]) (rest := [.long (((xH x ((a).toNatClampNeg)) (p).toNatClampNeg) + (f_G_netOf x p a))]) ⟨hx, hb, hml, hown, hts⟩ (c_X_lowest l D cI cL cQ d κ x hX hB _ ((a).toNatClampNeg) hi_2 p hpP) (cwV 2 hts (k_gV tw_228 tw_230 tw_8 tw_38 tw_231) rfl rfl rfl (by decide +kernel) ⟨Nat.le_of_ble_eq_true rfl, Nat.le_of_ble_eq_true rfl⟩) (kPreV hP hK (q := 18) hX.1 rfl) rfl rfl hl.1 rfl (lv_room (Nat.le_of_ble_eq_true rfl)) dX_breaksFloor_40 ⟨Nat.le_of_ble_eq_true rfl, Nat.le_of_ble_eq_true rfl⟩) (fun r_40 e_40 => ?_)
      subst e_40
      refine kl_ge (tgt := 51) hx hb dX_breaksFloor_43 dX_breaksFloor_44 (by decide) (fun c_43 => ?_) (fun c_43 => ?_)
      · refine lv_iconst (v := 0) hx hb dX_breaksFloor_51 (by decide) ?_
        exact W.zret (v := 0) hx hb hr k_nar0 (fun t ht hW => ⟨_, rfl, by rw [f_X_breaksFloor, if_pos hA_2, if_pos c_24, if_neg c_43], ht⟩) (fun q h => by cases h) dX_breaksFloor_52
      · refine lv_iconst (v := 1) hx hb dX_breaksFloor_47 (by decide) ?_
        refine lv_goto (tgt := 52) hx hb dX_breaksFloor_48 (by decide) ?_
        exact W.zret (v := 1) hx hb hr k_nar1 (fun t ht hW => ⟨_, rfl, by rw [f_X_breaksFloor, if_pos hA_2, if_pos c_24, if_pos c_43], ht⟩) (fun q h => by cases h) dX_breaksFloor_52
  · rw [if_neg hA_2]
    refine lv_astore_nN (lv' := [(3, .null), (0, .ref (d 18)), (1, .int (p)), (2, .int (a))]) hx hb dX_breaksFloor_5 rfl hl (by decide) rfl (fun ls hl => ?_)
    refine lv_aload_n hx hb dX_breaksFloor_6 rfl (lv_at hl 1 rfl) ?_
    refine ka_get (ci := 3) (C := RX) (T := TX) (N := 10) hx hb hts inX hown hK hP (q := 18) hX.1 rfl 9 (by decide) (hts _ tw_108) (fun _ h9 => h9) rfl dX_breaksFloor_7 ?_
    refine lv_iload_n hx hb dX_breaksFloor_10 rfl (lv_at hl 2 rfl) ?_
    refine lv_iload_n hx hb dX_breaksFloor_11 rfl (lv_at hl 3 rfl) ?_
    refine vp_callSl (W.runV (C := RG) (As := [.int (p), .int (a)]) (rest := []) ⟨hx, hb, hml, hown, hts⟩ (c_G_netOf l D cI cL cQ d κ x hX hB _ p a) (cwV 2 hts (k_gV tw_305 tw_306 tw_307 tw_40 tw_308) rfl rfl rfl (by decide +kernel) ⟨Nat.le_of_ble_eq_true rfl, Nat.le_of_ble_eq_true rfl⟩) (kPreV hP hK (q := 27) hX.2.2.2.2.2.2.2.2.2.1 rfl) rfl rfl hl.1 rfl (lv_room (Nat.le_of_ble_eq_true rfl)) dX_breaksFloor_12 ⟨Nat.le_of_ble_eq_true rfl, Nat.le_of_ble_eq_true rfl⟩) (fun r_12 e_12 => ?_)
    subst e_12
    refine lv_lstore (lv' := [(4, .long (f_G_netOf x p a)), (3, .null), (0, .ref (d 18)), (1, .int (p)), (2, .int (a))]) hx hb dX_breaksFloor_15 hl (by decide) rfl (fun ls hl => ?_)
    refine lv_aload_nN hx hb dX_breaksFloor_17 rfl (lv_at hl 1 rfl) ?_
    refine lv_ifnullN (tgt := 51) hx hb dX_breaksFloor_18 (by decide) ?_
    refine lv_iconst (v := 0) hx hb dX_breaksFloor_51 (by decide) ?_
    exact W.zret (v := 0) hx hb hr k_nar0 (fun t ht hW => ⟨_, rfl, by rw [f_X_breaksFloor, if_neg hA_2], ht⟩) (fun q h => by cases h) dX_breaksFloor_52

theorem dX_breaksRoom_0 : decode prog_1_method_44_code 0 = .ok (.aload_n 0, 1) := by decide +kernel
theorem dX_breaksRoom_1 : decode prog_1_method_44_code 1 = .ok (.aload_n 0, 1) := by decide +kernel
theorem dX_breaksRoom_2 : decode prog_1_method_44_code 2 = .ok (.getfield 51, 3) := by decide +kernel
theorem dX_breaksRoom_5 : decode prog_1_method_44_code 5 = .ok (.getfield 141, 3) := by decide +kernel
theorem dX_breaksRoom_8 : decode prog_1_method_44_code 8 = .ok (.iload_n 1, 1) := by decide +kernel
theorem dX_breaksRoom_9 : decode prog_1_method_44_code 9 = .ok (.iaload, 1) := by decide +kernel
theorem dX_breaksRoom_10 : decode prog_1_method_44_code 10 = .ok (.aload_n 0, 1) := by decide +kernel
theorem dX_breaksRoom_11 : decode prog_1_method_44_code 11 = .ok (.getfield 51, 3) := by decide +kernel
theorem dX_breaksRoom_14 : decode prog_1_method_44_code 14 = .ok (.getfield 224, 3) := by decide +kernel
theorem dX_breaksRoom_17 : decode prog_1_method_44_code 17 = .ok (.iload_n 1, 1) := by decide +kernel
theorem dX_breaksRoom_18 : decode prog_1_method_44_code 18 = .ok (.iaload, 1) := by decide +kernel
theorem dX_breaksRoom_19 : decode prog_1_method_44_code 19 = .ok (.invokevirtual 120, 3) := by decide +kernel
theorem dX_breaksRoom_22 : decode prog_1_method_44_code 22 = .ok (.istore_n 2, 1) := by decide +kernel
theorem dX_breaksRoom_23 : decode prog_1_method_44_code 23 = .ok (.aload_n 0, 1) := by decide +kernel
theorem dX_breaksRoom_24 : decode prog_1_method_44_code 24 = .ok (.getfield 51, 3) := by decide +kernel
theorem dX_breaksRoom_27 : decode prog_1_method_44_code 27 = .ok (.aload_n 0, 1) := by decide +kernel
theorem dX_breaksRoom_28 : decode prog_1_method_44_code 28 = .ok (.getfield 51, 3) := by decide +kernel
theorem dX_breaksRoom_31 : decode prog_1_method_44_code 31 = .ok (.getfield 141, 3) := by decide +kernel
theorem dX_breaksRoom_34 : decode prog_1_method_44_code 34 = .ok (.iload_n 1, 1) := by decide +kernel
theorem dX_breaksRoom_35 : decode prog_1_method_44_code 35 = .ok (.iaload, 1) := by decide +kernel
theorem dX_breaksRoom_36 : decode prog_1_method_44_code 36 = .ok (.aload_n 0, 1) := by decide +kernel
theorem dX_breaksRoom_37 : decode prog_1_method_44_code 37 = .ok (.getfield 51, 3) := by decide +kernel
theorem dX_breaksRoom_40 : decode prog_1_method_44_code 40 = .ok (.getfield 224, 3) := by decide +kernel
theorem dX_breaksRoom_43 : decode prog_1_method_44_code 43 = .ok (.iload_n 1, 1) := by decide +kernel
theorem dX_breaksRoom_44 : decode prog_1_method_44_code 44 = .ok (.iaload, 1) := by decide +kernel
theorem dX_breaksRoom_45 : decode prog_1_method_44_code 45 = .ok (.aload_n 0, 1) := by decide +kernel
theorem dX_breaksRoom_46 : decode prog_1_method_44_code 46 = .ok (.getfield 25, 3) := by decide +kernel
theorem dX_breaksRoom_49 : decode prog_1_method_44_code 49 = .ok (.invokevirtual 177, 3) := by decide +kernel
theorem dX_breaksRoom_52 : decode prog_1_method_44_code 52 = .ok (.lstore_n 3, 1) := by decide +kernel
theorem dX_breaksRoom_53 : decode prog_1_method_44_code 53 = .ok (.aload_n 0, 1) := by decide +kernel
theorem dX_breaksRoom_54 : decode prog_1_method_44_code 54 = .ok (.getfield 41, 3) := by decide +kernel
theorem dX_breaksRoom_57 : decode prog_1_method_44_code 57 = .ok (.iload_n 2, 1) := by decide +kernel
theorem dX_breaksRoom_58 : decode prog_1_method_44_code 58 = .ok (.invokevirtual 184, 3) := by decide +kernel
theorem dX_breaksRoom_61 : decode prog_1_method_44_code 61 = .ok (.ifCond .eq 25, 3) := by decide +kernel
theorem dX_breaksRoom_64 : decode prog_1_method_44_code 64 = .ok (.lload_n 3, 1) := by decide +kernel
theorem dX_breaksRoom_65 : decode prog_1_method_44_code 65 = .ok (.lconst 0, 1) := by decide +kernel
theorem dX_breaksRoom_66 : decode prog_1_method_44_code 66 = .ok (.lcmp, 1) := by decide +kernel
theorem dX_breaksRoom_67 : decode prog_1_method_44_code 67 = .ok (.ifCond .le 19, 3) := by decide +kernel
theorem dX_breaksRoom_70 : decode prog_1_method_44_code 70 = .ok (.aload_n 0, 1) := by decide +kernel
theorem dX_breaksRoom_71 : decode prog_1_method_44_code 71 = .ok (.iload_n 2, 1) := by decide +kernel
theorem dX_breaksRoom_72 : decode prog_1_method_44_code 72 = .ok (.invokevirtual 180, 3) := by decide +kernel
theorem dX_breaksRoom_75 : decode prog_1_method_44_code 75 = .ok (.lload_n 3, 1) := by decide +kernel
theorem dX_breaksRoom_76 : decode prog_1_method_44_code 76 = .ok (.lsub, 1) := by decide +kernel
theorem dX_breaksRoom_77 : decode prog_1_method_44_code 77 = .ok (.lconst 0, 1) := by decide +kernel
theorem dX_breaksRoom_78 : decode prog_1_method_44_code 78 = .ok (.lcmp, 1) := by decide +kernel
theorem dX_breaksRoom_79 : decode prog_1_method_44_code 79 = .ok (.ifCond .ge 7, 3) := by decide +kernel
theorem dX_breaksRoom_82 : decode prog_1_method_44_code 82 = .ok (.iconst 1, 1) := by decide +kernel
theorem dX_breaksRoom_83 : decode prog_1_method_44_code 83 = .ok (.goto 4, 3) := by decide +kernel
theorem dX_breaksRoom_86 : decode prog_1_method_44_code 86 = .ok (.iconst 0, 1) := by decide +kernel
theorem dX_breaksRoom_87 : decode prog_1_method_44_code 87 = .ok (.ireturn, 1) := by decide +kernel
def f_X_breaksRoom (x : XS) (k : Int32) : Int32 := if (f_P_has (x.1 3) (x.2.2.2.1 0) (x.2.2.2.2.1 1) (f_X_pairOf x ((x.2.2.2.1 2) (k).toNatClampNeg) ((x.2.2.2.1 3) (k).toNatClampNeg))) = 0 then 0 else (if 0 < (f_G_paidFrom x ((x.2.2.2.1 2) (k).toNatClampNeg) ((x.2.2.2.1 3) (k).toNatClampNeg) x.2.1) then (if ((f_X_roomOf x (f_X_pairOf x ((x.2.2.2.1 2) (k).toNatClampNeg) ((x.2.2.2.1 3) (k).toNatClampNeg))) - (f_G_paidFrom x ((x.2.2.2.1 2) (k).toNatClampNeg) ((x.2.2.2.1 3) (k).toNatClampNeg) x.2.1)) < 0 then 1 else 0) else 0)
theorem b_X_breaksRoom (x : XS) (k : Int32) : f_X_breaksRoom x k = 0 ∨ f_X_breaksRoom x k = 1 := by
  unfold f_X_breaksRoom
  repeat' (first | split | exact Or.inl rfl | exact Or.inr rfl)
set_option maxHeartbeats 4000000 in
set_option maxRecDepth 100000 in
theorem c_X_breaksRoom (l : Launch) (D : va_G) (cI cL cQ : ClassId) (d : Nat → Nat) (κ : Nat → Option va_E) (x : XS) (hX : IsX cI cL cQ d κ x) (hB : XB x) (sz : Nat) (k : Int32) (hk4 : vp_in k 4) : Met l yX_breaksRoom wX_breaksRoom { frames := 4, cells := 0, slots := 0, locals := 87 } (va_Pc [.ref (d 18), .int (k)] (kC D vCl (kT cI cL cQ) d κ sz)) (vp_Si (fun r => r = f_X_breaksRoom x k)) 0 0 (fun _ => False) := by
  refine kMet (by decide) (Nat.le_of_ble_eq_true rfl) ?_
  intro p0 e0 s0 m0 below0 meth0 c0 hx hb hr hml hown hlocks hin hts hsz hP hK ls hl
  have hl : lv_has ls 5 [(0, .ref (d 18)), (1, .int (k))] := hl
  have hB9 := hB
  obtain ⟨hb0, hb1, hb2, hb3, hb4, hb5, hb6, hb7, hb8⟩ := hB9
  refine lv_aload_n hx hb dX_breaksRoom_0 rfl (lv_at hl 0 rfl) ?_
  refine lv_aload_n hx hb dX_breaksRoom_1 rfl (lv_at hl 0 rfl) ?_
  refine ka_get (ci := 3) (C := RX) (T := TX) (N := 10) hx hb hts inX hown hK hP (q := 18) hX.1 rfl 9 (by decide) (hts _ tw_108) (fun _ h9 => h9) rfl dX_breaksRoom_2 ?_
  refine ka_get (ci := 1) (C := RG) (T := TG) (N := 5) hx hb hts inG hown hK hP (q := 27) hX.2.2.2.2.2.2.2.2.2.1 rfl 0 (by decide) (hts _ tw_79) (fun _ h9 => h9) rfl dX_breaksRoom_5 ?_
  refine lv_iload_n hx hb dX_breaksRoom_8 rfl (lv_at hl 1 rfl) ?_
  refine ka_iald hx hb hK hP 0 (q := 28) hX.2.2.2.2.2.2.2.2.2.2.1 rfl (by first | assumption | exact vp_in_nI (by omega) (by omega)) dX_breaksRoom_9 ?_
  refine lv_aload_n hx hb dX_breaksRoom_10 rfl (lv_at hl 0 rfl) ?_
  refine ka_get (ci := 3) (C := RX) (T := TX) (N := 10) hx hb hts inX hown hK hP (q := 18) hX.1 rfl 9 (by decide) (hts _ tw_108) (fun _ h9 => h9) rfl dX_breaksRoom_11 ?_
  refine ka_get (ci := 1) (C := RG) (T := TG) (N := 5) hx hb hts inG hown hK hP (q := 27) hX.2.2.2.2.2.2.2.2.2.1 rfl 1 (by decide) (hts _ tw_81) (fun _ h9 => h9) rfl dX_breaksRoom_14 ?_
  refine lv_iload_n hx hb dX_breaksRoom_17 rfl (lv_at hl 1 rfl) ?_
  refine ka_iald hx hb hK hP 0 (q := 29) hX.2.2.2.2.2.2.2.2.2.2.2.1 rfl (by first | assumption | exact vp_in_nI (by omega) (by omega)) dX_breaksRoom_18 ?_
  refine vp_callSi (W.runV (C := RX) (As := [.int ((x.2.2.2.1 2) (k).toNatClampNeg), .int ((x.2.2.2.1 3) (k).toNatClampNeg)]) (rest := []) ⟨hx, hb, hml, hown, hts⟩ (c_X_pairOf l D cI cL cQ d κ x hX hB _ ((x.2.2.2.1 2) (k).toNatClampNeg) ((x.2.2.2.1 3) (k).toNatClampNeg)) (cwV 2 hts (k_gV tw_257 tw_259 tw_12 tw_38 tw_260) rfl rfl rfl (by decide +kernel) ⟨Nat.le_of_ble_eq_true rfl, Nat.le_of_ble_eq_true rfl⟩) (kPreV hP hK (q := 18) hX.1 rfl) rfl rfl hl.1 rfl (lv_room (Nat.le_of_ble_eq_true rfl)) dX_breaksRoom_19 ⟨Nat.le_of_ble_eq_true rfl, Nat.le_of_ble_eq_true rfl⟩) (fun r_19 e_19 => ?_)
  subst e_19
  refine lv_istore_n (lv' := [(2, .int (f_X_pairOf x ((x.2.2.2.1 2) (k).toNatClampNeg) ((x.2.2.2.1 3) (k).toNatClampNeg))), (0, .ref (d 18)), (1, .int (k))]) hx hb dX_breaksRoom_22 rfl hl (by decide) rfl (fun ls hl => ?_)
  refine lv_aload_n hx hb dX_breaksRoom_23 rfl (lv_at hl 1 rfl) ?_
  refine ka_get (ci := 3) (C := RX) (T := TX) (N := 10) hx hb hts inX hown hK hP (q := 18) hX.1 rfl 9 (by decide) (hts _ tw_108) (fun _ h9 => h9) rfl dX_breaksRoom_24 ?_
  refine lv_aload_n hx hb dX_breaksRoom_27 rfl (lv_at hl 1 rfl) ?_
  refine ka_get (ci := 3) (C := RX) (T := TX) (N := 10) hx hb hts inX hown hK hP (q := 18) hX.1 rfl 9 (by decide) (hts _ tw_108) (fun _ h9 => h9) rfl dX_breaksRoom_28 ?_
  refine ka_get (ci := 1) (C := RG) (T := TG) (N := 5) hx hb hts inG hown hK hP (q := 27) hX.2.2.2.2.2.2.2.2.2.1 rfl 0 (by decide) (hts _ tw_79) (fun _ h9 => h9) rfl dX_breaksRoom_31 ?_
  refine lv_iload_n hx hb dX_breaksRoom_34 rfl (lv_at hl 2 rfl) ?_
  refine ka_iald hx hb hK hP 0 (q := 28) hX.2.2.2.2.2.2.2.2.2.2.1 rfl (by first | assumption | exact vp_in_nI (by omega) (by omega)) dX_breaksRoom_35 ?_
  refine lv_aload_n hx hb dX_breaksRoom_36 rfl (lv_at hl 1 rfl) ?_
  refine ka_get (ci := 3) (C := RX) (T := TX) (N := 10) hx hb hts inX hown hK hP (q := 18) hX.1 rfl 9 (by decide) (hts _ tw_108) (fun _ h9 => h9) rfl dX_breaksRoom_37 ?_
  refine ka_get (ci := 1) (C := RG) (T := TG) (N := 5) hx hb hts inG hown hK hP (q := 27) hX.2.2.2.2.2.2.2.2.2.1 rfl 1 (by decide) (hts _ tw_81) (fun _ h9 => h9) rfl dX_breaksRoom_40 ?_
  refine lv_iload_n hx hb dX_breaksRoom_43 rfl (lv_at hl 2 rfl) ?_
  refine ka_iald hx hb hK hP 0 (q := 29) hX.2.2.2.2.2.2.2.2.2.2.2.1 rfl (by first | assumption | exact vp_in_nI (by omega) (by omega)) dX_breaksRoom_44 ?_
  refine lv_aload_n hx hb dX_breaksRoom_45 rfl (lv_at hl 1 rfl) ?_
  refine ka_get (ci := 3) (C := RX) (T := TX) (N := 10) hx hb hts inX hown hK hP (q := 18) hX.1 rfl 4 (by decide) (hts _ tw_103) (fun _ h9 => h9) rfl dX_breaksRoom_46 ?_
  refine vp_callSl (W.runV (C := RG) (As := [.int ((x.2.2.2.1 2) (k).toNatClampNeg), .int ((x.2.2.2.1 3) (k).toNatClampNeg), .int (x.2.1)]) (rest := []) ⟨hx, hb, hml, hown, hts⟩ (c_G_paidFrom l D cI cL cQ d κ x hX hB _ ((x.2.2.2.1 2) (k).toNatClampNeg) ((x.2.2.2.1 3) (k).toNatClampNeg) x.2.1) (cwV 3 hts (k_gV tw_313 tw_314 tw_315 tw_40 tw_316) rfl rfl rfl (by decide +kernel) ⟨Nat.le_of_ble_eq_true rfl, Nat.le_of_ble_eq_true rfl⟩) (kPreV hP hK (q := 27) hX.2.2.2.2.2.2.2.2.2.1 rfl) rfl rfl hl.1 rfl (lv_room (Nat.le_of_ble_eq_true rfl)) dX_breaksRoom_49 ⟨Nat.le_of_ble_eq_true rfl, Nat.le_of_ble_eq_true rfl⟩) (fun r_49 e_49 => ?_)
  subst e_49
  refine lv_lstore_n (lv' := [(3, .long (f_G_paidFrom x ((x.2.2.2.1 2) (k).toNatClampNeg) ((x.2.2.2.1 3) (k).toNatClampNeg) x.2.1)), (2, .int (f_X_pairOf x ((x.2.2.2.1 2) (k).toNatClampNeg) ((x.2.2.2.1 3) (k).toNatClampNeg))), (0, .ref (d 18)), (1, .int (k))]) hx hb dX_breaksRoom_52 rfl hl (by decide) rfl (fun ls hl => ?_)
  refine lv_aload_n hx hb dX_breaksRoom_53 rfl (lv_at hl 2 rfl) ?_
  refine ka_get (ci := 3) (C := RX) (T := TX) (N := 10) hx hb hts inX hown hK hP (q := 18) hX.1 rfl 7 (by decide) (hts _ tw_106) (fun _ h9 => h9) rfl dX_breaksRoom_54 ?_
  refine lv_iload_n hx hb dX_breaksRoom_57 rfl (lv_at hl 1 rfl) ?_
  refine vp_callSi (W.runV (C := RP) (As := [.int (f_X_pairOf x ((x.2.2.2.1 2) (k).toNatClampNeg) ((x.2.2.2.1 3) (k).toNatClampNeg))]) (rest := []) ⟨hx, hb, hml, hown, hts⟩ (c_P_has l D cI cL cQ d κ 21 40 (x.1 3) (x.2.2.2.1 0) (x.2.2.2.2.1 1) ⟨hX.2.2.2.1, hX.2.2.2.2.1, hX.2.2.2.2.2.1⟩ (by omega) (by decide) _ (f_X_pairOf x ((x.2.2.2.1 2) (k).toNatClampNeg) ((x.2.2.2.1 3) (k).toNatClampNeg))) (cwV 1 hts (k_gV tw_317 tw_318 tw_319 tw_39 tw_320) rfl rfl rfl (by decide +kernel) ⟨Nat.le_of_ble_eq_true rfl, Nat.le_of_ble_eq_true rfl⟩) (kPreV hP hK (q := 21) hX.2.2.2.1 rfl) rfl rfl hl.1 rfl (lv_room (Nat.le_of_ble_eq_true rfl)) dX_breaksRoom_58 ⟨Nat.le_of_ble_eq_true rfl, Nat.le_of_ble_eq_true rfl⟩) (fun r_58 e_58 => ?_)
  subst e_58
  refine lv_if_eq (tgt := 86) hx hb dX_breaksRoom_61 (by decide) (fun c_61 => ?_) (fun c_61 => ?_)
  · refine lv_iconst (v := 0) hx hb dX_breaksRoom_86 (by decide) ?_
    exact W.zret (v := 0) hx hb hr k_nar0 (fun t ht hW => ⟨_, rfl, by rw [f_X_breaksRoom, if_pos c_61], ht⟩) (fun q h => by cases h) dX_breaksRoom_87
  · refine lv_lload_n hx hb dX_breaksRoom_64 rfl (lv_at hl 0 rfl) ?_
    refine lv_lconst (v := 0) hx hb dX_breaksRoom_65 (by decide) ?_
    refine kl_le (tgt := 86) hx hb dX_breaksRoom_66 dX_breaksRoom_67 (by decide) (fun c_66 => ?_) (fun c_66 => ?_)
    · refine lv_iconst (v := 0) hx hb dX_breaksRoom_86 (by decide) ?_
      exact W.zret (v := 0) hx hb hr k_nar0 (fun t ht hW => ⟨_, rfl, by rw [f_X_breaksRoom, if_neg c_61, if_neg c_66], ht⟩) (fun q h => by cases h) dX_breaksRoom_87
    · refine lv_aload_n hx hb dX_breaksRoom_70 rfl (lv_at hl 2 rfl) ?_
      refine lv_iload_n hx hb dX_breaksRoom_71 rfl (lv_at hl 1 rfl) ?_
      refine vp_callSl (W.runV (C := RX) (As := [.int (f_X_pairOf x ((x.2.2.2.1 2) (k).toNatClampNeg) ((x.2.2.2.1 3) (k).toNatClampNeg))]) (rest := []) ⟨hx, hb, hml, hown, hts⟩ (c_X_roomOf l D cI cL cQ d κ x hX hB _ (f_X_pairOf x ((x.2.2.2.1 2) (k).toNatClampNeg) ((x.2.2.2.1 3) (k).toNatClampNeg))) (cwV 1 hts (k_gV tw_321 tw_323 tw_16 tw_38 tw_324) rfl rfl rfl (by decide +kernel) ⟨Nat.le_of_ble_eq_true rfl, Nat.le_of_ble_eq_true rfl⟩) (kPreV hP hK (q := 18) hX.1 rfl) rfl rfl hl.1 rfl (lv_room (Nat.le_of_ble_eq_true rfl)) dX_breaksRoom_72 ⟨Nat.le_of_ble_eq_true rfl, Nat.le_of_ble_eq_true rfl⟩) (fun r_72 e_72 => ?_)
      subst e_72
      refine lv_lload_n hx hb dX_breaksRoom_75 rfl (lv_at hl 0 rfl) ?_
      refine lv_lsub hx hb dX_breaksRoom_76 ?_
      refine lv_lconst (v := 0) hx hb dX_breaksRoom_77 (by decide) ?_
      refine kl_ge (tgt := 86) hx hb dX_breaksRoom_78 dX_breaksRoom_79 (by decide) (fun c_78 => ?_) (fun c_78 => ?_)
      · refine lv_iconst (v := 0) hx hb dX_breaksRoom_86 (by decide) ?_
        exact W.zret (v := 0) hx hb hr k_nar0 (fun t ht hW => ⟨_, rfl, by rw [f_X_breaksRoom, if_neg c_61, if_pos c_66, if_neg c_78], ht⟩) (fun q h => by cases h) dX_breaksRoom_87
      · refine lv_iconst (v := 1) hx hb dX_breaksRoom_82 (by decide) ?_
        refine lv_goto (tgt := 87) hx hb dX_breaksRoom_83 (by decide) ?_
        exact W.zret (v := 1) hx hb hr k_nar1 (fun t ht hW => ⟨_, rfl, by rw [f_X_breaksRoom, if_neg c_61, if_pos c_66, if_pos c_78], ht⟩) (fun q h => by cases h) dX_breaksRoom_87

theorem dX_holds_0 : decode prog_1_method_13_code 0 = .ok (.iconst 0, 1) := by decide +kernel
theorem dX_holds_1 : decode prog_1_method_13_code 1 = .ok (.istore_n 1, 1) := by decide +kernel
theorem dX_holds_2 : decode prog_1_method_13_code 2 = .ok (.iload_n 1, 1) := by decide +kernel
theorem dX_holds_3 : decode prog_1_method_13_code 3 = .ok (.aload_n 0, 1) := by decide +kernel
theorem dX_holds_4 : decode prog_1_method_13_code 4 = .ok (.getfield 51, 3) := by decide +kernel
theorem dX_holds_7 : decode prog_1_method_13_code 7 = .ok (.getfield 138, 3) := by decide +kernel
theorem dX_holds_10 : decode prog_1_method_13_code 10 = .ok (.if_icmp .ge 44, 3) := by decide +kernel
theorem dX_holds_13 : decode prog_1_method_13_code 13 = .ok (.aload_n 0, 1) := by decide +kernel
theorem dX_holds_14 : decode prog_1_method_13_code 14 = .ok (.aload_n 0, 1) := by decide +kernel
theorem dX_holds_15 : decode prog_1_method_13_code 15 = .ok (.getfield 51, 3) := by decide +kernel
theorem dX_holds_18 : decode prog_1_method_13_code 18 = .ok (.getfield 141, 3) := by decide +kernel
theorem dX_holds_21 : decode prog_1_method_13_code 21 = .ok (.iload_n 1, 1) := by decide +kernel
theorem dX_holds_22 : decode prog_1_method_13_code 22 = .ok (.iaload, 1) := by decide +kernel
theorem dX_holds_23 : decode prog_1_method_13_code 23 = .ok (.aload_n 0, 1) := by decide +kernel
theorem dX_holds_24 : decode prog_1_method_13_code 24 = .ok (.getfield 51, 3) := by decide +kernel
theorem dX_holds_27 : decode prog_1_method_13_code 27 = .ok (.getfield 145, 3) := by decide +kernel
theorem dX_holds_30 : decode prog_1_method_13_code 30 = .ok (.iload_n 1, 1) := by decide +kernel
theorem dX_holds_31 : decode prog_1_method_13_code 31 = .ok (.iaload, 1) := by decide +kernel
theorem dX_holds_32 : decode prog_1_method_13_code 32 = .ok (.invokevirtual 148, 3) := by decide +kernel
theorem dX_holds_35 : decode prog_1_method_13_code 35 = .ok (.ifCond .ne 11, 3) := by decide +kernel
theorem dX_holds_38 : decode prog_1_method_13_code 38 = .ok (.aload_n 0, 1) := by decide +kernel
theorem dX_holds_39 : decode prog_1_method_13_code 39 = .ok (.iload_n 1, 1) := by decide +kernel
theorem dX_holds_40 : decode prog_1_method_13_code 40 = .ok (.invokevirtual 151, 3) := by decide +kernel
theorem dX_holds_43 : decode prog_1_method_13_code 43 = .ok (.ifCond .eq 5, 3) := by decide +kernel
theorem dX_holds_46 : decode prog_1_method_13_code 46 = .ok (.iconst 0, 1) := by decide +kernel
theorem dX_holds_47 : decode prog_1_method_13_code 47 = .ok (.ireturn, 1) := by decide +kernel
theorem dX_holds_48 : decode prog_1_method_13_code 48 = .ok (.iinc 1 1, 3) := by decide +kernel
theorem dX_holds_51 : decode prog_1_method_13_code 51 = .ok (.goto (-49), 3) := by decide +kernel
theorem dX_holds_54 : decode prog_1_method_13_code 54 = .ok (.iconst 1, 1) := by decide +kernel
theorem dX_holds_55 : decode prog_1_method_13_code 55 = .ok (.ireturn, 1) := by decide +kernel
def f_X_holds_l (x : XS) : Nat → Nat → Int32
  | 0, _ => 0
  | n + 1, k => if (nI (x.1 5)) ≤ (nI k) then 1 else (if (f_X_breaksFloor x ((x.2.2.2.1 2) (nI k).toNatClampNeg) ((x.2.2.2.1 4) (nI k).toNatClampNeg)) = 0 then (if (f_X_breaksRoom x (nI k)) = 0 then (f_X_holds_l x n (k + 1)) else 0) else 0)
theorem f_X_holds_l_s (x : XS) (n : Nat) (k : Nat) : f_X_holds_l x (n + 1) k = (if (nI (x.1 5)) ≤ (nI k) then 1 else (if (f_X_breaksFloor x ((x.2.2.2.1 2) (nI k).toNatClampNeg) ((x.2.2.2.1 4) (nI k).toNatClampNeg)) = 0 then (if (f_X_breaksRoom x (nI k)) = 0 then (f_X_holds_l x n (k + 1)) else 0) else 0)) := rfl
def f_X_holds (x : XS) : Int32 := f_X_holds_l x (x.1 5 + 1) 0
set_option maxHeartbeats 4000000 in
set_option maxRecDepth 100000 in
theorem c_X_holds (l : Launch) (D : va_G) (cI cL cQ : ClassId) (d : Nat → Nat) (κ : Nat → Option va_E) (x : XS) (hX : IsX cI cL cQ d κ x) (hB : XB x) (sz : Nat)   : Met l yX_holds wX_holds { frames := 5, cells := 0, slots := 0, locals := 111 } (va_Pc [.ref (d 18)] (kC D vCl (kT cI cL cQ) d κ sz)) (vp_Si (fun r => r = f_X_holds x)) 0 0 (fun _ => False) := by
  refine kMet (by decide) (Nat.le_of_ble_eq_true rfl) ?_
  intro p0 e0 s0 m0 below0 meth0 c0 hx hb hr hml hown hlocks hin hts hsz hP hK ls hl
  have hl : lv_has ls 2 [(0, .ref (d 18))] := hl
  have hB9 := hB
  obtain ⟨hb0, hb1, hb2, hb3, hb4, hb5, hb6, hb7, hb8⟩ := hB9
  refine lv_iconst (v := 0) hx hb dX_holds_0 (by decide) ?_
  refine lv_istore_n (lv' := [(1, .int (0)), (0, .ref (d 18))]) hx hb dX_holds_1 rfl hl (by decide) rfl (fun ls hl => ?_)
  refine k_rec (σ := Nat) (fun n z9 ls => z9 ≤ x.1 5 ∧ x.1 5 < z9 + n ∧ f_X_holds_l x n z9 = f_X_holds x ∧ lv_has ls 2 [(1, .int (nI z9)), (0, .ref (d 18))]) (x.1 5 + 1) (0) ⟨by omega, by omega, by rw [f_X_holds], lv_sub hl [0, 1] rfl⟩ ?_
  intro n z9 ls hI ih
  obtain ⟨k, rfl⟩ : ∃ z, z = z9 := ⟨_, rfl⟩
  obtain ⟨hk, hn, hE, hl⟩ := hI
  obtain ⟨n, rfl⟩ : ∃ q, n = q + 1 := ⟨n - 1, by omega⟩
  refine lv_iload_n hx hb dX_holds_2 rfl (lv_at hl 0 rfl) ?_
  refine lv_aload_n hx hb dX_holds_3 rfl (lv_at hl 1 rfl) ?_
  refine ka_get (ci := 3) (C := RX) (T := TX) (N := 10) hx hb hts inX hown hK hP (q := 18) hX.1 rfl 9 (by decide) (hts _ tw_108) (fun _ h9 => h9) rfl dX_holds_4 ?_
  refine ka_get (ci := 1) (C := RG) (T := TG) (N := 5) hx hb hts inG hown hK hP (q := 27) hX.2.2.2.2.2.2.2.2.2.1 rfl 4 (by decide) (hts _ tw_87) (fun _ h9 => h9) rfl dX_holds_7 ?_
  refine lv_icmp_ge (tgt := 54) hx hb dX_holds_10 (by decide) (fun c_10 => ?_) (fun c_10 => ?_)
  · refine lv_iconst (v := 1) hx hb dX_holds_54 (by decide) ?_
    exact W.zret (v := 1) hx hb hr k_nar1 (fun t ht hW => ⟨_, rfl, by rw [← hE, f_X_holds_l_s, if_pos c_10], ht⟩) (fun q h => by cases h) dX_holds_55
  · have hlt : k < x.1 5 := Nat.lt_of_not_le (fun q => c_10 (nI_le q (by omega)))
    refine lv_aload_n hx hb dX_holds_13 rfl (lv_at hl 1 rfl) ?_
    refine lv_aload_n hx hb dX_holds_14 rfl (lv_at hl 1 rfl) ?_
    refine ka_get (ci := 3) (C := RX) (T := TX) (N := 10) hx hb hts inX hown hK hP (q := 18) hX.1 rfl 9 (by decide) (hts _ tw_108) (fun _ h9 => h9) rfl dX_holds_15 ?_
    refine ka_get (ci := 1) (C := RG) (T := TG) (N := 5) hx hb hts inG hown hK hP (q := 27) hX.2.2.2.2.2.2.2.2.2.1 rfl 0 (by decide) (hts _ tw_79) (fun _ h9 => h9) rfl dX_holds_18 ?_
    refine lv_iload_n hx hb dX_holds_21 rfl (lv_at hl 0 rfl) ?_
    refine ka_iald hx hb hK hP 0 (q := 28) hX.2.2.2.2.2.2.2.2.2.2.1 rfl (by first | assumption | exact vp_in_nI (by omega) (by omega)) dX_holds_22 ?_
    refine lv_aload_n hx hb dX_holds_23 rfl (lv_at hl 1 rfl) ?_
    refine ka_get (ci := 3) (C := RX) (T := TX) (N := 10) hx hb hts inX hown hK hP (q := 18) hX.1 rfl 9 (by decide) (hts _ tw_108) (fun _ h9 => h9) rfl dX_holds_24 ?_
    refine ka_get (ci := 1) (C := RG) (T := TG) (N := 5) hx hb hts inG hown hK hP (q := 27) hX.2.2.2.2.2.2.2.2.2.1 rfl 2 (by decide) (hts _ tw_83) (fun _ h9 => h9) rfl dX_holds_27 ?_
    refine lv_iload_n hx hb dX_holds_30 rfl (lv_at hl 0 rfl) ?_
    refine ka_iald hx hb hK hP 0 (q := 30) hX.2.2.2.2.2.2.2.2.2.2.2.2.1 rfl (by first | assumption | exact vp_in_nI (by omega) (by omega)) dX_holds_31 ?_
    refine vp_callSi (W.runV (C := RX) (As := [.int ((x.2.2.2.1 2) (nI k).toNatClampNeg), .int ((x.2.2.2.1 4) (nI k).toNatClampNeg)]) (rest := []) ⟨hx, hb, hml, hown, hts⟩ (c_X_breaksFloor l D cI cL cQ d κ x hX hB _ ((x.2.2.2.1 2) (nI k).toNatClampNeg) ((x.2.2.2.1 4) (nI k).toNatClampNeg) (by rw [nI_clamp (by omega)]; exact (hb8 k hlt).1)) (cwV 2 hts (k_gV tw_301 tw_303 tw_14 tw_38 tw_304) rfl rfl rfl (by decide +kernel) ⟨Nat.le_of_ble_eq_true rfl, Nat.le_of_ble_eq_true rfl⟩) (kPreV hP hK (q := 18) hX.1 rfl) rfl rfl hl.1 rfl (lv_room (Nat.le_of_ble_eq_true rfl)) dX_holds_32 ⟨Nat.le_of_ble_eq_true rfl, Nat.le_of_ble_eq_true rfl⟩) (fun r_32 e_32 => ?_)
    subst e_32
    refine lv_if_ne (tgt := 46) hx hb dX_holds_35 (by decide) (fun c_35 => ?_) (fun c_35 => ?_)
    · refine lv_iconst (v := 0) hx hb dX_holds_46 (by decide) ?_
      exact W.zret (v := 0) hx hb hr k_nar0 (fun t ht hW => ⟨_, rfl, by rw [← hE, f_X_holds_l_s, if_neg c_10, if_neg c_35], ht⟩) (fun q h => by cases h) dX_holds_47
    · refine lv_aload_n hx hb dX_holds_38 rfl (lv_at hl 1 rfl) ?_
      refine lv_iload_n hx hb dX_holds_39 rfl (lv_at hl 0 rfl) ?_
      refine vp_callSi (W.runV (C := RX) (As := [.int (nI k)]) (rest := []) ⟨hx, hb, hml, hown, hts⟩ (c_X_breaksRoom l D cI cL cQ d κ x hX hB _ (nI k) (vp_in_nI (by omega) (by omega))) (cwV 1 hts (k_gV tw_309 tw_311 tw_15 tw_38 tw_312) rfl rfl rfl (by decide +kernel) ⟨Nat.le_of_ble_eq_true rfl, Nat.le_of_ble_eq_true rfl⟩) (kPreV hP hK (q := 18) hX.1 rfl) rfl rfl hl.1 rfl (lv_room (Nat.le_of_ble_eq_true rfl)) dX_holds_40 ⟨Nat.le_of_ble_eq_true rfl, Nat.le_of_ble_eq_true rfl⟩) (fun r_40 e_40 => ?_)
      subst e_40
      refine lv_if_eq (tgt := 48) hx hb dX_holds_43 (by decide) (fun c_43 => ?_) (fun c_43 => ?_)
      · refine lv_iinc (v := nI (k + 1)) (lv' := [(1, .int (nI (k + 1))), (0, .ref (d 18))]) hx hb dX_holds_48 hl (k := 0) rfl (nI_add k 1) (by decide) rfl (fun ls hl => ?_)
        refine lv_goto (tgt := 2) hx hb dX_holds_51 (by decide) ?_
        exact ih n (k + 1) ls (by omega) ⟨by omega, by omega, by rw [← hE, f_X_holds_l_s, if_neg c_10, if_pos c_35, if_pos c_43], lv_sub hl [0, 1] rfl⟩
      · refine lv_iconst (v := 0) hx hb dX_holds_46 (by decide) ?_
        exact W.zret (v := 0) hx hb hr k_nar0 (fun t ht hW => ⟨_, rfl, by rw [← hE, f_X_holds_l_s, if_neg c_10, if_pos c_35, if_neg c_43], ht⟩) (fun q h => by cases h) dX_holds_47

theorem dX_isThere_0 : decode prog_1_method_19_code 0 = .ok (.aload_n 0, 1) := by decide +kernel
theorem dX_isThere_1 : decode prog_1_method_19_code 1 = .ok (.iload_n 1, 1) := by decide +kernel
theorem dX_isThere_2 : decode prog_1_method_19_code 2 = .ok (.invokevirtual 164, 3) := by decide +kernel
theorem dX_isThere_5 : decode prog_1_method_19_code 5 = .ok (.ifCond .eq 21, 3) := by decide +kernel
theorem dX_isThere_8 : decode prog_1_method_19_code 8 = .ok (.aload_n 0, 1) := by decide +kernel
theorem dX_isThere_9 : decode prog_1_method_19_code 9 = .ok (.aload_n 0, 1) := by decide +kernel
theorem dX_isThere_10 : decode prog_1_method_19_code 10 = .ok (.iload_n 1, 1) := by decide +kernel
theorem dX_isThere_11 : decode prog_1_method_19_code 11 = .ok (.invokevirtual 171, 3) := by decide +kernel
theorem dX_isThere_14 : decode prog_1_method_19_code 14 = .ok (.invokevirtual 79, 3) := by decide +kernel
theorem dX_isThere_17 : decode prog_1_method_19_code 17 = .ok (.ifnull 7, 3) := by decide +kernel
theorem dX_isThere_20 : decode prog_1_method_19_code 20 = .ok (.iconst 1, 1) := by decide +kernel
theorem dX_isThere_21 : decode prog_1_method_19_code 21 = .ok (.goto 4, 3) := by decide +kernel
theorem dX_isThere_24 : decode prog_1_method_19_code 24 = .ok (.iconst 0, 1) := by decide +kernel
theorem dX_isThere_25 : decode prog_1_method_19_code 25 = .ok (.ireturn, 1) := by decide +kernel
theorem dX_isThere_26 : decode prog_1_method_19_code 26 = .ok (.iload_n 1, 1) := by decide +kernel
theorem dX_isThere_27 : decode prog_1_method_19_code 27 = .ok (.aload_n 0, 1) := by decide +kernel
theorem dX_isThere_28 : decode prog_1_method_19_code 28 = .ok (.getfield 19, 3) := by decide +kernel
theorem dX_isThere_31 : decode prog_1_method_19_code 31 = .ok (.if_icmp .lt 23, 3) := by decide +kernel
theorem dX_isThere_34 : decode prog_1_method_19_code 34 = .ok (.aload_n 0, 1) := by decide +kernel
theorem dX_isThere_35 : decode prog_1_method_19_code 35 = .ok (.getfield 41, 3) := by decide +kernel
theorem dX_isThere_38 : decode prog_1_method_19_code 38 = .ok (.iload_n 1, 1) := by decide +kernel
theorem dX_isThere_39 : decode prog_1_method_19_code 39 = .ok (.aload_n 0, 1) := by decide +kernel
theorem dX_isThere_40 : decode prog_1_method_19_code 40 = .ok (.getfield 19, 3) := by decide +kernel
theorem dX_isThere_43 : decode prog_1_method_19_code 43 = .ok (.isub, 1) := by decide +kernel
theorem dX_isThere_44 : decode prog_1_method_19_code 44 = .ok (.invokevirtual 184, 3) := by decide +kernel
theorem dX_isThere_47 : decode prog_1_method_19_code 47 = .ok (.ifCond .eq 7, 3) := by decide +kernel
theorem dX_isThere_50 : decode prog_1_method_19_code 50 = .ok (.iconst 1, 1) := by decide +kernel
theorem dX_isThere_51 : decode prog_1_method_19_code 51 = .ok (.goto 4, 3) := by decide +kernel
theorem dX_isThere_54 : decode prog_1_method_19_code 54 = .ok (.iconst 0, 1) := by decide +kernel
theorem dX_isThere_55 : decode prog_1_method_19_code 55 = .ok (.ireturn, 1) := by decide +kernel
def f_X_isThere (x : XS) (pos : Int32) : Int32 := if (f_X_isPosition x pos) = 0 then (if pos < (nI (x.1 0 * x.1 1)) then 0 else (if (f_P_has (x.1 3) (x.2.2.2.1 0) (x.2.2.2.2.1 1) (pos - (nI (x.1 0 * x.1 1)))) = 0 then 0 else 1)) else (if xIs x (f_X_assetOf x pos) then 1 else 0)
theorem b_X_isThere (x : XS) (pos : Int32) : f_X_isThere x pos = 0 ∨ f_X_isThere x pos = 1 := by
  unfold f_X_isThere
  repeat' (first | split | exact Or.inl rfl | exact Or.inr rfl)
set_option maxHeartbeats 4000000 in
set_option maxRecDepth 100000 in
theorem c_X_isThere (l : Launch) (D : va_G) (cI cL cQ : ClassId) (d : Nat → Nat) (κ : Nat → Option va_E) (x : XS) (hX : IsX cI cL cQ d κ x) (hB : XB x) (sz : Nat) (pos : Int32)  : Met l yX_isThere wX_isThere { frames := 2, cells := 0, slots := 0, locals := 43 } (va_Pc [.ref (d 18), .int (pos)] (kC D vCl (kT cI cL cQ) d κ sz)) (vp_Si (fun r => r = f_X_isThere x pos)) 0 0 (fun _ => False) := by
  refine kMet (by decide) (Nat.le_of_ble_eq_true rfl) ?_
  intro p0 e0 s0 m0 below0 meth0 c0 hx hb hr hml hown hlocks hin hts hsz hP hK ls hl
  have hl : lv_has ls 2 [(0, .ref (d 18)), (1, .int (pos))] := hl
  have hB9 := hB
  obtain ⟨hb0, hb1, hb2, hb3, hb4, hb5, hb6, hb7, hb8⟩ := hB9
  refine lv_aload_n hx hb dX_isThere_0 rfl (lv_at hl 0 rfl) ?_
  refine lv_iload_n hx hb dX_isThere_1 rfl (lv_at hl 1 rfl) ?_
  refine vp_callSi (W.runV (C := RX) (As := [.int (pos)]) (rest := []) ⟨hx, hb, hml, hown, hts⟩ (c_X_isPosition l D cI cL cQ d κ x hX hB _ pos) (cwV 1 hts (k_gV tw_350 tw_352 tw_19 tw_38 tw_353) rfl rfl rfl (by decide +kernel) ⟨Nat.le_of_ble_eq_true rfl, Nat.le_of_ble_eq_true rfl⟩) (kPreV hP hK (q := 18) hX.1 rfl) rfl rfl hl.1 rfl (lv_room (Nat.le_of_ble_eq_true rfl)) dX_isThere_2 ⟨Nat.le_of_ble_eq_true rfl, Nat.le_of_ble_eq_true rfl⟩) (fun r_2 e_2 => ?_)
  subst e_2
  refine lv_if_eq (tgt := 26) hx hb dX_isThere_5 (by decide) (fun c_5 => ?_) (fun c_5 => ?_)
  · refine lv_iload_n hx hb dX_isThere_26 rfl (lv_at hl 1 rfl) ?_
    refine lv_aload_n hx hb dX_isThere_27 rfl (lv_at hl 0 rfl) ?_
    refine ka_get (ci := 3) (C := RX) (T := TX) (N := 10) hx hb hts inX hown hK hP (q := 18) hX.1 rfl 1 (by decide) (hts _ tw_100) (fun _ h9 => h9) rfl dX_isThere_28 ?_
    refine lv_icmp_lt (tgt := 54) hx hb dX_isThere_31 (by decide) (fun c_31 => ?_) (fun c_31 => ?_)
    · refine lv_iconst (v := 0) hx hb dX_isThere_54 (by decide) ?_
      exact W.zret (v := 0) hx hb hr k_nar0 (fun t ht hW => ⟨_, rfl, by rw [f_X_isThere, if_pos c_5, if_pos c_31], ht⟩) (fun q h => by cases h) dX_isThere_55
    · refine lv_aload_n hx hb dX_isThere_34 rfl (lv_at hl 0 rfl) ?_
      refine ka_get (ci := 3) (C := RX) (T := TX) (N := 10) hx hb hts inX hown hK hP (q := 18) hX.1 rfl 7 (by decide) (hts _ tw_106) (fun _ h9 => h9) rfl dX_isThere_35 ?_
      refine lv_iload_n hx hb dX_isThere_38 rfl (lv_at hl 1 rfl) ?_
      refine lv_aload_n hx hb dX_isThere_39 rfl (lv_at hl 0 rfl) ?_
      refine ka_get (ci := 3) (C := RX) (T := TX) (N := 10) hx hb hts inX hown hK hP (q := 18) hX.1 rfl 1 (by decide) (hts _ tw_100) (fun _ h9 => h9) rfl dX_isThere_40 ?_
      refine lv_isub hx hb dX_isThere_43 ?_
      refine vp_callSi (W.runV (C := RP) (As := [.int (pos - (nI (x.1 0 * x.1 1)))]) (rest := []) ⟨hx, hb, hml, hown, hts⟩ (c_P_has l D cI cL cQ d κ 21 40 (x.1 3) (x.2.2.2.1 0) (x.2.2.2.2.1 1) ⟨hX.2.2.2.1, hX.2.2.2.2.1, hX.2.2.2.2.2.1⟩ (by omega) (by decide) _ (pos - (nI (x.1 0 * x.1 1)))) (cwV 1 hts (k_gV tw_317 tw_318 tw_319 tw_39 tw_320) rfl rfl rfl (by decide +kernel) ⟨Nat.le_of_ble_eq_true rfl, Nat.le_of_ble_eq_true rfl⟩) (kPreV hP hK (q := 21) hX.2.2.2.1 rfl) rfl rfl hl.1 rfl (lv_room (Nat.le_of_ble_eq_true rfl)) dX_isThere_44 ⟨Nat.le_of_ble_eq_true rfl, Nat.le_of_ble_eq_true rfl⟩) (fun r_44 e_44 => ?_)
      subst e_44
      refine lv_if_eq (tgt := 54) hx hb dX_isThere_47 (by decide) (fun c_47 => ?_) (fun c_47 => ?_)
      · refine lv_iconst (v := 0) hx hb dX_isThere_54 (by decide) ?_
        exact W.zret (v := 0) hx hb hr k_nar0 (fun t ht hW => ⟨_, rfl, by rw [f_X_isThere, if_pos c_5, if_neg c_31, if_pos c_47], ht⟩) (fun q h => by cases h) dX_isThere_55
      · refine lv_iconst (v := 1) hx hb dX_isThere_50 (by decide) ?_
        refine lv_goto (tgt := 55) hx hb dX_isThere_51 (by decide) ?_
        exact W.zret (v := 1) hx hb hr k_nar1 (fun t ht hW => ⟨_, rfl, by rw [f_X_isThere, if_pos c_5, if_neg c_31, if_neg c_47], ht⟩) (fun q h => by cases h) dX_isThere_55
  · refine lv_aload_n hx hb dX_isThere_8 rfl (lv_at hl 0 rfl) ?_
    refine lv_aload_n hx hb dX_isThere_9 rfl (lv_at hl 0 rfl) ?_
    refine lv_iload_n hx hb dX_isThere_10 rfl (lv_at hl 1 rfl) ?_
    refine vp_callSi (W.runV (C := RX) (As := [.int (pos)]) (rest := [.ref (d 18)]) ⟨hx, hb, hml, hown, hts⟩ (c_X_assetOf l D cI cL cQ d κ x hX hB _ pos) (cwV 1 hts (k_gV tw_354 tw_356 tw_20 tw_38 tw_357) rfl rfl rfl (by decide +kernel) ⟨Nat.le_of_ble_eq_true rfl, Nat.le_of_ble_eq_true rfl⟩) (kPreV hP hK (q := 18) hX.1 rfl) rfl rfl hl.1 rfl (lv_room (Nat.le_of_ble_eq_true rfl)) dX_isThere_11 ⟨Nat.le_of_ble_eq_true rfl, Nat.le_of_ble_eq_true rfl⟩) (fun r_11 e_11 => ?_)
    subst e_11
    refine va_csq (W.runV (C := RX) (As := [.int (f_X_assetOf x pos)]) (rest := []) ⟨hx, hb, hml, hown, hts⟩ (c_X_assetAt l D cI cL cQ d κ x hX hB _ (f_X_assetOf x pos)) (cwV 1 hts (k_gV tw_179 tw_181 tw_2 tw_38 tw_182) rfl rfl rfl (by decide +kernel) ⟨Nat.le_of_ble_eq_true rfl, Nat.le_of_ble_eq_true rfl⟩) (kPreV hP hK (q := 18) hX.1 rfl) rfl rfl hl.1 rfl (lv_room (Nat.le_of_ble_eq_true rfl)) dX_isThere_14 ⟨Nat.le_of_ble_eq_true rfl, Nat.le_of_ble_eq_true rfl⟩) (fun r_14 e_14 => ?_)
    subst e_14
    by_cases hA_14 : xIs x (f_X_assetOf x pos)
    · rw [if_pos hA_14]
      have hi_14 : (f_X_assetOf x pos).toNatClampNeg < x.1 2 := (xIs_in hB hA_14).2
      refine lv_ifnull hx hb dX_isThere_17 ?_
      refine lv_iconst (v := 1) hx hb dX_isThere_20 (by decide) ?_
      refine lv_goto (tgt := 25) hx hb dX_isThere_21 (by decide) ?_
      exact W.zret (v := 1) hx hb hr k_nar1 (fun t ht hW => ⟨_, rfl, by rw [f_X_isThere, if_neg c_5, if_pos hA_14], ht⟩) (fun q h => by cases h) dX_isThere_25
    · rw [if_neg hA_14]
      refine lv_ifnullN (tgt := 24) hx hb dX_isThere_17 (by decide) ?_
      refine lv_iconst (v := 0) hx hb dX_isThere_24 (by decide) ?_
      exact W.zret (v := 0) hx hb hr k_nar0 (fun t ht hW => ⟨_, rfl, by rw [f_X_isThere, if_neg c_5, if_neg hA_14], ht⟩) (fun q h => by cases h) dX_isThere_25

theorem dX_net_0 : decode prog_1_method_16_code 0 = .ok (.aload_n 0, 1) := by decide +kernel
theorem dX_net_1 : decode prog_1_method_16_code 1 = .ok (.iload_n 1, 1) := by decide +kernel
theorem dX_net_2 : decode prog_1_method_16_code 2 = .ok (.invokevirtual 161, 3) := by decide +kernel
theorem dX_net_5 : decode prog_1_method_16_code 5 = .ok (.ifCond .ne 5, 3) := by decide +kernel
theorem dX_net_8 : decode prog_1_method_16_code 8 = .ok (.lconst 0, 1) := by decide +kernel
theorem dX_net_9 : decode prog_1_method_16_code 9 = .ok (.lreturn, 1) := by decide +kernel
theorem dX_net_10 : decode prog_1_method_16_code 10 = .ok (.aload_n 0, 1) := by decide +kernel
theorem dX_net_11 : decode prog_1_method_16_code 11 = .ok (.iload_n 1, 1) := by decide +kernel
theorem dX_net_12 : decode prog_1_method_16_code 12 = .ok (.invokevirtual 164, 3) := by decide +kernel
theorem dX_net_15 : decode prog_1_method_16_code 15 = .ok (.ifCond .eq 21, 3) := by decide +kernel
theorem dX_net_18 : decode prog_1_method_16_code 18 = .ok (.aload_n 0, 1) := by decide +kernel
theorem dX_net_19 : decode prog_1_method_16_code 19 = .ok (.getfield 51, 3) := by decide +kernel
theorem dX_net_22 : decode prog_1_method_16_code 22 = .ok (.aload_n 0, 1) := by decide +kernel
theorem dX_net_23 : decode prog_1_method_16_code 23 = .ok (.iload_n 1, 1) := by decide +kernel
theorem dX_net_24 : decode prog_1_method_16_code 24 = .ok (.invokevirtual 167, 3) := by decide +kernel
theorem dX_net_27 : decode prog_1_method_16_code 27 = .ok (.aload_n 0, 1) := by decide +kernel
theorem dX_net_28 : decode prog_1_method_16_code 28 = .ok (.iload_n 1, 1) := by decide +kernel
theorem dX_net_29 : decode prog_1_method_16_code 29 = .ok (.invokevirtual 171, 3) := by decide +kernel
theorem dX_net_32 : decode prog_1_method_16_code 32 = .ok (.invokevirtual 174, 3) := by decide +kernel
theorem dX_net_35 : decode prog_1_method_16_code 35 = .ok (.lreturn, 1) := by decide +kernel
theorem dX_net_36 : decode prog_1_method_16_code 36 = .ok (.iload_n 1, 1) := by decide +kernel
theorem dX_net_37 : decode prog_1_method_16_code 37 = .ok (.aload_n 0, 1) := by decide +kernel
theorem dX_net_38 : decode prog_1_method_16_code 38 = .ok (.getfield 19, 3) := by decide +kernel
theorem dX_net_41 : decode prog_1_method_16_code 41 = .ok (.isub, 1) := by decide +kernel
theorem dX_net_42 : decode prog_1_method_16_code 42 = .ok (.istore_n 2, 1) := by decide +kernel
theorem dX_net_43 : decode prog_1_method_16_code 43 = .ok (.aload_n 0, 1) := by decide +kernel
theorem dX_net_44 : decode prog_1_method_16_code 44 = .ok (.getfield 51, 3) := by decide +kernel
theorem dX_net_47 : decode prog_1_method_16_code 47 = .ok (.iload_n 2, 1) := by decide +kernel
theorem dX_net_48 : decode prog_1_method_16_code 48 = .ok (.aload_n 0, 1) := by decide +kernel
theorem dX_net_49 : decode prog_1_method_16_code 49 = .ok (.getfield 9, 3) := by decide +kernel
theorem dX_net_52 : decode prog_1_method_16_code 52 = .ok (.idiv, 1) := by decide +kernel
theorem dX_net_53 : decode prog_1_method_16_code 53 = .ok (.iload_n 2, 1) := by decide +kernel
theorem dX_net_54 : decode prog_1_method_16_code 54 = .ok (.aload_n 0, 1) := by decide +kernel
theorem dX_net_55 : decode prog_1_method_16_code 55 = .ok (.getfield 9, 3) := by decide +kernel
theorem dX_net_58 : decode prog_1_method_16_code 58 = .ok (.irem, 1) := by decide +kernel
theorem dX_net_59 : decode prog_1_method_16_code 59 = .ok (.aload_n 0, 1) := by decide +kernel
theorem dX_net_60 : decode prog_1_method_16_code 60 = .ok (.getfield 25, 3) := by decide +kernel
theorem dX_net_63 : decode prog_1_method_16_code 63 = .ok (.invokevirtual 177, 3) := by decide +kernel
theorem dX_net_66 : decode prog_1_method_16_code 66 = .ok (.lneg, 1) := by decide +kernel
theorem dX_net_67 : decode prog_1_method_16_code 67 = .ok (.lreturn, 1) := by decide +kernel
def f_X_net (x : XS) (pos : Int32) : Int64 := if (f_X_isThere x pos) = 0 then 0 else (if (f_X_isPosition x pos) = 0 then (-(f_G_paidFrom x ((pos - (nI (x.1 0 * x.1 1))) / (nI (x.1 0))) ((pos - (nI (x.1 0 * x.1 1))) - (pos - (nI (x.1 0 * x.1 1))) / (nI (x.1 0)) * (nI (x.1 0))) x.2.1)) else (f_G_netOf x (f_X_ownerOf x pos) (f_X_assetOf x pos)))
set_option maxHeartbeats 4000000 in
set_option maxRecDepth 100000 in
theorem c_X_net (l : Launch) (D : va_G) (cI cL cQ : ClassId) (d : Nat → Nat) (κ : Nat → Option va_E) (x : XS) (hX : IsX cI cL cQ d κ x) (hB : XB x) (sz : Nat) (pos : Int32)  : Met l yX_net wX_net { frames := 3, cells := 0, slots := 0, locals := 64 } (va_Pc [.ref (d 18), .int (pos)] (kC D vCl (kT cI cL cQ) d κ sz)) (vp_Sl (fun r => r = f_X_net x pos)) 0 0 (fun _ => False) := by
  refine kMet (by decide) (Nat.le_of_ble_eq_true rfl) ?_
  intro p0 e0 s0 m0 below0 meth0 c0 hx hb hr hml hown hlocks hin hts hsz hP hK ls hl
  have hl : lv_has ls 3 [(0, .ref (d 18)), (1, .int (pos))] := hl
  have hB9 := hB
  obtain ⟨hb0, hb1, hb2, hb3, hb4, hb5, hb6, hb7, hb8⟩ := hB9
  refine lv_aload_n hx hb dX_net_0 rfl (lv_at hl 0 rfl) ?_
  refine lv_iload_n hx hb dX_net_1 rfl (lv_at hl 1 rfl) ?_
  refine vp_callSi (W.runV (C := RX) (As := [.int (pos)]) (rest := []) ⟨hx, hb, hml, hown, hts⟩ (c_X_isThere l D cI cL cQ d κ x hX hB _ pos) (cwV 1 hts (k_gV tw_346 tw_347 tw_348 tw_38 tw_349) rfl rfl rfl (by decide +kernel) ⟨Nat.le_of_ble_eq_true rfl, Nat.le_of_ble_eq_true rfl⟩) (kPreV hP hK (q := 18) hX.1 rfl) rfl rfl hl.1 rfl (lv_room (Nat.le_of_ble_eq_true rfl)) dX_net_2 ⟨Nat.le_of_ble_eq_true rfl, Nat.le_of_ble_eq_true rfl⟩) (fun r_2 e_2 => ?_)
  subst e_2
  refine lv_if_ne (tgt := 10) hx hb dX_net_5 (by decide) (fun c_5 => ?_) (fun c_5 => ?_)
  · refine lv_aload_n hx hb dX_net_10 rfl (lv_at hl 0 rfl) ?_
    refine lv_iload_n hx hb dX_net_11 rfl (lv_at hl 1 rfl) ?_
    refine vp_callSi (W.runV (C := RX) (As := [.int (pos)]) (rest := []) ⟨hx, hb, hml, hown, hts⟩ (c_X_isPosition l D cI cL cQ d κ x hX hB _ pos) (cwV 1 hts (k_gV tw_350 tw_352 tw_19 tw_38 tw_353) rfl rfl rfl (by decide +kernel) ⟨Nat.le_of_ble_eq_true rfl, Nat.le_of_ble_eq_true rfl⟩) (kPreV hP hK (q := 18) hX.1 rfl) rfl rfl hl.1 rfl (lv_room (Nat.le_of_ble_eq_true rfl)) dX_net_12 ⟨Nat.le_of_ble_eq_true rfl, Nat.le_of_ble_eq_true rfl⟩) (fun r_12 e_12 => ?_)
    subst e_12
    refine lv_if_eq (tgt := 36) hx hb dX_net_15 (by decide) (fun c_15 => ?_) (fun c_15 => ?_)
    · refine lv_iload_n hx hb dX_net_36 rfl (lv_at hl 1 rfl) ?_
      refine lv_aload_n hx hb dX_net_37 rfl (lv_at hl 0 rfl) ?_
      refine ka_get (ci := 3) (C := RX) (T := TX) (N := 10) hx hb hts inX hown hK hP (q := 18) hX.1 rfl 1 (by decide) (hts _ tw_100) (fun _ h9 => h9) rfl dX_net_38 ?_
      refine lv_isub hx hb dX_net_41 ?_
      refine lv_istore_n (lv' := [(2, .int (pos - (nI (x.1 0 * x.1 1)))), (0, .ref (d 18)), (1, .int (pos))]) hx hb dX_net_42 rfl hl (by decide) rfl (fun ls hl => ?_)
      refine lv_aload_n hx hb dX_net_43 rfl (lv_at hl 1 rfl) ?_
      refine ka_get (ci := 3) (C := RX) (T := TX) (N := 10) hx hb hts inX hown hK hP (q := 18) hX.1 rfl 9 (by decide) (hts _ tw_108) (fun _ h9 => h9) rfl dX_net_44 ?_
      refine lv_iload_n hx hb dX_net_47 rfl (lv_at hl 0 rfl) ?_
      refine lv_aload_n hx hb dX_net_48 rfl (lv_at hl 1 rfl) ?_
      refine ka_get (ci := 3) (C := RX) (T := TX) (N := 10) hx hb hts inX hown hK hP (q := 18) hX.1 rfl 0 (by decide) (hts _ tw_99) (fun _ h9 => h9) rfl dX_net_49 ?_
      refine lv_idiv hx hb dX_net_52 (nI_ne0 (by omega) (by omega)) ?_
      refine lv_iload_n hx hb dX_net_53 rfl (lv_at hl 0 rfl) ?_
      refine lv_aload_n hx hb dX_net_54 rfl (lv_at hl 1 rfl) ?_
      refine ka_get (ci := 3) (C := RX) (T := TX) (N := 10) hx hb hts inX hown hK hP (q := 18) hX.1 rfl 0 (by decide) (hts _ tw_99) (fun _ h9 => h9) rfl dX_net_55 ?_
      refine lv_irem hx hb dX_net_58 (nI_ne0 (by omega) (by omega)) ?_
      refine lv_aload_n hx hb dX_net_59 rfl (lv_at hl 1 rfl) ?_
      refine ka_get (ci := 3) (C := RX) (T := TX) (N := 10) hx hb hts inX hown hK hP (q := 18) hX.1 rfl 4 (by decide) (hts _ tw_103) (fun _ h9 => h9) rfl dX_net_60 ?_
      refine vp_callSl (W.runV (C := RG) (As := [.int ((pos - (nI (x.1 0 * x.1 1))) / (nI (x.1 0))), .int ((pos - (nI (x.1 0 * x.1 1))) - (pos - (nI (x.1 0 * x.1 1))) / (nI (x.1 0)) * (nI (x.1 0))), .int (x.2.1)]) (rest := []) ⟨hx, hb, hml, hown, hts⟩ (c_G_paidFrom l D cI cL cQ d κ x hX hB _ ((pos - (nI (x.1 0 * x.1 1))) / (nI (x.1 0))) ((pos - (nI (x.1 0 * x.1 1))) - (pos - (nI (x.1 0 * x.1 1))) / (nI (x.1 0)) * (nI (x.1 0))) x.2.1) (cwV 3 hts (k_gV tw_313 tw_314 tw_315 tw_40 tw_316) rfl rfl rfl (by decide +kernel) ⟨Nat.le_of_ble_eq_true rfl, Nat.le_of_ble_eq_true rfl⟩) (kPreV hP hK (q := 27) hX.2.2.2.2.2.2.2.2.2.1 rfl) rfl rfl hl.1 rfl (lv_room (Nat.le_of_ble_eq_true rfl)) dX_net_63 ⟨Nat.le_of_ble_eq_true rfl, Nat.le_of_ble_eq_true rfl⟩) (fun r_63 e_63 => ?_)
      subst e_63
      refine lv_lneg hx hb dX_net_66 ?_
      exact W.lret (v := -(f_G_paidFrom x ((pos - (nI (x.1 0 * x.1 1))) / (nI (x.1 0))) ((pos - (nI (x.1 0 * x.1 1))) - (pos - (nI (x.1 0 * x.1 1))) / (nI (x.1 0)) * (nI (x.1 0))) x.2.1)) hx hb hr (fun t ht hW => ⟨_, rfl, by rw [f_X_net, if_neg c_5, if_pos c_15], ht⟩) (fun q h => by cases h) dX_net_67
    · refine lv_aload_n hx hb dX_net_18 rfl (lv_at hl 0 rfl) ?_
      refine ka_get (ci := 3) (C := RX) (T := TX) (N := 10) hx hb hts inX hown hK hP (q := 18) hX.1 rfl 9 (by decide) (hts _ tw_108) (fun _ h9 => h9) rfl dX_net_19 ?_
      refine lv_aload_n hx hb dX_net_22 rfl (lv_at hl 0 rfl) ?_
      refine lv_iload_n hx hb dX_net_23 rfl (lv_at hl 1 rfl) ?_
      refine vp_callSi (W.runV (C := RX) (As := [.int (pos)]) (rest := [.ref (d 27)]) ⟨hx, hb, hml, hown, hts⟩ (c_X_ownerOf l D cI cL cQ d κ x hX hB _ pos) (cwV 1 hts (k_gV tw_358 tw_360 tw_21 tw_38 tw_361) rfl rfl rfl (by decide +kernel) ⟨Nat.le_of_ble_eq_true rfl, Nat.le_of_ble_eq_true rfl⟩) (kPreV hP hK (q := 18) hX.1 rfl) rfl rfl hl.1 rfl (lv_room (Nat.le_of_ble_eq_true rfl)) dX_net_24 ⟨Nat.le_of_ble_eq_true rfl, Nat.le_of_ble_eq_true rfl⟩) (fun r_24 e_24 => ?_)
      subst e_24
      refine lv_aload_n hx hb dX_net_27 rfl (lv_at hl 0 rfl) ?_
      refine lv_iload_n hx hb dX_net_28 rfl (lv_at hl 1 rfl) ?_
      refine vp_callSi (W.runV (C := RX) (As := [.int (pos)]) (rest := [.int (f_X_ownerOf x pos), .ref (d 27)]) ⟨hx, hb, hml, hown, hts⟩ (c_X_assetOf l D cI cL cQ d κ x hX hB _ pos) (cwV 1 hts (k_gV tw_354 tw_356 tw_20 tw_38 tw_357) rfl rfl rfl (by decide +kernel) ⟨Nat.le_of_ble_eq_true rfl, Nat.le_of_ble_eq_true rfl⟩) (kPreV hP hK (q := 18) hX.1 rfl) rfl rfl hl.1 rfl (lv_room (Nat.le_of_ble_eq_true rfl)) dX_net_29 ⟨Nat.le_of_ble_eq_true rfl, Nat.le_of_ble_eq_true rfl⟩) (fun r_29 e_29 => ?_)
      subst e_29
      refine vp_callSl (W.runV (C := RG) (As := [.int (f_X_ownerOf x pos), .int (f_X_assetOf x pos)]) (rest := []) ⟨hx, hb, hml, hown, hts⟩ (c_G_netOf l D cI cL cQ d κ x hX hB _ (f_X_ownerOf x pos) (f_X_assetOf x pos)) (cwV 2 hts (k_gV tw_305 tw_306 tw_307 tw_40 tw_308) rfl rfl rfl (by decide +kernel) ⟨Nat.le_of_ble_eq_true rfl, Nat.le_of_ble_eq_true rfl⟩) (kPreV hP hK (q := 27) hX.2.2.2.2.2.2.2.2.2.1 rfl) rfl rfl hl.1 rfl (lv_room (Nat.le_of_ble_eq_true rfl)) dX_net_32 ⟨Nat.le_of_ble_eq_true rfl, Nat.le_of_ble_eq_true rfl⟩) (fun r_32 e_32 => ?_)
      subst e_32
      exact W.lret (v := f_G_netOf x (f_X_ownerOf x pos) (f_X_assetOf x pos)) hx hb hr (fun t ht hW => ⟨_, rfl, by rw [f_X_net, if_neg c_5, if_neg c_15], ht⟩) (fun q h => by cases h) dX_net_35
  · refine lv_lconst (v := 0) hx hb dX_net_8 (by decide) ?_
    exact W.lret (v := 0) hx hb hr (fun t ht hW => ⟨_, rfl, by rw [f_X_net, if_pos c_5], ht⟩) (fun q h => by cases h) dX_net_9

theorem dX_value_0 : decode prog_1_method_17_code 0 = .ok (.aload_n 0, 1) := by decide +kernel
theorem dX_value_1 : decode prog_1_method_17_code 1 = .ok (.iload_n 1, 1) := by decide +kernel
theorem dX_value_2 : decode prog_1_method_17_code 2 = .ok (.invokevirtual 164, 3) := by decide +kernel
theorem dX_value_5 : decode prog_1_method_17_code 5 = .ok (.ifCond .ne 26, 3) := by decide +kernel
theorem dX_value_8 : decode prog_1_method_17_code 8 = .ok (.aload_n 0, 1) := by decide +kernel
theorem dX_value_9 : decode prog_1_method_17_code 9 = .ok (.iload_n 1, 1) := by decide +kernel
theorem dX_value_10 : decode prog_1_method_17_code 10 = .ok (.invokevirtual 161, 3) := by decide +kernel
theorem dX_value_13 : decode prog_1_method_17_code 13 = .ok (.ifCond .eq 16, 3) := by decide +kernel
theorem dX_value_16 : decode prog_1_method_17_code 16 = .ok (.aload_n 0, 1) := by decide +kernel
theorem dX_value_17 : decode prog_1_method_17_code 17 = .ok (.iload_n 1, 1) := by decide +kernel
theorem dX_value_18 : decode prog_1_method_17_code 18 = .ok (.aload_n 0, 1) := by decide +kernel
theorem dX_value_19 : decode prog_1_method_17_code 19 = .ok (.getfield 19, 3) := by decide +kernel
theorem dX_value_22 : decode prog_1_method_17_code 22 = .ok (.isub, 1) := by decide +kernel
theorem dX_value_23 : decode prog_1_method_17_code 23 = .ok (.invokevirtual 180, 3) := by decide +kernel
theorem dX_value_26 : decode prog_1_method_17_code 26 = .ok (.goto 4, 3) := by decide +kernel
theorem dX_value_29 : decode prog_1_method_17_code 29 = .ok (.lconst 0, 1) := by decide +kernel
theorem dX_value_30 : decode prog_1_method_17_code 30 = .ok (.lreturn, 1) := by decide +kernel
theorem dX_value_31 : decode prog_1_method_17_code 31 = .ok (.aload_n 0, 1) := by decide +kernel
theorem dX_value_32 : decode prog_1_method_17_code 32 = .ok (.aload_n 0, 1) := by decide +kernel
theorem dX_value_33 : decode prog_1_method_17_code 33 = .ok (.iload_n 1, 1) := by decide +kernel
theorem dX_value_34 : decode prog_1_method_17_code 34 = .ok (.invokevirtual 171, 3) := by decide +kernel
theorem dX_value_37 : decode prog_1_method_17_code 37 = .ok (.invokevirtual 79, 3) := by decide +kernel
theorem dX_value_40 : decode prog_1_method_17_code 40 = .ok (.astore_n 2, 1) := by decide +kernel
theorem dX_value_41 : decode prog_1_method_17_code 41 = .ok (.aload_n 2, 1) := by decide +kernel
theorem dX_value_42 : decode prog_1_method_17_code 42 = .ok (.ifnonnull 7, 3) := by decide +kernel
theorem dX_value_45 : decode prog_1_method_17_code 45 = .ok (.lconst 0, 1) := by decide +kernel
theorem dX_value_46 : decode prog_1_method_17_code 46 = .ok (.goto 13, 3) := by decide +kernel
theorem dX_value_49 : decode prog_1_method_17_code 49 = .ok (.aload_n 2, 1) := by decide +kernel
theorem dX_value_50 : decode prog_1_method_17_code 50 = .ok (.getfield 90, 3) := by decide +kernel
theorem dX_value_53 : decode prog_1_method_17_code 53 = .ok (.aload_n 0, 1) := by decide +kernel
theorem dX_value_54 : decode prog_1_method_17_code 54 = .ok (.iload_n 1, 1) := by decide +kernel
theorem dX_value_55 : decode prog_1_method_17_code 55 = .ok (.invokevirtual 167, 3) := by decide +kernel
theorem dX_value_58 : decode prog_1_method_17_code 58 = .ok (.laload, 1) := by decide +kernel
theorem dX_value_59 : decode prog_1_method_17_code 59 = .ok (.lreturn, 1) := by decide +kernel
def f_X_value (x : XS) (pos : Int32) : Int64 := if (f_X_isPosition x pos) = 0 then (if (f_X_isThere x pos) = 0 then 0 else (f_X_roomOf x (pos - (nI (x.1 0 * x.1 1))))) else (if xIs x (f_X_assetOf x pos) then ((xH x ((f_X_assetOf x pos).toNatClampNeg)) (f_X_ownerOf x pos).toNatClampNeg) else 0)
set_option maxHeartbeats 4000000 in
set_option maxRecDepth 100000 in
theorem c_X_value (l : Launch) (D : va_G) (cI cL cQ : ClassId) (d : Nat → Nat) (κ : Nat → Option va_E) (x : XS) (hX : IsX cI cL cQ d κ x) (hB : XB x) (sz : Nat) (pos : Int32)  : Met l yX_value wX_value { frames := 4, cells := 0, slots := 0, locals := 87 } (va_Pc [.ref (d 18), .int (pos)] (kC D vCl (kT cI cL cQ) d κ sz)) (vp_Sl (fun r => r = f_X_value x pos)) 0 0 (fun _ => False) := by
  refine kMet (by decide) (Nat.le_of_ble_eq_true rfl) ?_
  intro p0 e0 s0 m0 below0 meth0 c0 hx hb hr hml hown hlocks hin hts hsz hP hK ls hl
  have hl : lv_has ls 3 [(0, .ref (d 18)), (1, .int (pos))] := hl
  have hB9 := hB
  obtain ⟨hb0, hb1, hb2, hb3, hb4, hb5, hb6, hb7, hb8⟩ := hB9
  refine lv_aload_n hx hb dX_value_0 rfl (lv_at hl 0 rfl) ?_
  refine lv_iload_n hx hb dX_value_1 rfl (lv_at hl 1 rfl) ?_
  refine vp_callSi (W.runV (C := RX) (As := [.int (pos)]) (rest := []) ⟨hx, hb, hml, hown, hts⟩ (c_X_isPosition l D cI cL cQ d κ x hX hB _ pos) (cwV 1 hts (k_gV tw_350 tw_352 tw_19 tw_38 tw_353) rfl rfl rfl (by decide +kernel) ⟨Nat.le_of_ble_eq_true rfl, Nat.le_of_ble_eq_true rfl⟩) (kPreV hP hK (q := 18) hX.1 rfl) rfl rfl hl.1 rfl (lv_room (Nat.le_of_ble_eq_true rfl)) dX_value_2 ⟨Nat.le_of_ble_eq_true rfl, Nat.le_of_ble_eq_true rfl⟩) (fun r_2 e_2 => ?_)
  subst e_2
  refine lv_if_ne (tgt := 31) hx hb dX_value_5 (by decide) (fun c_5 => ?_) (fun c_5 => ?_)
  · refine lv_aload_n hx hb dX_value_31 rfl (lv_at hl 0 rfl) ?_
    refine lv_aload_n hx hb dX_value_32 rfl (lv_at hl 0 rfl) ?_
    refine lv_iload_n hx hb dX_value_33 rfl (lv_at hl 1 rfl) ?_
    refine vp_callSi (W.runV (C := RX) (As := [.int (pos)]) (rest := [.ref (d 18)]) ⟨hx, hb, hml, hown, hts⟩ (c_X_assetOf l D cI cL cQ d κ x hX hB _ pos) (cwV 1 hts (k_gV tw_354 tw_356 tw_20 tw_38 tw_357) rfl rfl rfl (by decide +kernel) ⟨Nat.le_of_ble_eq_true rfl, Nat.le_of_ble_eq_true rfl⟩) (kPreV hP hK (q := 18) hX.1 rfl) rfl rfl hl.1 rfl (lv_room (Nat.le_of_ble_eq_true rfl)) dX_value_34 ⟨Nat.le_of_ble_eq_true rfl, Nat.le_of_ble_eq_true rfl⟩) (fun r_34 e_34 => ?_)
    subst e_34
    refine va_csq (W.runV (C := RX) (As := [.int (f_X_assetOf x pos)]) (rest := []) ⟨hx, hb, hml, hown, hts⟩ (c_X_assetAt l D cI cL cQ d κ x hX hB _ (f_X_assetOf x pos)) (cwV 1 hts (k_gV tw_179 tw_181 tw_2 tw_38 tw_182) rfl rfl rfl (by decide +kernel) ⟨Nat.le_of_ble_eq_true rfl, Nat.le_of_ble_eq_true rfl⟩) (kPreV hP hK (q := 18) hX.1 rfl) rfl rfl hl.1 rfl (lv_room (Nat.le_of_ble_eq_true rfl)) dX_value_37 ⟨Nat.le_of_ble_eq_true rfl, Nat.le_of_ble_eq_true rfl⟩) (fun r_37 e_37 => ?_)
    subst e_37
    by_cases hA_37 : xIs x (f_X_assetOf x pos)
    · rw [if_pos hA_37]
      have hi_37 : (f_X_assetOf x pos).toNatClampNeg < x.1 2 := (xIs_in hB hA_37).2
      refine lv_astore_n (lv' := [(2, .ref (d (32 + 3 * (f_X_assetOf x pos).toNatClampNeg))), (0, .ref (d 18)), (1, .int (pos))]) hx hb dX_value_40 rfl hl (by decide) rfl (fun ls hl => ?_)
      refine lv_aload_n hx hb dX_value_41 rfl (lv_at hl 0 rfl) ?_
      refine lv_ifnonnull (tgt := 49) hx hb dX_value_42 (by decide) ?_
      refine lv_aload_n hx hb dX_value_49 rfl (lv_at hl 0 rfl) ?_
      refine ka_get (ci := 0) (C := RA) (T := TA) (N := 4) hx hb hts inA hown hK hP (q := (32 + 3 * (f_X_assetOf x pos).toNatClampNeg)) (hX.2.2.2.2.2.2.2.2.2.2.2.2.2.2.1 ((f_X_assetOf x pos).toNatClampNeg) hi_37).1 rfl 1 (by decide) (hts _ tw_146) (fun _ h9 => h9) rfl dX_value_50 ?_
      refine lv_aload_n hx hb dX_value_53 rfl (lv_at hl 1 rfl) ?_
      refine lv_iload_n hx hb dX_value_54 rfl (lv_at hl 2 rfl) ?_
      refine vp_callSi (W.runV (C := RX) (As := [.int (pos)]) (rest := [.ref (d (33 + 3 * (f_X_assetOf x pos).toNatClampNeg))]) ⟨hx, hb, hml, hown, hts⟩ (c_X_ownerOf l D cI cL cQ d κ x hX hB _ pos) (cwV 1 hts (k_gV tw_358 tw_360 tw_21 tw_38 tw_361) rfl rfl rfl (by decide +kernel) ⟨Nat.le_of_ble_eq_true rfl, Nat.le_of_ble_eq_true rfl⟩) (kPreV hP hK (q := 18) hX.1 rfl) rfl rfl hl.1 rfl (lv_room (Nat.le_of_ble_eq_true rfl)) dX_value_55 ⟨Nat.le_of_ble_eq_true rfl, Nat.le_of_ble_eq_true rfl⟩) (fun r_55 e_55 => ?_)
      subst e_55
      refine ka_lald hx hb hK hP 1 (q := (33 + 3 * (f_X_assetOf x pos).toNatClampNeg)) (hX.2.2.2.2.2.2.2.2.2.2.2.2.2.2.1 ((f_X_assetOf x pos).toNatClampNeg) hi_37).2.1 rfl (owner_in hB (by assumption)) dX_value_58 ?_
      exact W.lret (v := (xH x ((f_X_assetOf x pos).toNatClampNeg)) (f_X_ownerOf x pos).toNatClampNeg) hx hb hr (fun t ht hW => ⟨_, rfl, by rw [f_X_value, if_neg c_5, if_pos hA_37], ht⟩) (fun q h => by cases h) dX_value_59
    · rw [if_neg hA_37]
      refine lv_astore_nN (lv' := [(2, .null), (0, .ref (d 18)), (1, .int (pos))]) hx hb dX_value_40 rfl hl (by decide) rfl (fun ls hl => ?_)
      refine lv_aload_nN hx hb dX_value_41 rfl (lv_at hl 0 rfl) ?_
      refine lv_ifnonnullN hx hb dX_value_42 ?_
      refine lv_lconst (v := 0) hx hb dX_value_45 (by decide) ?_
      refine lv_goto (tgt := 59) hx hb dX_value_46 (by decide) ?_
      exact W.lret (v := 0) hx hb hr (fun t ht hW => ⟨_, rfl, by rw [f_X_value, if_neg c_5, if_neg hA_37], ht⟩) (fun q h => by cases h) dX_value_59
  · refine lv_aload_n hx hb dX_value_8 rfl (lv_at hl 0 rfl) ?_
    refine lv_iload_n hx hb dX_value_9 rfl (lv_at hl 1 rfl) ?_
    refine vp_callSi (W.runV (C := RX) (As := [.int (pos)]) (rest := []) ⟨hx, hb, hml, hown, hts⟩ (c_X_isThere l D cI cL cQ d κ x hX hB _ pos) (cwV 1 hts (k_gV tw_346 tw_347 tw_348 tw_38 tw_349) rfl rfl rfl (by decide +kernel) ⟨Nat.le_of_ble_eq_true rfl, Nat.le_of_ble_eq_true rfl⟩) (kPreV hP hK (q := 18) hX.1 rfl) rfl rfl hl.1 rfl (lv_room (Nat.le_of_ble_eq_true rfl)) dX_value_10 ⟨Nat.le_of_ble_eq_true rfl, Nat.le_of_ble_eq_true rfl⟩) (fun r_10 e_10 => ?_)
    subst e_10
    refine lv_if_eq (tgt := 29) hx hb dX_value_13 (by decide) (fun c_13 => ?_) (fun c_13 => ?_)
    · refine lv_lconst (v := 0) hx hb dX_value_29 (by decide) ?_
      exact W.lret (v := 0) hx hb hr (fun t ht hW => ⟨_, rfl, by rw [f_X_value, if_pos c_5, if_pos c_13], ht⟩) (fun q h => by cases h) dX_value_30
    · refine lv_aload_n hx hb dX_value_16 rfl (lv_at hl 0 rfl) ?_
      refine lv_iload_n hx hb dX_value_17 rfl (lv_at hl 1 rfl) ?_
      refine lv_aload_n hx hb dX_value_18 rfl (lv_at hl 0 rfl) ?_
      refine ka_get (ci := 3) (C := RX) (T := TX) (N := 10) hx hb hts inX hown hK hP (q := 18) hX.1 rfl 1 (by decide) (hts _ tw_100) (fun _ h9 => h9) rfl dX_value_19 ?_
      refine lv_isub hx hb dX_value_22 ?_
      refine vp_callSl (W.runV (C := RX) (As := [.int (pos - (nI (x.1 0 * x.1 1)))]) (rest := []) ⟨hx, hb, hml, hown, hts⟩ (c_X_roomOf l D cI cL cQ d κ x hX hB _ (pos - (nI (x.1 0 * x.1 1)))) (cwV 1 hts (k_gV tw_321 tw_323 tw_16 tw_38 tw_324) rfl rfl rfl (by decide +kernel) ⟨Nat.le_of_ble_eq_true rfl, Nat.le_of_ble_eq_true rfl⟩) (kPreV hP hK (q := 18) hX.1 rfl) rfl rfl hl.1 rfl (lv_room (Nat.le_of_ble_eq_true rfl)) dX_value_23 ⟨Nat.le_of_ble_eq_true rfl, Nat.le_of_ble_eq_true rfl⟩) (fun r_23 e_23 => ?_)
      subst e_23
      refine lv_goto (tgt := 30) hx hb dX_value_26 (by decide) ?_
      exact W.lret (v := f_X_roomOf x (pos - (nI (x.1 0 * x.1 1)))) hx hb hr (fun t ht hW => ⟨_, rfl, by rw [f_X_value, if_pos c_5, if_neg c_13], ht⟩) (fun q h => by cases h) dX_value_30

theorem dX_floor_0 : decode prog_1_method_18_code 0 = .ok (.aload_n 0, 1) := by decide +kernel
theorem dX_floor_1 : decode prog_1_method_18_code 1 = .ok (.iload_n 1, 1) := by decide +kernel
theorem dX_floor_2 : decode prog_1_method_18_code 2 = .ok (.invokevirtual 164, 3) := by decide +kernel
theorem dX_floor_5 : decode prog_1_method_18_code 5 = .ok (.ifCond .ne 5, 3) := by decide +kernel
theorem dX_floor_8 : decode prog_1_method_18_code 8 = .ok (.lconst 0, 1) := by decide +kernel
theorem dX_floor_9 : decode prog_1_method_18_code 9 = .ok (.lreturn, 1) := by decide +kernel
theorem dX_floor_10 : decode prog_1_method_18_code 10 = .ok (.aload_n 0, 1) := by decide +kernel
theorem dX_floor_11 : decode prog_1_method_18_code 11 = .ok (.aload_n 0, 1) := by decide +kernel
theorem dX_floor_12 : decode prog_1_method_18_code 12 = .ok (.iload_n 1, 1) := by decide +kernel
theorem dX_floor_13 : decode prog_1_method_18_code 13 = .ok (.invokevirtual 171, 3) := by decide +kernel
theorem dX_floor_16 : decode prog_1_method_18_code 16 = .ok (.invokevirtual 79, 3) := by decide +kernel
theorem dX_floor_19 : decode prog_1_method_18_code 19 = .ok (.astore_n 2, 1) := by decide +kernel
theorem dX_floor_20 : decode prog_1_method_18_code 20 = .ok (.aload_n 2, 1) := by decide +kernel
theorem dX_floor_21 : decode prog_1_method_18_code 21 = .ok (.ifnonnull 7, 3) := by decide +kernel
theorem dX_floor_24 : decode prog_1_method_18_code 24 = .ok (.lconst 0, 1) := by decide +kernel
theorem dX_floor_25 : decode prog_1_method_18_code 25 = .ok (.goto 13, 3) := by decide +kernel
theorem dX_floor_28 : decode prog_1_method_18_code 28 = .ok (.aload_n 0, 1) := by decide +kernel
theorem dX_floor_29 : decode prog_1_method_18_code 29 = .ok (.aload_n 2, 1) := by decide +kernel
theorem dX_floor_30 : decode prog_1_method_18_code 30 = .ok (.aload_n 0, 1) := by decide +kernel
theorem dX_floor_31 : decode prog_1_method_18_code 31 = .ok (.iload_n 1, 1) := by decide +kernel
theorem dX_floor_32 : decode prog_1_method_18_code 32 = .ok (.invokevirtual 167, 3) := by decide +kernel
theorem dX_floor_35 : decode prog_1_method_18_code 35 = .ok (.invokevirtual 99, 3) := by decide +kernel
theorem dX_floor_38 : decode prog_1_method_18_code 38 = .ok (.lreturn, 1) := by decide +kernel
def f_X_floor (x : XS) (pos : Int32) : Int64 := if (f_X_isPosition x pos) = 0 then 0 else (if xIs x (f_X_assetOf x pos) then (f_X_lowest x ((f_X_assetOf x pos).toNatClampNeg) (f_X_ownerOf x pos)) else 0)
set_option maxHeartbeats 4000000 in
set_option maxRecDepth 100000 in
theorem c_X_floor (l : Launch) (D : va_G) (cI cL cQ : ClassId) (d : Nat → Nat) (κ : Nat → Option va_E) (x : XS) (hX : IsX cI cL cQ d κ x) (hB : XB x) (sz : Nat) (pos : Int32)  : Met l yX_floor wX_floor { frames := 2, cells := 0, slots := 0, locals := 43 } (va_Pc [.ref (d 18), .int (pos)] (kC D vCl (kT cI cL cQ) d κ sz)) (vp_Sl (fun r => r = f_X_floor x pos)) 0 0 (fun _ => False) := by
  refine kMet (by decide) (Nat.le_of_ble_eq_true rfl) ?_
  intro p0 e0 s0 m0 below0 meth0 c0 hx hb hr hml hown hlocks hin hts hsz hP hK ls hl
  have hl : lv_has ls 3 [(0, .ref (d 18)), (1, .int (pos))] := hl
  have hB9 := hB
  obtain ⟨hb0, hb1, hb2, hb3, hb4, hb5, hb6, hb7, hb8⟩ := hB9
  refine lv_aload_n hx hb dX_floor_0 rfl (lv_at hl 0 rfl) ?_
  refine lv_iload_n hx hb dX_floor_1 rfl (lv_at hl 1 rfl) ?_
  refine vp_callSi (W.runV (C := RX) (As := [.int (pos)]) (rest := []) ⟨hx, hb, hml, hown, hts⟩ (c_X_isPosition l D cI cL cQ d κ x hX hB _ pos) (cwV 1 hts (k_gV tw_350 tw_352 tw_19 tw_38 tw_353) rfl rfl rfl (by decide +kernel) ⟨Nat.le_of_ble_eq_true rfl, Nat.le_of_ble_eq_true rfl⟩) (kPreV hP hK (q := 18) hX.1 rfl) rfl rfl hl.1 rfl (lv_room (Nat.le_of_ble_eq_true rfl)) dX_floor_2 ⟨Nat.le_of_ble_eq_true rfl, Nat.le_of_ble_eq_true rfl⟩) (fun r_2 e_2 => ?_)
  subst e_2
  refine lv_if_ne (tgt := 10) hx hb dX_floor_5 (by decide) (fun c_5 => ?_) (fun c_5 => ?_)
  · refine lv_aload_n hx hb dX_floor_10 rfl (lv_at hl 0 rfl) ?_
    refine lv_aload_n hx hb dX_floor_11 rfl (lv_at hl 0 rfl) ?_
    refine lv_iload_n hx hb dX_floor_12 rfl (lv_at hl 1 rfl) ?_
    refine vp_callSi (W.runV (C := RX) (As := [.int (pos)]) (rest := [.ref (d 18)]) ⟨hx, hb, hml, hown, hts⟩ (c_X_assetOf l D cI cL cQ d κ x hX hB _ pos) (cwV 1 hts (k_gV tw_354 tw_356 tw_20 tw_38 tw_357) rfl rfl rfl (by decide +kernel) ⟨Nat.le_of_ble_eq_true rfl, Nat.le_of_ble_eq_true rfl⟩) (kPreV hP hK (q := 18) hX.1 rfl) rfl rfl hl.1 rfl (lv_room (Nat.le_of_ble_eq_true rfl)) dX_floor_13 ⟨Nat.le_of_ble_eq_true rfl, Nat.le_of_ble_eq_true rfl⟩) (fun r_13 e_13 => ?_)
    subst e_13
    refine va_csq (W.runV (C := RX) (As := [.int (f_X_assetOf x pos)]) (rest := []) ⟨hx, hb, hml, hown, hts⟩ (c_X_assetAt l D cI cL cQ d κ x hX hB _ (f_X_assetOf x pos)) (cwV 1 hts (k_gV tw_179 tw_181 tw_2 tw_38 tw_182) rfl rfl rfl (by decide +kernel) ⟨Nat.le_of_ble_eq_true rfl, Nat.le_of_ble_eq_true rfl⟩) (kPreV hP hK (q := 18) hX.1 rfl) rfl rfl hl.1 rfl (lv_room (Nat.le_of_ble_eq_true rfl)) dX_floor_16 ⟨Nat.le_of_ble_eq_true rfl, Nat.le_of_ble_eq_true rfl⟩) (fun r_16 e_16 => ?_)
    subst e_16
    by_cases hA_16 : xIs x (f_X_assetOf x pos)
    · rw [if_pos hA_16]
      have hi_16 : (f_X_assetOf x pos).toNatClampNeg < x.1 2 := (xIs_in hB hA_16).2
      refine lv_astore_n (lv' := [(2, .ref (d (32 + 3 * (f_X_assetOf x pos).toNatClampNeg))), (0, .ref (d 18)), (1, .int (pos))]) hx hb dX_floor_19 rfl hl (by decide) rfl (fun ls hl => ?_)
      refine lv_aload_n hx hb dX_floor_20 rfl (lv_at hl 0 rfl) ?_
      refine lv_ifnonnull (tgt := 28) hx hb dX_floor_21 (by decide) ?_
      refine lv_aload_n hx hb dX_floor_28 rfl (lv_at hl 1 rfl) ?_
      refine lv_aload_n hx hb dX_floor_29 rfl (lv_at hl 0 rfl) ?_
      refine lv_aload_n hx hb dX_floor_30 rfl (lv_at hl 1 rfl) ?_
      refine lv_iload_n hx hb dX_floor_31 rfl (lv_at hl 2 rfl) ?_
      refine vp_callSi (W.runV (C := RX) (As := [.int (pos)]) (rest := [.ref (d (32 + 3 * (f_X_assetOf x pos).toNatClampNeg)), .ref (d 18)]) ⟨hx, hb, hml, hown, hts⟩ (c_X_ownerOf l D cI cL cQ d κ x hX hB _ pos) (cwV 1 hts (k_gV tw_358 tw_360 tw_21 tw_38 tw_361) rfl rfl rfl (by decide +kernel) ⟨Nat.le_of_ble_eq_true rfl, Nat.le_of_ble_eq_true rfl⟩) (kPreV hP hK (q := 18) hX.1 rfl) rfl rfl hl.1 rfl (lv_room (Nat.le_of_ble_eq_true rfl)) dX_floor_32 ⟨Nat.le_of_ble_eq_true rfl, Nat.le_of_ble_eq_true rfl⟩) (fun r_32 e_32 => ?_)
      subst e_32
      refine vp_callSl (W.runV (C := RX) (As := [.ref (d (32 + 3 * (f_X_assetOf x pos).toNatClampNeg)), .int (f_X_ownerOf x pos)]) (rest := []) ⟨hx, hb, hml, hown, hts⟩ (c_X_lowest l D cI cL cQ d κ x hX hB _ ((f_X_assetOf x pos).toNatClampNeg) hi_16 (f_X_ownerOf x pos) (owner_in hB (by assumption))) (cwV 2 hts (k_gV tw_228 tw_230 tw_8 tw_38 tw_231) rfl rfl rfl (by decide +kernel) ⟨Nat.le_of_ble_eq_true rfl, Nat.le_of_ble_eq_true rfl⟩) (kPreV hP hK (q := 18) hX.1 rfl) rfl rfl hl.1 rfl (lv_room (Nat.le_of_ble_eq_true rfl)) dX_floor_35 ⟨Nat.le_of_ble_eq_true rfl, Nat.le_of_ble_eq_true rfl⟩) (fun r_35 e_35 => ?_)
      subst e_35
      exact W.lret (v := f_X_lowest x ((f_X_assetOf x pos).toNatClampNeg) (f_X_ownerOf x pos)) hx hb hr (fun t ht hW => ⟨_, rfl, by rw [f_X_floor, if_neg c_5, if_pos hA_16], ht⟩) (fun q h => by cases h) dX_floor_38
    · rw [if_neg hA_16]
      refine lv_astore_nN (lv' := [(2, .null), (0, .ref (d 18)), (1, .int (pos))]) hx hb dX_floor_19 rfl hl (by decide) rfl (fun ls hl => ?_)
      refine lv_aload_nN hx hb dX_floor_20 rfl (lv_at hl 0 rfl) ?_
      refine lv_ifnonnullN hx hb dX_floor_21 ?_
      refine lv_lconst (v := 0) hx hb dX_floor_24 (by decide) ?_
      refine lv_goto (tgt := 38) hx hb dX_floor_25 (by decide) ?_
      exact W.lret (v := 0) hx hb hr (fun t ht hW => ⟨_, rfl, by rw [f_X_floor, if_neg c_5, if_neg hA_16], ht⟩) (fun q h => by cases h) dX_floor_38
  · refine lv_lconst (v := 0) hx hb dX_floor_8 (by decide) ?_
    exact W.lret (v := 0) hx hb hr (fun t ht hW => ⟨_, rfl, by rw [f_X_floor, if_pos c_5], ht⟩) (fun q h => by cases h) dX_floor_9

theorem dX_credit_0 : decode prog_1_method_20_code 0 = .ok (.aload_n 0, 1) := by decide +kernel
theorem dX_credit_1 : decode prog_1_method_20_code 1 = .ok (.iload_n 1, 1) := by decide +kernel
theorem dX_credit_2 : decode prog_1_method_20_code 2 = .ok (.invokevirtual 82, 3) := by decide +kernel
theorem dX_credit_5 : decode prog_1_method_20_code 5 = .ok (.ifCond .eq 12, 3) := by decide +kernel
theorem dX_credit_8 : decode prog_1_method_20_code 8 = .ok (.aload_n 0, 1) := by decide +kernel
theorem dX_credit_9 : decode prog_1_method_20_code 9 = .ok (.getfield 28, 3) := by decide +kernel
theorem dX_credit_12 : decode prog_1_method_20_code 12 = .ok (.iload_n 1, 1) := by decide +kernel
theorem dX_credit_13 : decode prog_1_method_20_code 13 = .ok (.laload, 1) := by decide +kernel
theorem dX_credit_14 : decode prog_1_method_20_code 14 = .ok (.goto 4, 3) := by decide +kernel
theorem dX_credit_17 : decode prog_1_method_20_code 17 = .ok (.lconst 0, 1) := by decide +kernel
theorem dX_credit_18 : decode prog_1_method_20_code 18 = .ok (.lreturn, 1) := by decide +kernel
def f_X_credit (x : XS) (p : Int32) : Int64 := if (f_X_isClient x p) = 0 then 0 else ((x.2.2.2.2.1 0) (p).toNatClampNeg)
set_option maxHeartbeats 4000000 in
set_option maxRecDepth 100000 in
theorem c_X_credit (l : Launch) (D : va_G) (cI cL cQ : ClassId) (d : Nat → Nat) (κ : Nat → Option va_E) (x : XS) (hX : IsX cI cL cQ d κ x) (hB : XB x) (sz : Nat) (p : Int32)  : Met l yX_credit wX_credit { frames := 1, cells := 0, slots := 0, locals := 21 } (va_Pc [.ref (d 18), .int (p)] (kC D vCl (kT cI cL cQ) d κ sz)) (vp_Sl (fun r => r = f_X_credit x p)) 0 0 (fun _ => False) := by
  refine kMet (by decide) (Nat.le_of_ble_eq_true rfl) ?_
  intro p0 e0 s0 m0 below0 meth0 c0 hx hb hr hml hown hlocks hin hts hsz hP hK ls hl
  have hl : lv_has ls 2 [(0, .ref (d 18)), (1, .int (p))] := hl
  have hB9 := hB
  obtain ⟨hb0, hb1, hb2, hb3, hb4, hb5, hb6, hb7, hb8⟩ := hB9
  refine lv_aload_n hx hb dX_credit_0 rfl (lv_at hl 0 rfl) ?_
  refine lv_iload_n hx hb dX_credit_1 rfl (lv_at hl 1 rfl) ?_
  refine vp_callSi (W.runV (C := RX) (As := [.int (p)]) (rest := []) ⟨hx, hb, hml, hown, hts⟩ (c_X_isClient l D cI cL cQ d κ x hX hB _ p) (cwV 1 hts (k_gV tw_212 tw_214 tw_7 tw_38 tw_215) rfl rfl rfl (by decide +kernel) ⟨Nat.le_of_ble_eq_true rfl, Nat.le_of_ble_eq_true rfl⟩) (kPreV hP hK (q := 18) hX.1 rfl) rfl rfl hl.1 rfl (lv_room (Nat.le_of_ble_eq_true rfl)) dX_credit_2 ⟨Nat.le_of_ble_eq_true rfl, Nat.le_of_ble_eq_true rfl⟩) (fun r_2 e_2 => ?_)
  subst e_2
  refine lv_if_eq (tgt := 17) hx hb dX_credit_5 (by decide) (fun c_5 => ?_) (fun c_5 => ?_)
  · refine lv_lconst (v := 0) hx hb dX_credit_17 (by decide) ?_
    exact W.lret (v := 0) hx hb hr (fun t ht hW => ⟨_, rfl, by rw [f_X_credit, if_pos c_5], ht⟩) (fun q h => by cases h) dX_credit_18
  · refine lv_aload_n hx hb dX_credit_8 rfl (lv_at hl 0 rfl) ?_
    refine ka_get (ci := 3) (C := RX) (T := TX) (N := 10) hx hb hts inX hown hK hP (q := 18) hX.1 rfl 5 (by decide) (hts _ tw_104) (fun _ h9 => h9) rfl dX_credit_9 ?_
    refine lv_iload_n hx hb dX_credit_12 rfl (lv_at hl 1 rfl) ?_
    refine ka_lald hx hb hK hP 1 (q := 20) hX.2.2.1 rfl (client_in hB (by assumption)) dX_credit_13 ?_
    refine lv_goto (tgt := 18) hx hb dX_credit_14 (by decide) ?_
    exact W.lret (v := (x.2.2.2.2.1 0) (p).toNatClampNeg) hx hb hr (fun t ht hW => ⟨_, rfl, by rw [f_X_credit, if_neg c_5], ht⟩) (fun q h => by cases h) dX_credit_18
end
section
/-! writers: contracts that make no cell -/
def kNi (D : va_G) (cl : List vw_C) (d : Nat → Nat) (A : Nat → Prop) (post : Int32 → (Nat → Option va_E) → Prop) : Array Value → State → Outcome → State → Prop := fun _ st oc t => ∃ (r : Int32) (κ' : Nat → Option va_E), oc = .returned (some (.int r)) ∧ post r κ' ∧ kH D cl d κ' t.heap ∧ (∀ (k : Nat) (e : va_E), κ' k = some e → A (d k)) ∧ va_F A st t
def kNv (D : va_G) (cl : List vw_C) (d : Nat → Nat) (A : Nat → Prop) (post : (Nat → Option va_E) → Prop) : Array Value → State → Outcome → State → Prop := fun _ st oc t => ∃ (κ' : Nat → Option va_E), oc = .returned none ∧ post κ' ∧ kH D cl d κ' t.heap ∧ (∀ (k : Nat) (e : va_E), κ' k = some e → A (d k)) ∧ va_F A st t
section KN
variable {p : Program} {l : Launch} {e : Env} {R : Room} {s : State} {m : MethodId} {args : Array Value} {below : List Frame} {meth : Method} {c : Code} {H : Heap} {locs : List Loc} {cells slots : Nat} {Q : State → Prop}
variable {pc : Nat} {ls : Array Slot} {rest st0 : List Value} {D : va_G} {cl : List vw_C} {d : Nat → Nat} {κ : Nat → Option va_E} {A : Nat → Prop} {H0 : Heap} {a : Array Value}
theorem ka_ncalli {post : Int32 → (Nat → Option va_E) → Prop} (hr : CallRun p l e R s m args below meth c H locs cells slots 0 0 (F0 m pc ls st0) rest (kNi D cl d (kA d κ H.size) post a) (kA d κ H.size)) (hM : kW D cl d κ A H0 H locs) (hA : ∀ q, H0.size ≤ q → A q)
    (kk : ∀ (r : Int32) (κ' : Nat → Option va_E) (H1 : Heap) (locs1 : List Loc), post r κ' → kW D cl d κ' A H0 H1 locs1 → W p l e R s m args below meth c H1 locs1 cells slots Q (F0 m (pc + 3) ls (.int r :: rest))) : W p l e R s m args below meth c H locs cells slots Q (F0 m pc ls st0) := by
  intro T hT X
  obtain ⟨v, st₀, t, T', L, h0, X', hL, e1, ⟨r, κ', hv, hp, h1, h2, hz, hk⟩, st⟩ := hr T hT X
  cases hv
  rw [h0] at hz hk
  obtain ⟨t2, a1, b1⟩ := kk r κ' T'.heap (locs ++ L) hp (ka_join hM hA (by rw [e1]; exact h1) h2 (by rw [e1]; exact hz) (fun q g1 g2 => by rw [e1]; exact hk q g1 g2) hL) T' rfl X'
  exact ⟨t2, st t2 a1, b1⟩
theorem ka_ncallv {post : (Nat → Option va_E) → Prop} (hr : CallRun p l e R s m args below meth c H locs cells slots 0 0 (F0 m pc ls st0) rest (kNv D cl d (kA d κ H.size) post a) (kA d κ H.size)) (hM : kW D cl d κ A H0 H locs) (hA : ∀ q, H0.size ≤ q → A q)
    (kk : ∀ (κ' : Nat → Option va_E) (H1 : Heap) (locs1 : List Loc), post κ' → kW D cl d κ' A H0 H1 locs1 → W p l e R s m args below meth c H1 locs1 cells slots Q (F0 m (pc + 3) ls rest)) : W p l e R s m args below meth c H locs cells slots Q (F0 m pc ls st0) := by
  intro T hT X
  obtain ⟨v, st₀, t, T', L, h0, X', hL, e1, ⟨κ', hv, hp, h1, h2, hz, hk⟩, st⟩ := hr T hT X
  cases hv
  rw [h0] at hz hk
  obtain ⟨t2, a1, b1⟩ := kk κ' T'.heap (locs ++ L) hp (ka_join hM hA (by rw [e1]; exact h1) h2 (by rw [e1]; exact hz) (fun q g1 g2 => by rw [e1]; exact hk q g1 g2) hL) T' rfl X'
  exact ⟨t2, st t2 a1, b1⟩
theorem k_topi {x y : Int32} (h : x = y) (k : W p l e R s m args below meth c H locs cells slots Q (F0 m pc ls (.int y :: rest))) : W p l e R s m args below meth c H locs cells slots Q (F0 m pc ls (.int x :: rest)) := by rw [h]; exact k
end KN
theorem kNi.of {D : va_G} {cl : List vw_C} {A : Nat → Prop} {post : Int32 → (Nat → Option va_E) → Prop} {d : Nat → Nat} {κ : Nat → Option va_E} {a : Array Value} {s t : State} {H : Heap} {locs : List Loc} {r : Int32} (hM : kW D cl d κ A s.heap H locs) (ht : t.heap = H) (hp : post r κ) : kNi D cl d A post a s (.returned (some (.int r))) t :=
  ⟨r, κ, rfl, hp, by rw [ht]; exact hM.1, hM.2.1, hM.2.2.F ht⟩
theorem kNv.of {D : va_G} {cl : List vw_C} {A : Nat → Prop} {post : (Nat → Option va_E) → Prop} {d : Nat → Nat} {κ : Nat → Option va_E} {a : Array Value} {s t : State} {H : Heap} {locs : List Loc} (hM : kW D cl d κ A s.heap H locs) (ht : t.heap = H) (hp : post κ) : kNv D cl d A post a s (.returned none) t :=
  ⟨κ, rfl, hp, by rw [ht]; exact hM.1, hM.2.1, hM.2.2.F ht⟩
theorem MW.trans {cI cL : ClassId} {κ0 κ κ' : Nat → Option va_E} {d : Nat → Nat} {m m' : MS} (h : MW cI cL κ0 d κ m) (h' : MW cI cL κ d κ' m') : MW cI cL κ0 d κ' m' := ⟨h'.1, fun k hk => (h'.2 k hk).trans (h.2 k hk)⟩
theorem XW.trans {cI cL cQ : ClassId} {κ0 κ κ' : Nat → Option va_E} {d : Nat → Nat} {x x' : XS} (h : XW cI cL cQ κ0 d κ x) (h' : XW cI cL cQ κ d κ' x') : XW cI cL cQ κ0 d κ' x' := ⟨h'.1, fun k hk => (h'.2 k hk).trans (h.2 k hk)⟩
/-- a list of pairs, and the rest as it was -/
def PW (cI cL : ClassId) (κ0 : Nat → Option va_E) (d : Nat → Nat) (κ : Nat → Option va_E) (q len cnt : Nat) (f : Nat → Int32) (g : Nat → Int64) : Prop := IsP cI cL d κ q len cnt f g ∧ ∀ k : Nat, ¬ k = q → ¬ k = q + 1 → ¬ k = q + 2 → κ k = κ0 k
section PSet
variable {cI cL : ClassId} {κ0 κ : Nat → Option va_E} {d : Nat → Nat} {q len cnt : Nat} {f : Nat → Int32} {g : Nat → Int64}
theorem pw_count (v : Nat) (h : PW cI cL κ0 d κ q len cnt f g) : PW cI cL κ0 d (va_up κ q (some (.inr (2, [.ref (d (q + 1)), .ref (d (q + 2)), .int (nI v)])))) q len v f g :=
  ⟨⟨va_up_self _ _ _, (va_up_ne _ _ (by omega)).trans h.1.2.1, (va_up_ne _ _ (by omega)).trans h.1.2.2⟩, fun k h1 h2 h3 => (va_up_ne _ _ h1).trans (h.2 k h1 h2 h3)⟩
theorem pw_pairs (v : Nat → Int32) (h : PW cI cL κ0 d κ q len cnt f g) : PW cI cL κ0 d (va_up κ (q + 1) (some (.inl (cI, len, .inl v)))) q len cnt v g :=
  ⟨⟨(va_up_ne _ _ (by omega)).trans h.1.1, va_up_self _ _ _, (va_up_ne _ _ (by omega)).trans h.1.2.2⟩, fun k h1 h2 h3 => (va_up_ne _ _ h2).trans (h.2 k h1 h2 h3)⟩
theorem pw_amounts (v : Nat → Int64) (h : PW cI cL κ0 d κ q len cnt f g) : PW cI cL κ0 d (va_up κ (q + 2) (some (.inl (cL, len, .inr (.inl v))))) q len cnt f v :=
  ⟨⟨(va_up_ne _ _ (by omega)).trans h.1.1, (va_up_ne _ _ (by omega)).trans h.1.2.1, va_up_self _ _ _⟩, fun k h1 h2 h3 => (va_up_ne _ _ h3).trans (h.2 k h1 h2 h3)⟩
end PSet
end
section
theorem dM_day_0 : decode prog_6_method_29_code 0 = .ok (.aload_n 0, 1) := by decide +kernel
theorem dM_day_1 : decode prog_6_method_29_code 1 = .ok (.iconst 0, 1) := by decide +kernel
theorem dM_day_2 : decode prog_6_method_29_code 2 = .ok (.putfield 78, 3) := by decide +kernel
theorem dM_day_5 : decode prog_6_method_29_code 5 = .ok (.return_, 1) := by decide +kernel
def g_M_day (m : MS) : MS := mN m 4 0
set_option maxHeartbeats 4000000 in
set_option maxRecDepth 100000 in
theorem c_M_day (l : Launch) (D : va_G) (cI cL cQ : ClassId) (d : Nat → Nat) (κ0 : Nat → Option va_E) (m : MS) (hm : IsM cI cL d κ0 m) (hB : MB m) (sz : Nat)   : Met l yM_day wM_day { frames := 0, cells := 0, slots := 0, locals := 0 } (va_Pc [.ref (d 0)] (kC D vCl (kT cI cL cQ) d κ0 sz)) (kNv D vCl d (kA d κ0 sz) (fun κ' => MW cI cL κ0 d κ' (g_M_day m))) 0 0 (kA d κ0 sz) := by
  refine kMet (by decide) (Nat.le_of_ble_eq_true rfl) ?_
  intro p0 e0 s0 m0 below0 meth0 c0 hx hb hr hml hown hlocks hin hts hsz hP hK ls hl
  subst hsz
  have hl : lv_has ls 1 [(0, .ref (d 0))] := hl
  have hB9 := hB
  obtain ⟨hb0, hb1, hb2, hb3, hb4, hb5, hb6, hb7, hb8, hb9, hb10⟩ := hB9
  obtain ⟨κ, hM, hW⟩ : ∃ κ', kW D vCl d κ' (kA d κ0 s0.heap.size) s0.heap s0.heap [] ∧ MW cI cL κ0 d κ' m := ⟨κ0, kW.start hP, ⟨hm, fun _ _ => rfl⟩⟩
  refine lv_aload_n hx hb dM_day_0 rfl (lv_at hl 0 rfl) ?_
  refine lv_iconst (v := 0) hx hb dM_day_1 (by decide) ?_
  refine ka_put (D := D) (ci := 4) (v := .int (0)) (ty := .int) (C := RM) (T := TM) (N := 26) hx hb hts inM tM tM_ok nM hown hK hM (q := 0) hW.1.1 rfl 10 (by decide) (hts _ tw_394) (fun _ h9 => h9) rfl (by decide +kernel) rfl rfl (Nat.le_of_ble_eq_true rfl) dM_day_2 (fun H locs hM => ?_)
  obtain ⟨κ, hM, hW⟩ : ∃ κ', kW D vCl d κ' (kA d κ0 s0.heap.size) s0.heap H locs ∧ MW cI cL κ0 d κ' (mN m 4 0) := ⟨_, hM, mw_payments 0 hW⟩
  have hg : g_M_day m = mN m 4 0 := by rw [g_M_day]
  exact W.vret hx hb hr (fun t ht h9 => kNv.of hM ht (by rw [hg]; exact hW)) hM.2.2.2.2 dM_day_5

theorem dM_drop_0 : decode prog_6_method_31_code 0 = .ok (.aload_n 0, 1) := by decide +kernel
theorem dM_drop_1 : decode prog_6_method_31_code 1 = .ok (.getfield 160, 3) := by decide +kernel
theorem dM_drop_4 : decode prog_6_method_31_code 4 = .ok (.istore_n 1, 1) := by decide +kernel
theorem dM_drop_5 : decode prog_6_method_31_code 5 = .ok (.aload_n 0, 1) := by decide +kernel
theorem dM_drop_6 : decode prog_6_method_31_code 6 = .ok (.iconst 0, 1) := by decide +kernel
theorem dM_drop_7 : decode prog_6_method_31_code 7 = .ok (.putfield 160, 3) := by decide +kernel
theorem dM_drop_10 : decode prog_6_method_31_code 10 = .ok (.iload_n 1, 1) := by decide +kernel
theorem dM_drop_11 : decode prog_6_method_31_code 11 = .ok (.ireturn, 1) := by decide +kernel
def g_M_drop (m : MS) : Int32 × MS := (nI (m.1 7), mN m 7 0)
set_option maxHeartbeats 4000000 in
set_option maxRecDepth 100000 in
theorem c_M_drop (l : Launch) (D : va_G) (cI cL cQ : ClassId) (d : Nat → Nat) (κ0 : Nat → Option va_E) (m : MS) (hm : IsM cI cL d κ0 m) (hB : MB m) (sz : Nat)   : Met l yM_drop wM_drop { frames := 0, cells := 0, slots := 0, locals := 0 } (va_Pc [.ref (d 0)] (kC D vCl (kT cI cL cQ) d κ0 sz)) (kNi D vCl d (kA d κ0 sz) (fun r κ' => r = (g_M_drop m).1 ∧ MW cI cL κ0 d κ' (g_M_drop m).2)) 0 0 (kA d κ0 sz) := by
  refine kMet (by decide) (Nat.le_of_ble_eq_true rfl) ?_
  intro p0 e0 s0 m0 below0 meth0 c0 hx hb hr hml hown hlocks hin hts hsz hP hK ls hl
  subst hsz
  have hl : lv_has ls 2 [(0, .ref (d 0))] := hl
  have hB9 := hB
  obtain ⟨hb0, hb1, hb2, hb3, hb4, hb5, hb6, hb7, hb8, hb9, hb10⟩ := hB9
  obtain ⟨κ, hM, hW⟩ : ∃ κ', kW D vCl d κ' (kA d κ0 s0.heap.size) s0.heap s0.heap [] ∧ MW cI cL κ0 d κ' m := ⟨κ0, kW.start hP, ⟨hm, fun _ _ => rfl⟩⟩
  refine lv_aload_n hx hb dM_drop_0 rfl (lv_at hl 0 rfl) ?_
  refine ka_get (v := .int (nI (m.1 7))) (ci := 4) (C := RM) (T := TM) (N := 26) hx hb hts inM hown hK hM.1 (q := 0) hW.1.1 rfl 21 (by decide) (hts _ tw_405) (fun _ h9 => h9) rfl dM_drop_1 ?_
  refine lv_istore_n (lv' := [(1, .int (nI (m.1 7))), (0, .ref (d 0))]) hx hb dM_drop_4 rfl hl (by decide) rfl (fun ls hl => ?_)
  refine lv_aload_n hx hb dM_drop_5 rfl (lv_at hl 1 rfl) ?_
  refine lv_iconst (v := 0) hx hb dM_drop_6 (by decide) ?_
  refine ka_put (D := D) (ci := 4) (v := .int (0)) (ty := .int) (C := RM) (T := TM) (N := 26) hx hb hts inM tM tM_ok nM hown hK hM (q := 0) hW.1.1 rfl 21 (by decide) (hts _ tw_405) (fun _ h9 => h9) rfl (by decide +kernel) rfl rfl (Nat.le_of_ble_eq_true rfl) dM_drop_7 (fun H locs hM => ?_)
  obtain ⟨κ, hM, hW⟩ : ∃ κ', kW D vCl d κ' (kA d κ0 s0.heap.size) s0.heap H locs ∧ MW cI cL κ0 d κ' (mN m 7 0) := ⟨_, hM, mw_legs 0 hW⟩
  refine lv_iload_n hx hb dM_drop_10 rfl (lv_at hl 0 rfl) ?_
  have hg : g_M_drop m = (nI (m.1 7), mN m 7 0) := by rw [g_M_drop]
  exact W.iret (v := nI (m.1 7)) hx hb hr (fun t ht h9 => kNi.of hM ht (by rw [hg]; exact ⟨rfl, hW⟩)) hM.2.2.2.2 dM_drop_11

theorem dM_move_0 : decode prog_6_method_21_code 0 = .ok (.aload_n 0, 1) := by decide +kernel
theorem dM_move_1 : decode prog_6_method_21_code 1 = .ok (.getfield 24, 3) := by decide +kernel
theorem dM_move_4 : decode prog_6_method_21_code 4 = .ok (.aload_n 0, 1) := by decide +kernel
theorem dM_move_5 : decode prog_6_method_21_code 5 = .ok (.getfield 72, 3) := by decide +kernel
theorem dM_move_8 : decode prog_6_method_21_code 8 = .ok (.iload_n 1, 1) := by decide +kernel
theorem dM_move_9 : decode prog_6_method_21_code 9 = .ok (.aload_n 0, 1) := by decide +kernel
theorem dM_move_10 : decode prog_6_method_21_code 10 = .ok (.getfield 69, 3) := by decide +kernel
theorem dM_move_13 : decode prog_6_method_21_code 13 = .ok (.imul, 1) := by decide +kernel
theorem dM_move_14 : decode prog_6_method_21_code 14 = .ok (.iload_n 2, 1) := by decide +kernel
theorem dM_move_15 : decode prog_6_method_21_code 15 = .ok (.iadd, 1) := by decide +kernel
theorem dM_move_16 : decode prog_6_method_21_code 16 = .ok (.iastore, 1) := by decide +kernel
theorem dM_move_17 : decode prog_6_method_21_code 17 = .ok (.aload_n 0, 1) := by decide +kernel
theorem dM_move_18 : decode prog_6_method_21_code 18 = .ok (.getfield 27, 3) := by decide +kernel
theorem dM_move_21 : decode prog_6_method_21_code 21 = .ok (.aload_n 0, 1) := by decide +kernel
theorem dM_move_22 : decode prog_6_method_21_code 22 = .ok (.getfield 72, 3) := by decide +kernel
theorem dM_move_25 : decode prog_6_method_21_code 25 = .ok (.lload_n 3, 1) := by decide +kernel
theorem dM_move_26 : decode prog_6_method_21_code 26 = .ok (.lastore, 1) := by decide +kernel
theorem dM_move_27 : decode prog_6_method_21_code 27 = .ok (.aload_n 0, 1) := by decide +kernel
theorem dM_move_28 : decode prog_6_method_21_code 28 = .ok (.dup, 1) := by decide +kernel
theorem dM_move_29 : decode prog_6_method_21_code 29 = .ok (.getfield 72, 3) := by decide +kernel
theorem dM_move_32 : decode prog_6_method_21_code 32 = .ok (.iconst 1, 1) := by decide +kernel
theorem dM_move_33 : decode prog_6_method_21_code 33 = .ok (.iadd, 1) := by decide +kernel
theorem dM_move_34 : decode prog_6_method_21_code 34 = .ok (.putfield 72, 3) := by decide +kernel
theorem dM_move_37 : decode prog_6_method_21_code 37 = .ok (.return_, 1) := by decide +kernel
def g_M_move (m : MS) (p : Int32) (a : Int32) (by9 : Int64) : MS := mN (mL (mI m 2 (va_up (m.2.2.1 2) (nI (m.1 3)).toNatClampNeg ((p * (nI (m.1 1))) + a))) 1 (va_up (m.2.2.2 1) (nI (m.1 3)).toNatClampNeg by9)) 3 ((m.1 3) + 1)
set_option maxHeartbeats 4000000 in
set_option maxRecDepth 100000 in
theorem c_M_move (l : Launch) (D : va_G) (cI cL cQ : ClassId) (d : Nat → Nat) (κ0 : Nat → Option va_E) (m : MS) (hm : IsM cI cL d κ0 m) (hB : MB m) (sz : Nat) (p : Int32) (a : Int32) (by9 : Int64) (hmv : m.1 3 < 1040) : Met l yM_move wM_move { frames := 0, cells := 0, slots := 0, locals := 0 } (va_Pc [.ref (d 0), .int (p), .int (a), .long (by9)] (kC D vCl (kT cI cL cQ) d κ0 sz)) (kNv D vCl d (kA d κ0 sz) (fun κ' => MW cI cL κ0 d κ' (g_M_move m p a by9))) 0 0 (kA d κ0 sz) := by
  refine kMet (by decide) (Nat.le_of_ble_eq_true rfl) ?_
  intro p0 e0 s0 m0 below0 meth0 c0 hx hb hr hml hown hlocks hin hts hsz hP hK ls hl
  subst hsz
  have hl : lv_has ls 5 [(0, .ref (d 0)), (1, .int (p)), (2, .int (a)), (3, .long (by9))] := hl
  have hB9 := hB
  obtain ⟨hb0, hb1, hb2, hb3, hb4, hb5, hb6, hb7, hb8, hb9, hb10⟩ := hB9
  obtain ⟨κ, hM, hW⟩ : ∃ κ', kW D vCl d κ' (kA d κ0 s0.heap.size) s0.heap s0.heap [] ∧ MW cI cL κ0 d κ' m := ⟨κ0, kW.start hP, ⟨hm, fun _ _ => rfl⟩⟩
  refine lv_aload_n hx hb dM_move_0 rfl (lv_at hl 0 rfl) ?_
  refine ka_get (v := .ref (d 4)) (ci := 4) (C := RM) (T := TM) (N := 26) hx hb hts inM hown hK hM.1 (q := 0) hW.1.1 rfl 8 (by decide) (hts _ tw_392) (fun _ h9 => h9) rfl dM_move_1 ?_
  refine lv_aload_n hx hb dM_move_4 rfl (lv_at hl 0 rfl) ?_
  refine ka_get (v := .int (nI (m.1 3))) (ci := 4) (C := RM) (T := TM) (N := 26) hx hb hts inM hown hK hM.1 (q := 0) hW.1.1 rfl 7 (by decide) (hts _ tw_391) (fun _ h9 => h9) rfl dM_move_5 ?_
  refine lv_iload_n hx hb dM_move_8 rfl (lv_at hl 1 rfl) ?_
  refine lv_aload_n hx hb dM_move_9 rfl (lv_at hl 0 rfl) ?_
  refine ka_get (v := .int (nI (m.1 1))) (ci := 4) (C := RM) (T := TM) (N := 26) hx hb hts inM hown hK hM.1 (q := 0) hW.1.1 rfl 1 (by decide) (hts _ tw_385) (fun _ h9 => h9) rfl dM_move_10 ?_
  refine lv_imul hx hb dM_move_13 ?_
  refine lv_iload_n hx hb dM_move_14 rfl (lv_at hl 2 rfl) ?_
  refine lv_iadd hx hb dM_move_15 ?_
  refine ka_iast (f := m.2.2.1 2) hx hb hK hM 0 (q := 4) hW.1.2.2.2.2.1 rfl (i := nI (m.1 3)) (x := (p * (nI (m.1 1))) + a) (by first | assumption | exact vp_in_nI (by omega) (by omega)) dM_move_16 (fun H locs hM => ?_)
  obtain ⟨κ, hM, hW⟩ : ∃ κ', kW D vCl d κ' (kA d κ0 s0.heap.size) s0.heap H locs ∧ MW cI cL κ0 d κ' (mI m 2 (va_up (m.2.2.1 2) (nI (m.1 3)).toNatClampNeg ((p * (nI (m.1 1))) + a))) := ⟨_, hM, mw_moveAt _ hW⟩
  refine lv_aload_n hx hb dM_move_17 rfl (lv_at hl 0 rfl) ?_
  refine ka_get (v := .ref (d 5)) (ci := 4) (C := RM) (T := TM) (N := 26) hx hb hts inM hown hK hM.1 (q := 0) hW.1.1 rfl 9 (by decide) (hts _ tw_393) (fun _ h9 => h9) rfl dM_move_18 ?_
  refine lv_aload_n hx hb dM_move_21 rfl (lv_at hl 0 rfl) ?_
  refine ka_get (v := .int (nI (m.1 3))) (ci := 4) (C := RM) (T := TM) (N := 26) hx hb hts inM hown hK hM.1 (q := 0) hW.1.1 rfl 7 (by decide) (hts _ tw_391) (fun _ h9 => h9) rfl dM_move_22 ?_
  refine lv_lload_n hx hb dM_move_25 rfl (lv_at hl 3 rfl) ?_
  refine ka_last (f := m.2.2.2 1) hx hb hK hM 1 (q := 5) hW.1.2.2.2.2.2.1 rfl (i := nI (m.1 3)) (x := by9) (by first | assumption | exact vp_in_nI (by omega) (by omega)) dM_move_26 (fun H locs hM => ?_)
  obtain ⟨κ, hM, hW⟩ : ∃ κ', kW D vCl d κ' (kA d κ0 s0.heap.size) s0.heap H locs ∧ MW cI cL κ0 d κ' (mL (mI m 2 (va_up (m.2.2.1 2) (nI (m.1 3)).toNatClampNeg ((p * (nI (m.1 1))) + a))) 1 (va_up (m.2.2.2 1) (nI (m.1 3)).toNatClampNeg by9)) := ⟨_, hM, mw_moveBy _ hW⟩
  refine lv_aload_n hx hb dM_move_27 rfl (lv_at hl 0 rfl) ?_
  refine lv_dup hx hb dM_move_28 rfl ?_
  refine ka_get (v := .int (nI (m.1 3))) (ci := 4) (C := RM) (T := TM) (N := 26) hx hb hts inM hown hK hM.1 (q := 0) hW.1.1 rfl 7 (by decide) (hts _ tw_391) (fun _ h9 => h9) rfl dM_move_29 ?_
  refine lv_iconst (v := 1) hx hb dM_move_32 (by decide) ?_
  refine lv_iadd hx hb dM_move_33 ?_
  refine k_topi (show nI (m.1 3) + 1 = nI ((m.1 3) + 1) from nI_add _ _) ?_
  refine ka_put (D := D) (ci := 4) (v := .int (nI ((m.1 3) + 1))) (ty := .int) (C := RM) (T := TM) (N := 26) hx hb hts inM tM tM_ok nM hown hK hM (q := 0) hW.1.1 rfl 7 (by decide) (hts _ tw_391) (fun _ h9 => h9) rfl (by decide +kernel) rfl rfl (Nat.le_of_ble_eq_true rfl) dM_move_34 (fun H locs hM => ?_)
  obtain ⟨κ, hM, hW⟩ : ∃ κ', kW D vCl d κ' (kA d κ0 s0.heap.size) s0.heap H locs ∧ MW cI cL κ0 d κ' (mN (mL (mI m 2 (va_up (m.2.2.1 2) (nI (m.1 3)).toNatClampNeg ((p * (nI (m.1 1))) + a))) 1 (va_up (m.2.2.2 1) (nI (m.1 3)).toNatClampNeg by9)) 3 ((m.1 3) + 1)) := ⟨_, hM, mw_moves ((m.1 3) + 1) hW⟩
  have hg : g_M_move m p a by9 = mN (mL (mI m 2 (va_up (m.2.2.1 2) (nI (m.1 3)).toNatClampNeg ((p * (nI (m.1 1))) + a))) 1 (va_up (m.2.2.2 1) (nI (m.1 3)).toNatClampNeg by9)) 3 ((m.1 3) + 1) := by rw [g_M_move]
  exact W.vret hx hb hr (fun t ht h9 => kNv.of hM ht (by rw [hg]; exact hW)) hM.2.2.2.2 dM_move_37

theorem dM_pledgeMore_0 : decode prog_6_method_24_code 0 = .ok (.aload_n 0, 1) := by decide +kernel
theorem dM_pledgeMore_1 : decode prog_6_method_24_code 1 = .ok (.getfield 39, 3) := by decide +kernel
theorem dM_pledgeMore_4 : decode prog_6_method_24_code 4 = .ok (.aload_n 0, 1) := by decide +kernel
theorem dM_pledgeMore_5 : decode prog_6_method_24_code 5 = .ok (.getfield 75, 3) := by decide +kernel
theorem dM_pledgeMore_8 : decode prog_6_method_24_code 8 = .ok (.iload_n 1, 1) := by decide +kernel
theorem dM_pledgeMore_9 : decode prog_6_method_24_code 9 = .ok (.aload_n 0, 1) := by decide +kernel
theorem dM_pledgeMore_10 : decode prog_6_method_24_code 10 = .ok (.getfield 69, 3) := by decide +kernel
theorem dM_pledgeMore_13 : decode prog_6_method_24_code 13 = .ok (.imul, 1) := by decide +kernel
theorem dM_pledgeMore_14 : decode prog_6_method_24_code 14 = .ok (.iload_n 2, 1) := by decide +kernel
theorem dM_pledgeMore_15 : decode prog_6_method_24_code 15 = .ok (.iadd, 1) := by decide +kernel
theorem dM_pledgeMore_16 : decode prog_6_method_24_code 16 = .ok (.iastore, 1) := by decide +kernel
theorem dM_pledgeMore_17 : decode prog_6_method_24_code 17 = .ok (.aload_n 0, 1) := by decide +kernel
theorem dM_pledgeMore_18 : decode prog_6_method_24_code 18 = .ok (.getfield 42, 3) := by decide +kernel
theorem dM_pledgeMore_21 : decode prog_6_method_24_code 21 = .ok (.aload_n 0, 1) := by decide +kernel
theorem dM_pledgeMore_22 : decode prog_6_method_24_code 22 = .ok (.getfield 75, 3) := by decide +kernel
theorem dM_pledgeMore_25 : decode prog_6_method_24_code 25 = .ok (.lload_n 3, 1) := by decide +kernel
theorem dM_pledgeMore_26 : decode prog_6_method_24_code 26 = .ok (.lastore, 1) := by decide +kernel
theorem dM_pledgeMore_27 : decode prog_6_method_24_code 27 = .ok (.aload_n 0, 1) := by decide +kernel
theorem dM_pledgeMore_28 : decode prog_6_method_24_code 28 = .ok (.dup, 1) := by decide +kernel
theorem dM_pledgeMore_29 : decode prog_6_method_24_code 29 = .ok (.getfield 75, 3) := by decide +kernel
theorem dM_pledgeMore_32 : decode prog_6_method_24_code 32 = .ok (.iconst 1, 1) := by decide +kernel
theorem dM_pledgeMore_33 : decode prog_6_method_24_code 33 = .ok (.iadd, 1) := by decide +kernel
theorem dM_pledgeMore_34 : decode prog_6_method_24_code 34 = .ok (.putfield 75, 3) := by decide +kernel
theorem dM_pledgeMore_37 : decode prog_6_method_24_code 37 = .ok (.return_, 1) := by decide +kernel
def g_M_pledgeMore (m : MS) (p : Int32) (a : Int32) (by9 : Int64) : MS := mN (mL (mI m 5 (va_up (m.2.2.1 5) (nI (m.1 5)).toNatClampNeg ((p * (nI (m.1 1))) + a))) 3 (va_up (m.2.2.2 3) (nI (m.1 5)).toNatClampNeg by9)) 5 ((m.1 5) + 1)
set_option maxHeartbeats 4000000 in
set_option maxRecDepth 100000 in
theorem c_M_pledgeMore (l : Launch) (D : va_G) (cI cL cQ : ClassId) (d : Nat → Nat) (κ0 : Nat → Option va_E) (m : MS) (hm : IsM cI cL d κ0 m) (hB : MB m) (sz : Nat) (p : Int32) (a : Int32) (by9 : Int64) (hmv : m.1 5 < 520) : Met l yM_pledgeMore wM_pledgeMore { frames := 0, cells := 0, slots := 0, locals := 0 } (va_Pc [.ref (d 0), .int (p), .int (a), .long (by9)] (kC D vCl (kT cI cL cQ) d κ0 sz)) (kNv D vCl d (kA d κ0 sz) (fun κ' => MW cI cL κ0 d κ' (g_M_pledgeMore m p a by9))) 0 0 (kA d κ0 sz) := by
  refine kMet (by decide) (Nat.le_of_ble_eq_true rfl) ?_
  intro p0 e0 s0 m0 below0 meth0 c0 hx hb hr hml hown hlocks hin hts hsz hP hK ls hl
  subst hsz
  have hl : lv_has ls 5 [(0, .ref (d 0)), (1, .int (p)), (2, .int (a)), (3, .long (by9))] := hl
  have hB9 := hB
  obtain ⟨hb0, hb1, hb2, hb3, hb4, hb5, hb6, hb7, hb8, hb9, hb10⟩ := hB9
  obtain ⟨κ, hM, hW⟩ : ∃ κ', kW D vCl d κ' (kA d κ0 s0.heap.size) s0.heap s0.heap [] ∧ MW cI cL κ0 d κ' m := ⟨κ0, kW.start hP, ⟨hm, fun _ _ => rfl⟩⟩
  refine lv_aload_n hx hb dM_pledgeMore_0 rfl (lv_at hl 0 rfl) ?_
  refine ka_get (v := .ref (d 9)) (ci := 4) (C := RM) (T := TM) (N := 26) hx hb hts inM hown hK hM.1 (q := 0) hW.1.1 rfl 15 (by decide) (hts _ tw_399) (fun _ h9 => h9) rfl dM_pledgeMore_1 ?_
  refine lv_aload_n hx hb dM_pledgeMore_4 rfl (lv_at hl 0 rfl) ?_
  refine ka_get (v := .int (nI (m.1 5))) (ci := 4) (C := RM) (T := TM) (N := 26) hx hb hts inM hown hK hM.1 (q := 0) hW.1.1 rfl 14 (by decide) (hts _ tw_398) (fun _ h9 => h9) rfl dM_pledgeMore_5 ?_
  refine lv_iload_n hx hb dM_pledgeMore_8 rfl (lv_at hl 1 rfl) ?_
  refine lv_aload_n hx hb dM_pledgeMore_9 rfl (lv_at hl 0 rfl) ?_
  refine ka_get (v := .int (nI (m.1 1))) (ci := 4) (C := RM) (T := TM) (N := 26) hx hb hts inM hown hK hM.1 (q := 0) hW.1.1 rfl 1 (by decide) (hts _ tw_385) (fun _ h9 => h9) rfl dM_pledgeMore_10 ?_
  refine lv_imul hx hb dM_pledgeMore_13 ?_
  refine lv_iload_n hx hb dM_pledgeMore_14 rfl (lv_at hl 2 rfl) ?_
  refine lv_iadd hx hb dM_pledgeMore_15 ?_
  refine ka_iast (f := m.2.2.1 5) hx hb hK hM 0 (q := 9) hW.1.2.2.2.2.2.2.2.2.2.1 rfl (i := nI (m.1 5)) (x := (p * (nI (m.1 1))) + a) (by first | assumption | exact vp_in_nI (by omega) (by omega)) dM_pledgeMore_16 (fun H locs hM => ?_)
  obtain ⟨κ, hM, hW⟩ : ∃ κ', kW D vCl d κ' (kA d κ0 s0.heap.size) s0.heap H locs ∧ MW cI cL κ0 d κ' (mI m 5 (va_up (m.2.2.1 5) (nI (m.1 5)).toNatClampNeg ((p * (nI (m.1 1))) + a))) := ⟨_, hM, mw_pledgeAt _ hW⟩
  refine lv_aload_n hx hb dM_pledgeMore_17 rfl (lv_at hl 0 rfl) ?_
  refine ka_get (v := .ref (d 10)) (ci := 4) (C := RM) (T := TM) (N := 26) hx hb hts inM hown hK hM.1 (q := 0) hW.1.1 rfl 16 (by decide) (hts _ tw_400) (fun _ h9 => h9) rfl dM_pledgeMore_18 ?_
  refine lv_aload_n hx hb dM_pledgeMore_21 rfl (lv_at hl 0 rfl) ?_
  refine ka_get (v := .int (nI (m.1 5))) (ci := 4) (C := RM) (T := TM) (N := 26) hx hb hts inM hown hK hM.1 (q := 0) hW.1.1 rfl 14 (by decide) (hts _ tw_398) (fun _ h9 => h9) rfl dM_pledgeMore_22 ?_
  refine lv_lload_n hx hb dM_pledgeMore_25 rfl (lv_at hl 3 rfl) ?_
  refine ka_last (f := m.2.2.2 3) hx hb hK hM 1 (q := 10) hW.1.2.2.2.2.2.2.2.2.2.2.1 rfl (i := nI (m.1 5)) (x := by9) (by first | assumption | exact vp_in_nI (by omega) (by omega)) dM_pledgeMore_26 (fun H locs hM => ?_)
  obtain ⟨κ, hM, hW⟩ : ∃ κ', kW D vCl d κ' (kA d κ0 s0.heap.size) s0.heap H locs ∧ MW cI cL κ0 d κ' (mL (mI m 5 (va_up (m.2.2.1 5) (nI (m.1 5)).toNatClampNeg ((p * (nI (m.1 1))) + a))) 3 (va_up (m.2.2.2 3) (nI (m.1 5)).toNatClampNeg by9)) := ⟨_, hM, mw_pledgeBy _ hW⟩
  refine lv_aload_n hx hb dM_pledgeMore_27 rfl (lv_at hl 0 rfl) ?_
  refine lv_dup hx hb dM_pledgeMore_28 rfl ?_
  refine ka_get (v := .int (nI (m.1 5))) (ci := 4) (C := RM) (T := TM) (N := 26) hx hb hts inM hown hK hM.1 (q := 0) hW.1.1 rfl 14 (by decide) (hts _ tw_398) (fun _ h9 => h9) rfl dM_pledgeMore_29 ?_
  refine lv_iconst (v := 1) hx hb dM_pledgeMore_32 (by decide) ?_
  refine lv_iadd hx hb dM_pledgeMore_33 ?_
  refine k_topi (show nI (m.1 5) + 1 = nI ((m.1 5) + 1) from nI_add _ _) ?_
  refine ka_put (D := D) (ci := 4) (v := .int (nI ((m.1 5) + 1))) (ty := .int) (C := RM) (T := TM) (N := 26) hx hb hts inM tM tM_ok nM hown hK hM (q := 0) hW.1.1 rfl 14 (by decide) (hts _ tw_398) (fun _ h9 => h9) rfl (by decide +kernel) rfl rfl (Nat.le_of_ble_eq_true rfl) dM_pledgeMore_34 (fun H locs hM => ?_)
  obtain ⟨κ, hM, hW⟩ : ∃ κ', kW D vCl d κ' (kA d κ0 s0.heap.size) s0.heap H locs ∧ MW cI cL κ0 d κ' (mN (mL (mI m 5 (va_up (m.2.2.1 5) (nI (m.1 5)).toNatClampNeg ((p * (nI (m.1 1))) + a))) 3 (va_up (m.2.2.2 3) (nI (m.1 5)).toNatClampNeg by9)) 5 ((m.1 5) + 1)) := ⟨_, hM, mw_pledges ((m.1 5) + 1) hW⟩
  have hg : g_M_pledgeMore m p a by9 = mN (mL (mI m 5 (va_up (m.2.2.1 5) (nI (m.1 5)).toNatClampNeg ((p * (nI (m.1 1))) + a))) 3 (va_up (m.2.2.2 3) (nI (m.1 5)).toNatClampNeg by9)) 5 ((m.1 5) + 1) := by rw [g_M_pledgeMore]
  exact W.vret hx hb hr (fun t ht h9 => kNv.of hM ht (by rw [hg]; exact hW)) hM.2.2.2.2 dM_pledgeMore_37

theorem dM_currency_0 : decode prog_6_method_17_code 0 = .ok (.aload_n 0, 1) := by decide +kernel
theorem dM_currency_1 : decode prog_6_method_17_code 1 = .ok (.getfield 85, 3) := by decide +kernel
theorem dM_currency_4 : decode prog_6_method_17_code 4 = .ok (.aload_n 0, 1) := by decide +kernel
theorem dM_currency_5 : decode prog_6_method_17_code 5 = .ok (.getfield 69, 3) := by decide +kernel
theorem dM_currency_8 : decode prog_6_method_17_code 8 = .ok (.if_icmp .ne 5, 3) := by decide +kernel
theorem dM_currency_11 : decode prog_6_method_17_code 11 = .ok (.iconst (-1), 1) := by decide +kernel
theorem dM_currency_12 : decode prog_6_method_17_code 12 = .ok (.ireturn, 1) := by decide +kernel
theorem dM_currency_13 : decode prog_6_method_17_code 13 = .ok (.aload_n 0, 1) := by decide +kernel
theorem dM_currency_14 : decode prog_6_method_17_code 14 = .ok (.getfield 13, 3) := by decide +kernel
theorem dM_currency_17 : decode prog_6_method_17_code 17 = .ok (.aload_n 0, 1) := by decide +kernel
theorem dM_currency_18 : decode prog_6_method_17_code 18 = .ok (.getfield 85, 3) := by decide +kernel
theorem dM_currency_21 : decode prog_6_method_17_code 21 = .ok (.iconst 0, 1) := by decide +kernel
theorem dM_currency_22 : decode prog_6_method_17_code 22 = .ok (.iastore, 1) := by decide +kernel
theorem dM_currency_23 : decode prog_6_method_17_code 23 = .ok (.aload_n 0, 1) := by decide +kernel
theorem dM_currency_24 : decode prog_6_method_17_code 24 = .ok (.aload_n 0, 1) := by decide +kernel
theorem dM_currency_25 : decode prog_6_method_17_code 25 = .ok (.getfield 7, 3) := by decide +kernel
theorem dM_currency_28 : decode prog_6_method_17_code 28 = .ok (.ifCond .ge 10, 3) := by decide +kernel
theorem dM_currency_31 : decode prog_6_method_17_code 31 = .ok (.aload_n 0, 1) := by decide +kernel
theorem dM_currency_32 : decode prog_6_method_17_code 32 = .ok (.getfield 85, 3) := by decide +kernel
theorem dM_currency_35 : decode prog_6_method_17_code 35 = .ok (.goto 7, 3) := by decide +kernel
theorem dM_currency_38 : decode prog_6_method_17_code 38 = .ok (.aload_n 0, 1) := by decide +kernel
theorem dM_currency_39 : decode prog_6_method_17_code 39 = .ok (.getfield 7, 3) := by decide +kernel
theorem dM_currency_42 : decode prog_6_method_17_code 42 = .ok (.putfield 7, 3) := by decide +kernel
theorem dM_currency_45 : decode prog_6_method_17_code 45 = .ok (.aload_n 0, 1) := by decide +kernel
theorem dM_currency_46 : decode prog_6_method_17_code 46 = .ok (.dup, 1) := by decide +kernel
theorem dM_currency_47 : decode prog_6_method_17_code 47 = .ok (.getfield 85, 3) := by decide +kernel
theorem dM_currency_50 : decode prog_6_method_17_code 50 = .ok (.iconst 1, 1) := by decide +kernel
theorem dM_currency_51 : decode prog_6_method_17_code 51 = .ok (.iadd, 1) := by decide +kernel
theorem dM_currency_52 : decode prog_6_method_17_code 52 = .ok (.putfield 85, 3) := by decide +kernel
theorem dM_currency_55 : decode prog_6_method_17_code 55 = .ok (.aload_n 0, 1) := by decide +kernel
theorem dM_currency_56 : decode prog_6_method_17_code 56 = .ok (.getfield 85, 3) := by decide +kernel
theorem dM_currency_59 : decode prog_6_method_17_code 59 = .ok (.iconst 1, 1) := by decide +kernel
theorem dM_currency_60 : decode prog_6_method_17_code 60 = .ok (.isub, 1) := by decide +kernel
theorem dM_currency_61 : decode prog_6_method_17_code 61 = .ok (.ireturn, 1) := by decide +kernel
def g_M_currency (m : MS) : Int32 × MS := if (nI (m.1 2)) = (nI (m.1 1)) then (-1, m) else (if 0 ≤ m.2.1 then (nI (((m.1 2) + 1) - 1), mN (mM (mI m 0 (va_up (m.2.2.1 0) (nI (m.1 2)).toNatClampNeg 0)) m.2.1) 2 ((m.1 2) + 1)) else (nI (((m.1 2) + 1) - 1), mN (mM (mI m 0 (va_up (m.2.2.1 0) (nI (m.1 2)).toNatClampNeg 0)) (nI (m.1 2))) 2 ((m.1 2) + 1)))
set_option maxHeartbeats 4000000 in
set_option maxRecDepth 100000 in
theorem c_M_currency (l : Launch) (D : va_G) (cI cL cQ : ClassId) (d : Nat → Nat) (κ0 : Nat → Option va_E) (m : MS) (hm : IsM cI cL d κ0 m) (hB : MB m) (sz : Nat)   : Met l yM_currency wM_currency { frames := 0, cells := 0, slots := 0, locals := 0 } (va_Pc [.ref (d 0)] (kC D vCl (kT cI cL cQ) d κ0 sz)) (kNi D vCl d (kA d κ0 sz) (fun r κ' => r = (g_M_currency m).1 ∧ MW cI cL κ0 d κ' (g_M_currency m).2)) 0 0 (kA d κ0 sz) := by
  refine kMet (by decide) (Nat.le_of_ble_eq_true rfl) ?_
  intro p0 e0 s0 m0 below0 meth0 c0 hx hb hr hml hown hlocks hin hts hsz hP hK ls hl
  subst hsz
  have hl : lv_has ls 1 [(0, .ref (d 0))] := hl
  have hB9 := hB
  obtain ⟨hb0, hb1, hb2, hb3, hb4, hb5, hb6, hb7, hb8, hb9, hb10⟩ := hB9
  obtain ⟨κ, hM, hW⟩ : ∃ κ', kW D vCl d κ' (kA d κ0 s0.heap.size) s0.heap s0.heap [] ∧ MW cI cL κ0 d κ' m := ⟨κ0, kW.start hP, ⟨hm, fun _ _ => rfl⟩⟩
  refine lv_aload_n hx hb dM_currency_0 rfl (lv_at hl 0 rfl) ?_
  refine ka_get (v := .int (nI (m.1 2))) (ci := 4) (C := RM) (T := TM) (N := 26) hx hb hts inM hown hK hM.1 (q := 0) hW.1.1 rfl 2 (by decide) (hts _ tw_386) (fun _ h9 => h9) rfl dM_currency_1 ?_
  refine lv_aload_n hx hb dM_currency_4 rfl (lv_at hl 0 rfl) ?_
  refine ka_get (v := .int (nI (m.1 1))) (ci := 4) (C := RM) (T := TM) (N := 26) hx hb hts inM hown hK hM.1 (q := 0) hW.1.1 rfl 1 (by decide) (hts _ tw_385) (fun _ h9 => h9) rfl dM_currency_5 ?_
  refine lv_icmp_ne (tgt := 13) hx hb dM_currency_8 (by decide) (fun c_8 => ?_) (fun c_8 => ?_)
  · have hlt : m.1 2 < m.1 1 := Nat.lt_of_le_of_ne hb4 (fun q => c_8 (by rw [q]))
    refine lv_aload_n hx hb dM_currency_13 rfl (lv_at hl 0 rfl) ?_
    refine ka_get (v := .ref (d 1)) (ci := 4) (C := RM) (T := TM) (N := 26) hx hb hts inM hown hK hM.1 (q := 0) hW.1.1 rfl 4 (by decide) (hts _ tw_388) (fun _ h9 => h9) rfl dM_currency_14 ?_
    refine lv_aload_n hx hb dM_currency_17 rfl (lv_at hl 0 rfl) ?_
    refine ka_get (v := .int (nI (m.1 2))) (ci := 4) (C := RM) (T := TM) (N := 26) hx hb hts inM hown hK hM.1 (q := 0) hW.1.1 rfl 2 (by decide) (hts _ tw_386) (fun _ h9 => h9) rfl dM_currency_18 ?_
    refine lv_iconst (v := 0) hx hb dM_currency_21 (by decide) ?_
    refine ka_iast (f := m.2.2.1 0) hx hb hK hM 0 (q := 1) hW.1.2.1 rfl (i := nI (m.1 2)) (x := 0) (by first | assumption | exact vp_in_nI (by omega) (by omega)) dM_currency_22 (fun H locs hM => ?_)
    obtain ⟨κ, hM, hW⟩ : ∃ κ', kW D vCl d κ' (kA d κ0 s0.heap.size) s0.heap H locs ∧ MW cI cL κ0 d κ' (mI m 0 (va_up (m.2.2.1 0) (nI (m.1 2)).toNatClampNeg 0)) := ⟨_, hM, mw_sort _ hW⟩
    refine lv_aload_n hx hb dM_currency_23 rfl (lv_at hl 0 rfl) ?_
    refine lv_aload_n hx hb dM_currency_24 rfl (lv_at hl 0 rfl) ?_
    refine ka_get (v := .int (m.2.1)) (ci := 4) (C := RM) (T := TM) (N := 26) hx hb hts inM hown hK hM.1 (q := 0) hW.1.1 rfl 3 (by decide) (hts _ tw_387) (fun _ h9 => h9) rfl dM_currency_25 ?_
    refine lv_if_ge (tgt := 38) hx hb dM_currency_28 (by decide) (fun c_28 => ?_) (fun c_28 => ?_)
    · refine lv_aload_n hx hb dM_currency_38 rfl (lv_at hl 0 rfl) ?_
      refine ka_get (v := .int (m.2.1)) (ci := 4) (C := RM) (T := TM) (N := 26) hx hb hts inM hown hK hM.1 (q := 0) hW.1.1 rfl 3 (by decide) (hts _ tw_387) (fun _ h9 => h9) rfl dM_currency_39 ?_
      refine ka_put (D := D) (ci := 4) (v := .int (m.2.1)) (ty := .int) (C := RM) (T := TM) (N := 26) hx hb hts inM tM tM_ok nM hown hK hM (q := 0) hW.1.1 rfl 3 (by decide) (hts _ tw_387) (fun _ h9 => h9) rfl (by decide +kernel) rfl rfl (Nat.le_of_ble_eq_true rfl) dM_currency_42 (fun H locs hM => ?_)
      obtain ⟨κ, hM, hW⟩ : ∃ κ', kW D vCl d κ' (kA d κ0 s0.heap.size) s0.heap H locs ∧ MW cI cL κ0 d κ' (mM (mI m 0 (va_up (m.2.2.1 0) (nI (m.1 2)).toNatClampNeg 0)) m.2.1) := ⟨_, hM, mw_money m.2.1 hW⟩
      refine lv_aload_n hx hb dM_currency_45 rfl (lv_at hl 0 rfl) ?_
      refine lv_dup hx hb dM_currency_46 rfl ?_
      refine ka_get (v := .int (nI (m.1 2))) (ci := 4) (C := RM) (T := TM) (N := 26) hx hb hts inM hown hK hM.1 (q := 0) hW.1.1 rfl 2 (by decide) (hts _ tw_386) (fun _ h9 => h9) rfl dM_currency_47 ?_
      refine lv_iconst (v := 1) hx hb dM_currency_50 (by decide) ?_
      refine lv_iadd hx hb dM_currency_51 ?_
      refine k_topi (show nI (m.1 2) + 1 = nI ((m.1 2) + 1) from nI_add _ _) ?_
      refine ka_put (D := D) (ci := 4) (v := .int (nI ((m.1 2) + 1))) (ty := .int) (C := RM) (T := TM) (N := 26) hx hb hts inM tM tM_ok nM hown hK hM (q := 0) hW.1.1 rfl 2 (by decide) (hts _ tw_386) (fun _ h9 => h9) rfl (by decide +kernel) rfl rfl (Nat.le_of_ble_eq_true rfl) dM_currency_52 (fun H locs hM => ?_)
      obtain ⟨κ, hM, hW⟩ : ∃ κ', kW D vCl d κ' (kA d κ0 s0.heap.size) s0.heap H locs ∧ MW cI cL κ0 d κ' (mN (mM (mI m 0 (va_up (m.2.2.1 0) (nI (m.1 2)).toNatClampNeg 0)) m.2.1) 2 ((m.1 2) + 1)) := ⟨_, hM, mw_assets ((m.1 2) + 1) hW⟩
      refine lv_aload_n hx hb dM_currency_55 rfl (lv_at hl 0 rfl) ?_
      refine ka_get (v := .int (nI ((m.1 2) + 1))) (ci := 4) (C := RM) (T := TM) (N := 26) hx hb hts inM hown hK hM.1 (q := 0) hW.1.1 rfl 2 (by decide) (hts _ tw_386) (fun _ h9 => h9) rfl dM_currency_56 ?_
      refine lv_iconst (v := 1) hx hb dM_currency_59 (by decide) ?_
      refine lv_isub hx hb dM_currency_60 ?_
      refine k_topi (show nI ((m.1 2) + 1) - 1 = nI (((m.1 2) + 1) - 1) from pk_sub (a := ((m.1 2) + 1)) (b := 1) (by omega)) ?_
      have hg : g_M_currency m = (nI (((m.1 2) + 1) - 1), mN (mM (mI m 0 (va_up (m.2.2.1 0) (nI (m.1 2)).toNatClampNeg 0)) m.2.1) 2 ((m.1 2) + 1)) := by rw [g_M_currency, if_neg c_8, if_pos c_28]
      exact W.iret (v := nI (((m.1 2) + 1) - 1)) hx hb hr (fun t ht h9 => kNi.of hM ht (by rw [hg]; exact ⟨rfl, hW⟩)) hM.2.2.2.2 dM_currency_61
    · refine lv_aload_n hx hb dM_currency_31 rfl (lv_at hl 0 rfl) ?_
      refine ka_get (v := .int (nI (m.1 2))) (ci := 4) (C := RM) (T := TM) (N := 26) hx hb hts inM hown hK hM.1 (q := 0) hW.1.1 rfl 2 (by decide) (hts _ tw_386) (fun _ h9 => h9) rfl dM_currency_32 ?_
      refine lv_goto (tgt := 42) hx hb dM_currency_35 (by decide) ?_
      refine ka_put (D := D) (ci := 4) (v := .int (nI (m.1 2))) (ty := .int) (C := RM) (T := TM) (N := 26) hx hb hts inM tM tM_ok nM hown hK hM (q := 0) hW.1.1 rfl 3 (by decide) (hts _ tw_387) (fun _ h9 => h9) rfl (by decide +kernel) rfl rfl (Nat.le_of_ble_eq_true rfl) dM_currency_42 (fun H locs hM => ?_)
      obtain ⟨κ, hM, hW⟩ : ∃ κ', kW D vCl d κ' (kA d κ0 s0.heap.size) s0.heap H locs ∧ MW cI cL κ0 d κ' (mM (mI m 0 (va_up (m.2.2.1 0) (nI (m.1 2)).toNatClampNeg 0)) (nI (m.1 2))) := ⟨_, hM, mw_money (nI (m.1 2)) hW⟩
      refine lv_aload_n hx hb dM_currency_45 rfl (lv_at hl 0 rfl) ?_
      refine lv_dup hx hb dM_currency_46 rfl ?_
      refine ka_get (v := .int (nI (m.1 2))) (ci := 4) (C := RM) (T := TM) (N := 26) hx hb hts inM hown hK hM.1 (q := 0) hW.1.1 rfl 2 (by decide) (hts _ tw_386) (fun _ h9 => h9) rfl dM_currency_47 ?_
      refine lv_iconst (v := 1) hx hb dM_currency_50 (by decide) ?_
      refine lv_iadd hx hb dM_currency_51 ?_
      refine k_topi (show nI (m.1 2) + 1 = nI ((m.1 2) + 1) from nI_add _ _) ?_
      refine ka_put (D := D) (ci := 4) (v := .int (nI ((m.1 2) + 1))) (ty := .int) (C := RM) (T := TM) (N := 26) hx hb hts inM tM tM_ok nM hown hK hM (q := 0) hW.1.1 rfl 2 (by decide) (hts _ tw_386) (fun _ h9 => h9) rfl (by decide +kernel) rfl rfl (Nat.le_of_ble_eq_true rfl) dM_currency_52 (fun H locs hM => ?_)
      obtain ⟨κ, hM, hW⟩ : ∃ κ', kW D vCl d κ' (kA d κ0 s0.heap.size) s0.heap H locs ∧ MW cI cL κ0 d κ' (mN (mM (mI m 0 (va_up (m.2.2.1 0) (nI (m.1 2)).toNatClampNeg 0)) (nI (m.1 2))) 2 ((m.1 2) + 1)) := ⟨_, hM, mw_assets ((m.1 2) + 1) hW⟩
      refine lv_aload_n hx hb dM_currency_55 rfl (lv_at hl 0 rfl) ?_
      refine ka_get (v := .int (nI ((m.1 2) + 1))) (ci := 4) (C := RM) (T := TM) (N := 26) hx hb hts inM hown hK hM.1 (q := 0) hW.1.1 rfl 2 (by decide) (hts _ tw_386) (fun _ h9 => h9) rfl dM_currency_56 ?_
      refine lv_iconst (v := 1) hx hb dM_currency_59 (by decide) ?_
      refine lv_isub hx hb dM_currency_60 ?_
      refine k_topi (show nI ((m.1 2) + 1) - 1 = nI (((m.1 2) + 1) - 1) from pk_sub (a := ((m.1 2) + 1)) (b := 1) (by omega)) ?_
      have hg : g_M_currency m = (nI (((m.1 2) + 1) - 1), mN (mM (mI m 0 (va_up (m.2.2.1 0) (nI (m.1 2)).toNatClampNeg 0)) (nI (m.1 2))) 2 ((m.1 2) + 1)) := by rw [g_M_currency, if_neg c_8, if_neg c_28]
      exact W.iret (v := nI (((m.1 2) + 1) - 1)) hx hb hr (fun t ht h9 => kNi.of hM ht (by rw [hg]; exact ⟨rfl, hW⟩)) hM.2.2.2.2 dM_currency_61
  · refine lv_iconst (v := -1) hx hb dM_currency_11 (by decide) ?_
    have hg : g_M_currency m = (-1, m) := by rw [g_M_currency, if_pos c_8]
    exact W.iret (v := -1) hx hb hr (fun t ht h9 => kNi.of hM ht (by rw [hg]; exact ⟨rfl, hW⟩)) hM.2.2.2.2 dM_currency_12

theorem dM_security_0 : decode prog_6_method_19_code 0 = .ok (.aload_n 0, 1) := by decide +kernel
theorem dM_security_1 : decode prog_6_method_19_code 1 = .ok (.getfield 85, 3) := by decide +kernel
theorem dM_security_4 : decode prog_6_method_19_code 4 = .ok (.aload_n 0, 1) := by decide +kernel
theorem dM_security_5 : decode prog_6_method_19_code 5 = .ok (.getfield 69, 3) := by decide +kernel
theorem dM_security_8 : decode prog_6_method_19_code 8 = .ok (.if_icmp .eq 11, 3) := by decide +kernel
theorem dM_security_11 : decode prog_6_method_19_code 11 = .ok (.lload_n 1, 1) := by decide +kernel
theorem dM_security_12 : decode prog_6_method_19_code 12 = .ok (.iload_n 3, 1) := by decide +kernel
theorem dM_security_13 : decode prog_6_method_19_code 13 = .ok (.invokestatic 124, 3) := by decide +kernel
theorem dM_security_16 : decode prog_6_method_19_code 16 = .ok (.ifCond .ne 5, 3) := by decide +kernel
theorem dM_security_19 : decode prog_6_method_19_code 19 = .ok (.iconst (-1), 1) := by decide +kernel
theorem dM_security_20 : decode prog_6_method_19_code 20 = .ok (.ireturn, 1) := by decide +kernel
theorem dM_security_21 : decode prog_6_method_19_code 21 = .ok (.aload_n 0, 1) := by decide +kernel
theorem dM_security_22 : decode prog_6_method_19_code 22 = .ok (.getfield 13, 3) := by decide +kernel
theorem dM_security_25 : decode prog_6_method_19_code 25 = .ok (.aload_n 0, 1) := by decide +kernel
theorem dM_security_26 : decode prog_6_method_19_code 26 = .ok (.getfield 85, 3) := by decide +kernel
theorem dM_security_29 : decode prog_6_method_19_code 29 = .ok (.iconst 1, 1) := by decide +kernel
theorem dM_security_30 : decode prog_6_method_19_code 30 = .ok (.iastore, 1) := by decide +kernel
theorem dM_security_31 : decode prog_6_method_19_code 31 = .ok (.aload_n 0, 1) := by decide +kernel
theorem dM_security_32 : decode prog_6_method_19_code 32 = .ok (.getfield 17, 3) := by decide +kernel
theorem dM_security_35 : decode prog_6_method_19_code 35 = .ok (.aload_n 0, 1) := by decide +kernel
theorem dM_security_36 : decode prog_6_method_19_code 36 = .ok (.getfield 85, 3) := by decide +kernel
theorem dM_security_39 : decode prog_6_method_19_code 39 = .ok (.lload_n 1, 1) := by decide +kernel
theorem dM_security_40 : decode prog_6_method_19_code 40 = .ok (.lastore, 1) := by decide +kernel
theorem dM_security_41 : decode prog_6_method_19_code 41 = .ok (.aload_n 0, 1) := by decide +kernel
theorem dM_security_42 : decode prog_6_method_19_code 42 = .ok (.getfield 21, 3) := by decide +kernel
theorem dM_security_45 : decode prog_6_method_19_code 45 = .ok (.aload_n 0, 1) := by decide +kernel
theorem dM_security_46 : decode prog_6_method_19_code 46 = .ok (.getfield 85, 3) := by decide +kernel
theorem dM_security_49 : decode prog_6_method_19_code 49 = .ok (.iload_n 3, 1) := by decide +kernel
theorem dM_security_50 : decode prog_6_method_19_code 50 = .ok (.iastore, 1) := by decide +kernel
theorem dM_security_51 : decode prog_6_method_19_code 51 = .ok (.aload_n 0, 1) := by decide +kernel
theorem dM_security_52 : decode prog_6_method_19_code 52 = .ok (.dup, 1) := by decide +kernel
theorem dM_security_53 : decode prog_6_method_19_code 53 = .ok (.getfield 85, 3) := by decide +kernel
theorem dM_security_56 : decode prog_6_method_19_code 56 = .ok (.iconst 1, 1) := by decide +kernel
theorem dM_security_57 : decode prog_6_method_19_code 57 = .ok (.iadd, 1) := by decide +kernel
theorem dM_security_58 : decode prog_6_method_19_code 58 = .ok (.putfield 85, 3) := by decide +kernel
theorem dM_security_61 : decode prog_6_method_19_code 61 = .ok (.aload_n 0, 1) := by decide +kernel
theorem dM_security_62 : decode prog_6_method_19_code 62 = .ok (.getfield 85, 3) := by decide +kernel
theorem dM_security_65 : decode prog_6_method_19_code 65 = .ok (.iconst 1, 1) := by decide +kernel
theorem dM_security_66 : decode prog_6_method_19_code 66 = .ok (.isub, 1) := by decide +kernel
theorem dM_security_67 : decode prog_6_method_19_code 67 = .ok (.ireturn, 1) := by decide +kernel
def g_M_security (m : MS) (each : Int64) (cut : Int32) : Int32 × MS := if (nI (m.1 2)) = (nI (m.1 1)) then (-1, m) else (if (f_M_isPrice each cut) = 0 then (-1, m) else (nI (((m.1 2) + 1) - 1), mN (mI (mL (mI m 0 (va_up (m.2.2.1 0) (nI (m.1 2)).toNatClampNeg 1)) 0 (va_up (m.2.2.2 0) (nI (m.1 2)).toNatClampNeg each)) 1 (va_up (m.2.2.1 1) (nI (m.1 2)).toNatClampNeg cut)) 2 ((m.1 2) + 1)))
set_option maxHeartbeats 4000000 in
set_option maxRecDepth 100000 in
theorem c_M_security (l : Launch) (D : va_G) (cI cL cQ : ClassId) (d : Nat → Nat) (κ0 : Nat → Option va_E) (m : MS) (hm : IsM cI cL d κ0 m) (hB : MB m) (sz : Nat) (each : Int64) (cut : Int32)  : Met l yM_security wM_security { frames := 1, cells := 0, slots := 0, locals := 22 } (va_Pc [.ref (d 0), .long (each), .int (cut)] (kC D vCl (kT cI cL cQ) d κ0 sz)) (kNi D vCl d (kA d κ0 sz) (fun r κ' => r = (g_M_security m each cut).1 ∧ MW cI cL κ0 d κ' (g_M_security m each cut).2)) 0 0 (kA d κ0 sz) := by
  refine kMet (by decide) (Nat.le_of_ble_eq_true rfl) ?_
  intro p0 e0 s0 m0 below0 meth0 c0 hx hb hr hml hown hlocks hin hts hsz hP hK ls hl
  subst hsz
  have hl : lv_has ls 4 [(0, .ref (d 0)), (1, .long (each)), (3, .int (cut))] := hl
  have hB9 := hB
  obtain ⟨hb0, hb1, hb2, hb3, hb4, hb5, hb6, hb7, hb8, hb9, hb10⟩ := hB9
  obtain ⟨κ, hM, hW⟩ : ∃ κ', kW D vCl d κ' (kA d κ0 s0.heap.size) s0.heap s0.heap [] ∧ MW cI cL κ0 d κ' m := ⟨κ0, kW.start hP, ⟨hm, fun _ _ => rfl⟩⟩
  refine lv_aload_n hx hb dM_security_0 rfl (lv_at hl 0 rfl) ?_
  refine ka_get (v := .int (nI (m.1 2))) (ci := 4) (C := RM) (T := TM) (N := 26) hx hb hts inM hown hK hM.1 (q := 0) hW.1.1 rfl 2 (by decide) (hts _ tw_386) (fun _ h9 => h9) rfl dM_security_1 ?_
  refine lv_aload_n hx hb dM_security_4 rfl (lv_at hl 0 rfl) ?_
  refine ka_get (v := .int (nI (m.1 1))) (ci := 4) (C := RM) (T := TM) (N := 26) hx hb hts inM hown hK hM.1 (q := 0) hW.1.1 rfl 1 (by decide) (hts _ tw_385) (fun _ h9 => h9) rfl dM_security_5 ?_
  refine lv_icmp_eq (tgt := 19) hx hb dM_security_8 (by decide) (fun c_8 => ?_) (fun c_8 => ?_)
  · refine lv_iconst (v := -1) hx hb dM_security_19 (by decide) ?_
    have hg : g_M_security m each cut = (-1, m) := by rw [g_M_security, if_pos c_8]
    exact W.iret (v := -1) hx hb hr (fun t ht h9 => kNi.of hM ht (by rw [hg]; exact ⟨rfl, hW⟩)) hM.2.2.2.2 dM_security_20
  · have hlt : m.1 2 < m.1 1 := Nat.lt_of_le_of_ne hb4 (fun q => c_8 (by rw [q]))
    refine lv_lload_n hx hb dM_security_11 rfl (lv_at hl 1 rfl) ?_
    refine lv_iload_n hx hb dM_security_12 rfl (lv_at hl 2 rfl) ?_
    refine vp_callSi (W.runS (As := [.long (each), .int (cut)]) (rest := []) ⟨hx, hb, hml, hown, hts⟩ (c_M_isPrice l D cI cL cQ d κ _ each cut) (cwS 2 hts (k_gS tw_487 tw_488 tw_41 tw_489) rfl rfl rfl (by decide +kernel) ⟨Nat.le_of_ble_eq_true rfl, Nat.le_of_ble_eq_true rfl⟩) (kPreS hM.1 hK) rfl rfl hl.1 rfl (lv_room (Nat.le_of_ble_eq_true rfl)) dM_security_13 ⟨Nat.le_of_ble_eq_true rfl, Nat.le_of_ble_eq_true rfl⟩) (fun r_13 e_13 => ?_)
    subst e_13
    refine lv_if_ne (tgt := 21) hx hb dM_security_16 (by decide) (fun c_16 => ?_) (fun c_16 => ?_)
    · refine lv_aload_n hx hb dM_security_21 rfl (lv_at hl 0 rfl) ?_
      refine ka_get (v := .ref (d 1)) (ci := 4) (C := RM) (T := TM) (N := 26) hx hb hts inM hown hK hM.1 (q := 0) hW.1.1 rfl 4 (by decide) (hts _ tw_388) (fun _ h9 => h9) rfl dM_security_22 ?_
      refine lv_aload_n hx hb dM_security_25 rfl (lv_at hl 0 rfl) ?_
      refine ka_get (v := .int (nI (m.1 2))) (ci := 4) (C := RM) (T := TM) (N := 26) hx hb hts inM hown hK hM.1 (q := 0) hW.1.1 rfl 2 (by decide) (hts _ tw_386) (fun _ h9 => h9) rfl dM_security_26 ?_
      refine lv_iconst (v := 1) hx hb dM_security_29 (by decide) ?_
      refine ka_iast (f := m.2.2.1 0) hx hb hK hM 0 (q := 1) hW.1.2.1 rfl (i := nI (m.1 2)) (x := 1) (by first | assumption | exact vp_in_nI (by omega) (by omega)) dM_security_30 (fun H locs hM => ?_)
      obtain ⟨κ, hM, hW⟩ : ∃ κ', kW D vCl d κ' (kA d κ0 s0.heap.size) s0.heap H locs ∧ MW cI cL κ0 d κ' (mI m 0 (va_up (m.2.2.1 0) (nI (m.1 2)).toNatClampNeg 1)) := ⟨_, hM, mw_sort _ hW⟩
      refine lv_aload_n hx hb dM_security_31 rfl (lv_at hl 0 rfl) ?_
      refine ka_get (v := .ref (d 2)) (ci := 4) (C := RM) (T := TM) (N := 26) hx hb hts inM hown hK hM.1 (q := 0) hW.1.1 rfl 5 (by decide) (hts _ tw_389) (fun _ h9 => h9) rfl dM_security_32 ?_
      refine lv_aload_n hx hb dM_security_35 rfl (lv_at hl 0 rfl) ?_
      refine ka_get (v := .int (nI (m.1 2))) (ci := 4) (C := RM) (T := TM) (N := 26) hx hb hts inM hown hK hM.1 (q := 0) hW.1.1 rfl 2 (by decide) (hts _ tw_386) (fun _ h9 => h9) rfl dM_security_36 ?_
      refine lv_lload_n hx hb dM_security_39 rfl (lv_at hl 1 rfl) ?_
      refine ka_last (f := m.2.2.2 0) hx hb hK hM 1 (q := 2) hW.1.2.2.1 rfl (i := nI (m.1 2)) (x := each) (by first | assumption | exact vp_in_nI (by omega) (by omega)) dM_security_40 (fun H locs hM => ?_)
      obtain ⟨κ, hM, hW⟩ : ∃ κ', kW D vCl d κ' (kA d κ0 s0.heap.size) s0.heap H locs ∧ MW cI cL κ0 d κ' (mL (mI m 0 (va_up (m.2.2.1 0) (nI (m.1 2)).toNatClampNeg 1)) 0 (va_up (m.2.2.2 0) (nI (m.1 2)).toNatClampNeg each)) := ⟨_, hM, mw_price _ hW⟩
      refine lv_aload_n hx hb dM_security_41 rfl (lv_at hl 0 rfl) ?_
      refine ka_get (v := .ref (d 3)) (ci := 4) (C := RM) (T := TM) (N := 26) hx hb hts inM hown hK hM.1 (q := 0) hW.1.1 rfl 6 (by decide) (hts _ tw_390) (fun _ h9 => h9) rfl dM_security_42 ?_
      refine lv_aload_n hx hb dM_security_45 rfl (lv_at hl 0 rfl) ?_
      refine ka_get (v := .int (nI (m.1 2))) (ci := 4) (C := RM) (T := TM) (N := 26) hx hb hts inM hown hK hM.1 (q := 0) hW.1.1 rfl 2 (by decide) (hts _ tw_386) (fun _ h9 => h9) rfl dM_security_46 ?_
      refine lv_iload_n hx hb dM_security_49 rfl (lv_at hl 2 rfl) ?_
      refine ka_iast (f := m.2.2.1 1) hx hb hK hM 0 (q := 3) hW.1.2.2.2.1 rfl (i := nI (m.1 2)) (x := cut) (by first | assumption | exact vp_in_nI (by omega) (by omega)) dM_security_50 (fun H locs hM => ?_)
      obtain ⟨κ, hM, hW⟩ : ∃ κ', kW D vCl d κ' (kA d κ0 s0.heap.size) s0.heap H locs ∧ MW cI cL κ0 d κ' (mI (mL (mI m 0 (va_up (m.2.2.1 0) (nI (m.1 2)).toNatClampNeg 1)) 0 (va_up (m.2.2.2 0) (nI (m.1 2)).toNatClampNeg each)) 1 (va_up (m.2.2.1 1) (nI (m.1 2)).toNatClampNeg cut)) := ⟨_, hM, mw_haircut _ hW⟩
      refine lv_aload_n hx hb dM_security_51 rfl (lv_at hl 0 rfl) ?_
      refine lv_dup hx hb dM_security_52 rfl ?_
      refine ka_get (v := .int (nI (m.1 2))) (ci := 4) (C := RM) (T := TM) (N := 26) hx hb hts inM hown hK hM.1 (q := 0) hW.1.1 rfl 2 (by decide) (hts _ tw_386) (fun _ h9 => h9) rfl dM_security_53 ?_
      refine lv_iconst (v := 1) hx hb dM_security_56 (by decide) ?_
      refine lv_iadd hx hb dM_security_57 ?_
      refine k_topi (show nI (m.1 2) + 1 = nI ((m.1 2) + 1) from nI_add _ _) ?_
      refine ka_put (D := D) (ci := 4) (v := .int (nI ((m.1 2) + 1))) (ty := .int) (C := RM) (T := TM) (N := 26) hx hb hts inM tM tM_ok nM hown hK hM (q := 0) hW.1.1 rfl 2 (by decide) (hts _ tw_386) (fun _ h9 => h9) rfl (by decide +kernel) rfl rfl (Nat.le_of_ble_eq_true rfl) dM_security_58 (fun H locs hM => ?_)
      obtain ⟨κ, hM, hW⟩ : ∃ κ', kW D vCl d κ' (kA d κ0 s0.heap.size) s0.heap H locs ∧ MW cI cL κ0 d κ' (mN (mI (mL (mI m 0 (va_up (m.2.2.1 0) (nI (m.1 2)).toNatClampNeg 1)) 0 (va_up (m.2.2.2 0) (nI (m.1 2)).toNatClampNeg each)) 1 (va_up (m.2.2.1 1) (nI (m.1 2)).toNatClampNeg cut)) 2 ((m.1 2) + 1)) := ⟨_, hM, mw_assets ((m.1 2) + 1) hW⟩
      refine lv_aload_n hx hb dM_security_61 rfl (lv_at hl 0 rfl) ?_
      refine ka_get (v := .int (nI ((m.1 2) + 1))) (ci := 4) (C := RM) (T := TM) (N := 26) hx hb hts inM hown hK hM.1 (q := 0) hW.1.1 rfl 2 (by decide) (hts _ tw_386) (fun _ h9 => h9) rfl dM_security_62 ?_
      refine lv_iconst (v := 1) hx hb dM_security_65 (by decide) ?_
      refine lv_isub hx hb dM_security_66 ?_
      refine k_topi (show nI ((m.1 2) + 1) - 1 = nI (((m.1 2) + 1) - 1) from pk_sub (a := ((m.1 2) + 1)) (b := 1) (by omega)) ?_
      have hg : g_M_security m each cut = (nI (((m.1 2) + 1) - 1), mN (mI (mL (mI m 0 (va_up (m.2.2.1 0) (nI (m.1 2)).toNatClampNeg 1)) 0 (va_up (m.2.2.2 0) (nI (m.1 2)).toNatClampNeg each)) 1 (va_up (m.2.2.1 1) (nI (m.1 2)).toNatClampNeg cut)) 2 ((m.1 2) + 1)) := by rw [g_M_security, if_neg c_8, if_neg c_16]
      exact W.iret (v := nI (((m.1 2) + 1) - 1)) hx hb hr (fun t ht h9 => kNi.of hM ht (by rw [hg]; exact ⟨rfl, hW⟩)) hM.2.2.2.2 dM_security_67
    · refine lv_iconst (v := -1) hx hb dM_security_19 (by decide) ?_
      have hg : g_M_security m each cut = (-1, m) := by rw [g_M_security, if_neg c_8, if_pos c_16]
      exact W.iret (v := -1) hx hb hr (fun t ht h9 => kNi.of hM ht (by rw [hg]; exact ⟨rfl, hW⟩)) hM.2.2.2.2 dM_security_20
end
section
theorem MB_move {m : MS} {p a : Int32} {b : Int64} (hB : MB m) (h : m.1 3 < 1040) : MB (g_M_move m p a b) := by
  obtain ⟨hb0, hb1, hb2, hb3, hb4, hb5, hb6, hb7, hb8, hb9, hb10⟩ := hB
  exact ⟨hb0, hb1, hb2, hb3, hb4, (by show m.1 3 + 1 ≤ 1040; omega), hb6, hb7, hb8, hb9, hb10⟩
theorem MB_pledge {m : MS} {p a : Int32} {b : Int64} (hB : MB m) (h : m.1 5 < 520) : MB (g_M_pledgeMore m p a b) := by
  obtain ⟨hb0, hb1, hb2, hb3, hb4, hb5, hb6, hb7, hb8, hb9, hb10⟩ := hB
  exact ⟨hb0, hb1, hb2, hb3, hb4, hb5, hb6, (by show m.1 5 + 1 ≤ 520; omega), hb8, hb9, hb10⟩
theorem asset_64 {m : MS} (hB : MB m) {a : Int32} (h : ¬ f_M_isAsset m a = 0) : vp_in a 64 := by
  unfold f_M_isAsset at h
  by_cases c1 : a < 0
  · rw [if_pos c1] at h; exact absurd rfl h
  · rw [if_neg c1] at h
    by_cases c2 : nI (m.1 2) ≤ a
    · rw [if_pos c2] at h; exact absurd rfl h
    · obtain ⟨hb0, hb1, hb2, hb3, hb4, -⟩ := hB
      obtain ⟨j, hj, rfl⟩ := nI_of c1
      have h3 : j < m.1 2 := Nat.lt_of_not_le (fun q => c2 (nI_le q hj))
      exact vp_in_nI (by omega) (by decide)
theorem limitAt_pos {m : MS} {p q : Int32} (hB : MB m) (h : 0 ≤ f_M_limitAt m p q) : 1 ≤ m.1 6 := by
  rcases limitAt_in (p := p) (q := q) hB with e | ⟨j, hj, e⟩
  · rw [e] at h; exact absurd h (by decide)
  · omega

theorem dM_give_0 : decode prog_6_method_22_code 0 = .ok (.aload_n 0, 1) := by decide +kernel
theorem dM_give_1 : decode prog_6_method_22_code 1 = .ok (.iload_n 1, 1) := by decide +kernel
theorem dM_give_2 : decode prog_6_method_22_code 2 = .ok (.invokevirtual 138, 3) := by decide +kernel
theorem dM_give_5 : decode prog_6_method_22_code 5 = .ok (.ifCond .eq 18, 3) := by decide +kernel
theorem dM_give_8 : decode prog_6_method_22_code 8 = .ok (.aload_n 0, 1) := by decide +kernel
theorem dM_give_9 : decode prog_6_method_22_code 9 = .ok (.iload_n 2, 1) := by decide +kernel
theorem dM_give_10 : decode prog_6_method_22_code 10 = .ok (.invokevirtual 128, 3) := by decide +kernel
theorem dM_give_13 : decode prog_6_method_22_code 13 = .ok (.ifCond .eq 10, 3) := by decide +kernel
theorem dM_give_16 : decode prog_6_method_22_code 16 = .ok (.lload_n 3, 1) := by decide +kernel
theorem dM_give_17 : decode prog_6_method_22_code 17 = .ok (.invokestatic 141, 3) := by decide +kernel
theorem dM_give_20 : decode prog_6_method_22_code 20 = .ok (.ifCond .ne 6, 3) := by decide +kernel
theorem dM_give_23 : decode prog_6_method_22_code 23 = .ok (.bipush 8, 2) := by decide +kernel
theorem dM_give_25 : decode prog_6_method_22_code 25 = .ok (.ireturn, 1) := by decide +kernel
theorem dM_give_26 : decode prog_6_method_22_code 26 = .ok (.aload_n 0, 1) := by decide +kernel
theorem dM_give_27 : decode prog_6_method_22_code 27 = .ok (.iconst 0, 1) := by decide +kernel
theorem dM_give_28 : decode prog_6_method_22_code 28 = .ok (.iload_n 2, 1) := by decide +kernel
theorem dM_give_29 : decode prog_6_method_22_code 29 = .ok (.invokevirtual 102, 3) := by decide +kernel
theorem dM_give_32 : decode prog_6_method_22_code 32 = .ok (.lload_n 3, 1) := by decide +kernel
theorem dM_give_33 : decode prog_6_method_22_code 33 = .ok (.lsub, 1) := by decide +kernel
theorem dM_give_34 : decode prog_6_method_22_code 34 = .ok (.ldc2_w 145, 3) := by decide +kernel
theorem dM_give_37 : decode prog_6_method_22_code 37 = .ok (.lcmp, 1) := by decide +kernel
theorem dM_give_38 : decode prog_6_method_22_code 38 = .ok (.ifCond .ge 6, 3) := by decide +kernel
theorem dM_give_41 : decode prog_6_method_22_code 41 = .ok (.bipush 10, 2) := by decide +kernel
theorem dM_give_43 : decode prog_6_method_22_code 43 = .ok (.ireturn, 1) := by decide +kernel
theorem dM_give_44 : decode prog_6_method_22_code 44 = .ok (.aload_n 0, 1) := by decide +kernel
theorem dM_give_45 : decode prog_6_method_22_code 45 = .ok (.iconst 0, 1) := by decide +kernel
theorem dM_give_46 : decode prog_6_method_22_code 46 = .ok (.iload_n 2, 1) := by decide +kernel
theorem dM_give_47 : decode prog_6_method_22_code 47 = .ok (.lload_n 3, 1) := by decide +kernel
theorem dM_give_48 : decode prog_6_method_22_code 48 = .ok (.lneg, 1) := by decide +kernel
theorem dM_give_49 : decode prog_6_method_22_code 49 = .ok (.invokevirtual 147, 3) := by decide +kernel
theorem dM_give_52 : decode prog_6_method_22_code 52 = .ok (.aload_n 0, 1) := by decide +kernel
theorem dM_give_53 : decode prog_6_method_22_code 53 = .ok (.iload_n 1, 1) := by decide +kernel
theorem dM_give_54 : decode prog_6_method_22_code 54 = .ok (.iload_n 2, 1) := by decide +kernel
theorem dM_give_55 : decode prog_6_method_22_code 55 = .ok (.lload_n 3, 1) := by decide +kernel
theorem dM_give_56 : decode prog_6_method_22_code 56 = .ok (.invokevirtual 147, 3) := by decide +kernel
theorem dM_give_59 : decode prog_6_method_22_code 59 = .ok (.iconst 0, 1) := by decide +kernel
theorem dM_give_60 : decode prog_6_method_22_code 60 = .ok (.ireturn, 1) := by decide +kernel
def g_M_give (m : MS) (p : Int32) (a : Int32) (v : Int64) : Int32 × MS := if (f_M_isParticipant m p) = 0 then (8, m) else (if (f_M_isAsset m a) = 0 then (8, m) else (if (f_M_isAmount v) = 0 then (8, m) else (if ((f_M_position m 0 a) - v) < (-4000000000000000000) then (10, m) else (0, (g_M_move (g_M_move m 0 a (-v)) p a v)))))
set_option maxHeartbeats 4000000 in
set_option maxRecDepth 100000 in
theorem c_M_give (l : Launch) (D : va_G) (cI cL cQ : ClassId) (d : Nat → Nat) (κ0 : Nat → Option va_E) (m : MS) (hm : IsM cI cL d κ0 m) (hB : MB m) (sz : Nat) (p : Int32) (a : Int32) (v : Int64) (hmv : m.1 3 + 1 < 1040) : Met l yM_give wM_give { frames := 1, cells := 0, slots := 0, locals := 25 } (va_Pc [.ref (d 0), .int (p), .int (a), .long (v)] (kC D vCl (kT cI cL cQ) d κ0 sz)) (kNi D vCl d (kA d κ0 sz) (fun r κ' => r = (g_M_give m p a v).1 ∧ MW cI cL κ0 d κ' (g_M_give m p a v).2)) 0 0 (kA d κ0 sz) := by
  refine kMet (by decide) (Nat.le_of_ble_eq_true rfl) ?_
  intro p0 e0 s0 m0 below0 meth0 c0 hx hb hr hml hown hlocks hin hts hsz hP hK ls hl
  subst hsz
  have hl : lv_has ls 5 [(0, .ref (d 0)), (1, .int (p)), (2, .int (a)), (3, .long (v))] := hl
  have hB9 := hB
  obtain ⟨hb0, hb1, hb2, hb3, hb4, hb5, hb6, hb7, hb8, hb9, hb10⟩ := hB9
  obtain ⟨κ, hM, hW⟩ : ∃ κ', kW D vCl d κ' (kA d κ0 s0.heap.size) s0.heap s0.heap [] ∧ MW cI cL κ0 d κ' m := ⟨κ0, kW.start hP, ⟨hm, fun _ _ => rfl⟩⟩
  refine lv_aload_n hx hb dM_give_0 rfl (lv_at hl 0 rfl) ?_
  refine lv_iload_n hx hb dM_give_1 rfl (lv_at hl 1 rfl) ?_
  refine vp_callSi (W.runV (C := RM) (As := [.int (p)]) (rest := []) ⟨hx, hb, hml, hown, hts⟩ (c_M_isParticipant l D cI cL cQ d κ m hW.1 hB _ p) (cwV 1 hts (k_gV tw_529 tw_531 tw_31 tw_41 tw_532) rfl rfl rfl (by decide +kernel) ⟨Nat.le_of_ble_eq_true rfl, Nat.le_of_ble_eq_true rfl⟩) (kPreV hM.1 hK (q := 0) hW.1.1 rfl) rfl rfl hl.1 rfl (lv_room (Nat.le_of_ble_eq_true rfl)) dM_give_2 ⟨Nat.le_of_ble_eq_true rfl, Nat.le_of_ble_eq_true rfl⟩) (fun r_2 e_2 => ?_)
  subst e_2
  refine lv_if_eq (tgt := 23) hx hb dM_give_5 (by decide) (fun c_5 => ?_) (fun c_5 => ?_)
  · refine lv_bipush (v := 8) hx hb dM_give_23 (by decide) ?_
    have hg : g_M_give m p a v = (8, m) := by rw [g_M_give, if_pos c_5]
    exact W.iret (v := 8) hx hb hr (fun t ht h9 => kNi.of hM ht (by rw [hg]; exact ⟨rfl, hW⟩)) hM.2.2.2.2 dM_give_25
  · refine lv_aload_n hx hb dM_give_8 rfl (lv_at hl 0 rfl) ?_
    refine lv_iload_n hx hb dM_give_9 rfl (lv_at hl 2 rfl) ?_
    refine vp_callSi (W.runV (C := RM) (As := [.int (a)]) (rest := []) ⟨hx, hb, hml, hown, hts⟩ (c_M_isAsset l D cI cL cQ d κ m hW.1 hB _ a) (cwV 1 hts (k_gV tw_495 tw_497 tw_25 tw_41 tw_498) rfl rfl rfl (by decide +kernel) ⟨Nat.le_of_ble_eq_true rfl, Nat.le_of_ble_eq_true rfl⟩) (kPreV hM.1 hK (q := 0) hW.1.1 rfl) rfl rfl hl.1 rfl (lv_room (Nat.le_of_ble_eq_true rfl)) dM_give_10 ⟨Nat.le_of_ble_eq_true rfl, Nat.le_of_ble_eq_true rfl⟩) (fun r_10 e_10 => ?_)
    subst e_10
    refine lv_if_eq (tgt := 23) hx hb dM_give_13 (by decide) (fun c_13 => ?_) (fun c_13 => ?_)
    · refine lv_bipush (v := 8) hx hb dM_give_23 (by decide) ?_
      have hg : g_M_give m p a v = (8, m) := by rw [g_M_give, if_neg c_5, if_pos c_13]
      exact W.iret (v := 8) hx hb hr (fun t ht h9 => kNi.of hM ht (by rw [hg]; exact ⟨rfl, hW⟩)) hM.2.2.2.2 dM_give_25
    · refine lv_lload_n hx hb dM_give_16 rfl (lv_at hl 3 rfl) ?_
      refine vp_callSi (W.runS (As := [.long (v)]) (rest := []) ⟨hx, hb, hml, hown, hts⟩ (c_M_isAmount l D cI cL cQ d κ _ v) (cwS 1 hts (k_gS tw_533 tw_534 tw_41 tw_535) rfl rfl rfl (by decide +kernel) ⟨Nat.le_of_ble_eq_true rfl, Nat.le_of_ble_eq_true rfl⟩) (kPreS hM.1 hK) rfl rfl hl.1 rfl (lv_room (Nat.le_of_ble_eq_true rfl)) dM_give_17 ⟨Nat.le_of_ble_eq_true rfl, Nat.le_of_ble_eq_true rfl⟩) (fun r_17 e_17 => ?_)
      subst e_17
      refine lv_if_ne (tgt := 26) hx hb dM_give_20 (by decide) (fun c_20 => ?_) (fun c_20 => ?_)
      · refine lv_aload_n hx hb dM_give_26 rfl (lv_at hl 0 rfl) ?_
        refine lv_iconst (v := 0) hx hb dM_give_27 (by decide) ?_
        refine lv_iload_n hx hb dM_give_28 rfl (lv_at hl 2 rfl) ?_
        refine vp_callSl (W.runV (C := RM) (As := [.int (0), .int (a)]) (rest := []) ⟨hx, hb, hml, hown, hts⟩ (c_M_position l D cI cL cQ d κ m hW.1 hB _ 0 a) (cwV 2 hts (k_gV tw_503 tw_505 tw_27 tw_41 tw_506) rfl rfl rfl (by decide +kernel) ⟨Nat.le_of_ble_eq_true rfl, Nat.le_of_ble_eq_true rfl⟩) (kPreV hM.1 hK (q := 0) hW.1.1 rfl) rfl rfl hl.1 rfl (lv_room (Nat.le_of_ble_eq_true rfl)) dM_give_29 ⟨Nat.le_of_ble_eq_true rfl, Nat.le_of_ble_eq_true rfl⟩) (fun r_29 e_29 => ?_)
        subst e_29
        refine lv_lload_n hx hb dM_give_32 rfl (lv_at hl 3 rfl) ?_
        refine lv_lsub hx hb dM_give_33 ?_
        refine lv_ldc2 (v := -4000000000000000000) hx hb hown (hts _ tw_536) dM_give_34 ?_
        refine kl_ge (tgt := 44) hx hb dM_give_37 dM_give_38 (by decide) (fun c_37 => ?_) (fun c_37 => ?_)
        · refine lv_aload_n hx hb dM_give_44 rfl (lv_at hl 0 rfl) ?_
          refine lv_iconst (v := 0) hx hb dM_give_45 (by decide) ?_
          refine lv_iload_n hx hb dM_give_46 rfl (lv_at hl 2 rfl) ?_
          refine lv_lload_n hx hb dM_give_47 rfl (lv_at hl 3 rfl) ?_
          refine lv_lneg hx hb dM_give_48 ?_
          refine ka_ncallv (W.runV (C := RM) (As := [.int (0), .int (a), .long (-v)]) (rest := []) ⟨hx, hb, hml, hown, hts⟩ (c_M_move l D cI cL cQ d κ m hW.1 hB _ 0 a (-v) (by omega)) (cwV 3 hts (k_gV tw_537 tw_539 tw_32 tw_41 tw_540) rfl rfl rfl (by decide +kernel) ⟨Nat.le_of_ble_eq_true rfl, Nat.le_of_ble_eq_true rfl⟩) (kPreV hM.1 hK (q := 0) hW.1.1 rfl) rfl rfl hl.1 rfl (lv_room (Nat.le_of_ble_eq_true rfl)) dM_give_49 ⟨Nat.le_of_ble_eq_true rfl, Nat.le_of_ble_eq_true rfl⟩) hM (fun _ h9 => Or.inr h9) (fun κ1 H locs hW1 hM => ?_)
          obtain ⟨κ, hM, hW⟩ : ∃ κ', kW D vCl d κ' (kA d κ0 s0.heap.size) s0.heap H locs ∧ MW cI cL κ0 d κ' (g_M_move m 0 a (-v)) := ⟨κ1, hM, hW.trans hW1⟩
          refine lv_aload_n hx hb dM_give_52 rfl (lv_at hl 0 rfl) ?_
          refine lv_iload_n hx hb dM_give_53 rfl (lv_at hl 1 rfl) ?_
          refine lv_iload_n hx hb dM_give_54 rfl (lv_at hl 2 rfl) ?_
          refine lv_lload_n hx hb dM_give_55 rfl (lv_at hl 3 rfl) ?_
          refine ka_ncallv (W.runV (C := RM) (As := [.int (p), .int (a), .long (v)]) (rest := []) ⟨hx, hb, hml, hown, hts⟩ (c_M_move l D cI cL cQ d κ (g_M_move m 0 a (-v)) hW.1 (MB_move hB (by omega)) _ p a v (by show m.1 3 + 1 < 1040; omega)) (cwV 3 hts (k_gV tw_537 tw_539 tw_32 tw_41 tw_540) rfl rfl rfl (by decide +kernel) ⟨Nat.le_of_ble_eq_true rfl, Nat.le_of_ble_eq_true rfl⟩) (kPreV hM.1 hK (q := 0) hW.1.1 rfl) rfl rfl hl.1 rfl (lv_room (Nat.le_of_ble_eq_true rfl)) dM_give_56 ⟨Nat.le_of_ble_eq_true rfl, Nat.le_of_ble_eq_true rfl⟩) hM (fun _ h9 => Or.inr h9) (fun κ1 H locs hW1 hM => ?_)
          obtain ⟨κ, hM, hW⟩ : ∃ κ', kW D vCl d κ' (kA d κ0 s0.heap.size) s0.heap H locs ∧ MW cI cL κ0 d κ' (g_M_move (g_M_move m 0 a (-v)) p a v) := ⟨κ1, hM, hW.trans hW1⟩
          refine lv_iconst (v := 0) hx hb dM_give_59 (by decide) ?_
          have hg : g_M_give m p a v = (0, (g_M_move (g_M_move m 0 a (-v)) p a v)) := by rw [g_M_give, if_neg c_5, if_neg c_13, if_neg c_20, if_neg c_37]
          exact W.iret (v := 0) hx hb hr (fun t ht h9 => kNi.of hM ht (by rw [hg]; exact ⟨rfl, hW⟩)) hM.2.2.2.2 dM_give_60
        · refine lv_bipush (v := 10) hx hb dM_give_41 (by decide) ?_
          have hg : g_M_give m p a v = (10, m) := by rw [g_M_give, if_neg c_5, if_neg c_13, if_neg c_20, if_pos c_37]
          exact W.iret (v := 10) hx hb hr (fun t ht h9 => kNi.of hM ht (by rw [hg]; exact ⟨rfl, hW⟩)) hM.2.2.2.2 dM_give_43
      · refine lv_bipush (v := 8) hx hb dM_give_23 (by decide) ?_
        have hg : g_M_give m p a v = (8, m) := by rw [g_M_give, if_neg c_5, if_neg c_13, if_pos c_20]
        exact W.iret (v := 8) hx hb hr (fun t ht h9 => kNi.of hM ht (by rw [hg]; exact ⟨rfl, hW⟩)) hM.2.2.2.2 dM_give_25

theorem dM_back_0 : decode prog_6_method_23_code 0 = .ok (.aload_n 0, 1) := by decide +kernel
theorem dM_back_1 : decode prog_6_method_23_code 1 = .ok (.iload_n 1, 1) := by decide +kernel
theorem dM_back_2 : decode prog_6_method_23_code 2 = .ok (.invokevirtual 138, 3) := by decide +kernel
theorem dM_back_5 : decode prog_6_method_23_code 5 = .ok (.ifCond .eq 18, 3) := by decide +kernel
theorem dM_back_8 : decode prog_6_method_23_code 8 = .ok (.aload_n 0, 1) := by decide +kernel
theorem dM_back_9 : decode prog_6_method_23_code 9 = .ok (.iload_n 2, 1) := by decide +kernel
theorem dM_back_10 : decode prog_6_method_23_code 10 = .ok (.invokevirtual 128, 3) := by decide +kernel
theorem dM_back_13 : decode prog_6_method_23_code 13 = .ok (.ifCond .eq 10, 3) := by decide +kernel
theorem dM_back_16 : decode prog_6_method_23_code 16 = .ok (.lload_n 3, 1) := by decide +kernel
theorem dM_back_17 : decode prog_6_method_23_code 17 = .ok (.invokestatic 141, 3) := by decide +kernel
theorem dM_back_20 : decode prog_6_method_23_code 20 = .ok (.ifCond .ne 6, 3) := by decide +kernel
theorem dM_back_23 : decode prog_6_method_23_code 23 = .ok (.bipush 8, 2) := by decide +kernel
theorem dM_back_25 : decode prog_6_method_23_code 25 = .ok (.ireturn, 1) := by decide +kernel
theorem dM_back_26 : decode prog_6_method_23_code 26 = .ok (.aload_n 0, 1) := by decide +kernel
theorem dM_back_27 : decode prog_6_method_23_code 27 = .ok (.iload_n 1, 1) := by decide +kernel
theorem dM_back_28 : decode prog_6_method_23_code 28 = .ok (.iload_n 2, 1) := by decide +kernel
theorem dM_back_29 : decode prog_6_method_23_code 29 = .ok (.invokevirtual 102, 3) := by decide +kernel
theorem dM_back_32 : decode prog_6_method_23_code 32 = .ok (.lload_n 3, 1) := by decide +kernel
theorem dM_back_33 : decode prog_6_method_23_code 33 = .ok (.lsub, 1) := by decide +kernel
theorem dM_back_34 : decode prog_6_method_23_code 34 = .ok (.aload_n 0, 1) := by decide +kernel
theorem dM_back_35 : decode prog_6_method_23_code 35 = .ok (.iload_n 1, 1) := by decide +kernel
theorem dM_back_36 : decode prog_6_method_23_code 36 = .ok (.iload_n 2, 1) := by decide +kernel
theorem dM_back_37 : decode prog_6_method_23_code 37 = .ok (.invokevirtual 151, 3) := by decide +kernel
theorem dM_back_40 : decode prog_6_method_23_code 40 = .ok (.lcmp, 1) := by decide +kernel
theorem dM_back_41 : decode prog_6_method_23_code 41 = .ok (.ifCond .ge 6, 3) := by decide +kernel
theorem dM_back_44 : decode prog_6_method_23_code 44 = .ok (.bipush 9, 2) := by decide +kernel
theorem dM_back_46 : decode prog_6_method_23_code 46 = .ok (.ireturn, 1) := by decide +kernel
theorem dM_back_47 : decode prog_6_method_23_code 47 = .ok (.aload_n 0, 1) := by decide +kernel
theorem dM_back_48 : decode prog_6_method_23_code 48 = .ok (.iload_n 1, 1) := by decide +kernel
theorem dM_back_49 : decode prog_6_method_23_code 49 = .ok (.iload_n 2, 1) := by decide +kernel
theorem dM_back_50 : decode prog_6_method_23_code 50 = .ok (.lload_n 3, 1) := by decide +kernel
theorem dM_back_51 : decode prog_6_method_23_code 51 = .ok (.lneg, 1) := by decide +kernel
theorem dM_back_52 : decode prog_6_method_23_code 52 = .ok (.invokevirtual 147, 3) := by decide +kernel
theorem dM_back_55 : decode prog_6_method_23_code 55 = .ok (.aload_n 0, 1) := by decide +kernel
theorem dM_back_56 : decode prog_6_method_23_code 56 = .ok (.iconst 0, 1) := by decide +kernel
theorem dM_back_57 : decode prog_6_method_23_code 57 = .ok (.iload_n 2, 1) := by decide +kernel
theorem dM_back_58 : decode prog_6_method_23_code 58 = .ok (.lload_n 3, 1) := by decide +kernel
theorem dM_back_59 : decode prog_6_method_23_code 59 = .ok (.invokevirtual 147, 3) := by decide +kernel
theorem dM_back_62 : decode prog_6_method_23_code 62 = .ok (.iconst 0, 1) := by decide +kernel
theorem dM_back_63 : decode prog_6_method_23_code 63 = .ok (.ireturn, 1) := by decide +kernel
def g_M_back (m : MS) (p : Int32) (a : Int32) (v : Int64) : Int32 × MS := if (f_M_isParticipant m p) = 0 then (8, m) else (if (f_M_isAsset m a) = 0 then (8, m) else (if (f_M_isAmount v) = 0 then (8, m) else (if ((f_M_position m p a) - v) < (f_M_floorOf m p a) then (9, m) else (0, (g_M_move (g_M_move m p a (-v)) 0 a v)))))
set_option maxHeartbeats 4000000 in
set_option maxRecDepth 100000 in
theorem c_M_back (l : Launch) (D : va_G) (cI cL cQ : ClassId) (d : Nat → Nat) (κ0 : Nat → Option va_E) (m : MS) (hm : IsM cI cL d κ0 m) (hB : MB m) (sz : Nat) (p : Int32) (a : Int32) (v : Int64) (hmv : m.1 3 + 1 < 1040) : Met l yM_back wM_back { frames := 3, cells := 0, slots := 0, locals := 78 } (va_Pc [.ref (d 0), .int (p), .int (a), .long (v)] (kC D vCl (kT cI cL cQ) d κ0 sz)) (kNi D vCl d (kA d κ0 sz) (fun r κ' => r = (g_M_back m p a v).1 ∧ MW cI cL κ0 d κ' (g_M_back m p a v).2)) 0 0 (kA d κ0 sz) := by
  refine kMet (by decide) (Nat.le_of_ble_eq_true rfl) ?_
  intro p0 e0 s0 m0 below0 meth0 c0 hx hb hr hml hown hlocks hin hts hsz hP hK ls hl
  subst hsz
  have hl : lv_has ls 5 [(0, .ref (d 0)), (1, .int (p)), (2, .int (a)), (3, .long (v))] := hl
  have hB9 := hB
  obtain ⟨hb0, hb1, hb2, hb3, hb4, hb5, hb6, hb7, hb8, hb9, hb10⟩ := hB9
  obtain ⟨κ, hM, hW⟩ : ∃ κ', kW D vCl d κ' (kA d κ0 s0.heap.size) s0.heap s0.heap [] ∧ MW cI cL κ0 d κ' m := ⟨κ0, kW.start hP, ⟨hm, fun _ _ => rfl⟩⟩
  refine lv_aload_n hx hb dM_back_0 rfl (lv_at hl 0 rfl) ?_
  refine lv_iload_n hx hb dM_back_1 rfl (lv_at hl 1 rfl) ?_
  refine vp_callSi (W.runV (C := RM) (As := [.int (p)]) (rest := []) ⟨hx, hb, hml, hown, hts⟩ (c_M_isParticipant l D cI cL cQ d κ m hW.1 hB _ p) (cwV 1 hts (k_gV tw_529 tw_531 tw_31 tw_41 tw_532) rfl rfl rfl (by decide +kernel) ⟨Nat.le_of_ble_eq_true rfl, Nat.le_of_ble_eq_true rfl⟩) (kPreV hM.1 hK (q := 0) hW.1.1 rfl) rfl rfl hl.1 rfl (lv_room (Nat.le_of_ble_eq_true rfl)) dM_back_2 ⟨Nat.le_of_ble_eq_true rfl, Nat.le_of_ble_eq_true rfl⟩) (fun r_2 e_2 => ?_)
  subst e_2
  refine lv_if_eq (tgt := 23) hx hb dM_back_5 (by decide) (fun c_5 => ?_) (fun c_5 => ?_)
  · refine lv_bipush (v := 8) hx hb dM_back_23 (by decide) ?_
    have hg : g_M_back m p a v = (8, m) := by rw [g_M_back, if_pos c_5]
    exact W.iret (v := 8) hx hb hr (fun t ht h9 => kNi.of hM ht (by rw [hg]; exact ⟨rfl, hW⟩)) hM.2.2.2.2 dM_back_25
  · refine lv_aload_n hx hb dM_back_8 rfl (lv_at hl 0 rfl) ?_
    refine lv_iload_n hx hb dM_back_9 rfl (lv_at hl 2 rfl) ?_
    refine vp_callSi (W.runV (C := RM) (As := [.int (a)]) (rest := []) ⟨hx, hb, hml, hown, hts⟩ (c_M_isAsset l D cI cL cQ d κ m hW.1 hB _ a) (cwV 1 hts (k_gV tw_495 tw_497 tw_25 tw_41 tw_498) rfl rfl rfl (by decide +kernel) ⟨Nat.le_of_ble_eq_true rfl, Nat.le_of_ble_eq_true rfl⟩) (kPreV hM.1 hK (q := 0) hW.1.1 rfl) rfl rfl hl.1 rfl (lv_room (Nat.le_of_ble_eq_true rfl)) dM_back_10 ⟨Nat.le_of_ble_eq_true rfl, Nat.le_of_ble_eq_true rfl⟩) (fun r_10 e_10 => ?_)
    subst e_10
    refine lv_if_eq (tgt := 23) hx hb dM_back_13 (by decide) (fun c_13 => ?_) (fun c_13 => ?_)
    · refine lv_bipush (v := 8) hx hb dM_back_23 (by decide) ?_
      have hg : g_M_back m p a v = (8, m) := by rw [g_M_back, if_neg c_5, if_pos c_13]
      exact W.iret (v := 8) hx hb hr (fun t ht h9 => kNi.of hM ht (by rw [hg]; exact ⟨rfl, hW⟩)) hM.2.2.2.2 dM_back_25
    · refine lv_lload_n hx hb dM_back_16 rfl (lv_at hl 3 rfl) ?_
      refine vp_callSi (W.runS (As := [.long (v)]) (rest := []) ⟨hx, hb, hml, hown, hts⟩ (c_M_isAmount l D cI cL cQ d κ _ v) (cwS 1 hts (k_gS tw_533 tw_534 tw_41 tw_535) rfl rfl rfl (by decide +kernel) ⟨Nat.le_of_ble_eq_true rfl, Nat.le_of_ble_eq_true rfl⟩) (kPreS hM.1 hK) rfl rfl hl.1 rfl (lv_room (Nat.le_of_ble_eq_true rfl)) dM_back_17 ⟨Nat.le_of_ble_eq_true rfl, Nat.le_of_ble_eq_true rfl⟩) (fun r_17 e_17 => ?_)
      subst e_17
      refine lv_if_ne (tgt := 26) hx hb dM_back_20 (by decide) (fun c_20 => ?_) (fun c_20 => ?_)
      · refine lv_aload_n hx hb dM_back_26 rfl (lv_at hl 0 rfl) ?_
        refine lv_iload_n hx hb dM_back_27 rfl (lv_at hl 1 rfl) ?_
        refine lv_iload_n hx hb dM_back_28 rfl (lv_at hl 2 rfl) ?_
        refine vp_callSl (W.runV (C := RM) (As := [.int (p), .int (a)]) (rest := []) ⟨hx, hb, hml, hown, hts⟩ (c_M_position l D cI cL cQ d κ m hW.1 hB _ p a) (cwV 2 hts (k_gV tw_503 tw_505 tw_27 tw_41 tw_506) rfl rfl rfl (by decide +kernel) ⟨Nat.le_of_ble_eq_true rfl, Nat.le_of_ble_eq_true rfl⟩) (kPreV hM.1 hK (q := 0) hW.1.1 rfl) rfl rfl hl.1 rfl (lv_room (Nat.le_of_ble_eq_true rfl)) dM_back_29 ⟨Nat.le_of_ble_eq_true rfl, Nat.le_of_ble_eq_true rfl⟩) (fun r_29 e_29 => ?_)
        subst e_29
        refine lv_lload_n hx hb dM_back_32 rfl (lv_at hl 3 rfl) ?_
        refine lv_lsub hx hb dM_back_33 ?_
        refine lv_aload_n hx hb dM_back_34 rfl (lv_at hl 0 rfl) ?_
        refine lv_iload_n hx hb dM_back_35 rfl (lv_at hl 1 rfl) ?_
        refine lv_iload_n hx hb dM_back_36 rfl (lv_at hl 2 rfl) ?_
        refine vp_callSl (W.runV (C := RM) (As := [.int (p), .int (a)]) (rest := [.long ((f_M_position m p a) - v)]) ⟨hx, hb, hml, hown, hts⟩ (c_M_floorOf l D cI cL cQ d κ m hW.1 hB _ p a (asset_64 hB (by assumption))) (cwV 2 hts (k_gV tw_545 tw_547 tw_33 tw_41 tw_548) rfl rfl rfl (by decide +kernel) ⟨Nat.le_of_ble_eq_true rfl, Nat.le_of_ble_eq_true rfl⟩) (kPreV hM.1 hK (q := 0) hW.1.1 rfl) rfl rfl hl.1 rfl (lv_room (Nat.le_of_ble_eq_true rfl)) dM_back_37 ⟨Nat.le_of_ble_eq_true rfl, Nat.le_of_ble_eq_true rfl⟩) (fun r_37 e_37 => ?_)
        subst e_37
        refine kl_ge (tgt := 47) hx hb dM_back_40 dM_back_41 (by decide) (fun c_40 => ?_) (fun c_40 => ?_)
        · refine lv_aload_n hx hb dM_back_47 rfl (lv_at hl 0 rfl) ?_
          refine lv_iload_n hx hb dM_back_48 rfl (lv_at hl 1 rfl) ?_
          refine lv_iload_n hx hb dM_back_49 rfl (lv_at hl 2 rfl) ?_
          refine lv_lload_n hx hb dM_back_50 rfl (lv_at hl 3 rfl) ?_
          refine lv_lneg hx hb dM_back_51 ?_
          refine ka_ncallv (W.runV (C := RM) (As := [.int (p), .int (a), .long (-v)]) (rest := []) ⟨hx, hb, hml, hown, hts⟩ (c_M_move l D cI cL cQ d κ m hW.1 hB _ p a (-v) (by omega)) (cwV 3 hts (k_gV tw_537 tw_539 tw_32 tw_41 tw_540) rfl rfl rfl (by decide +kernel) ⟨Nat.le_of_ble_eq_true rfl, Nat.le_of_ble_eq_true rfl⟩) (kPreV hM.1 hK (q := 0) hW.1.1 rfl) rfl rfl hl.1 rfl (lv_room (Nat.le_of_ble_eq_true rfl)) dM_back_52 ⟨Nat.le_of_ble_eq_true rfl, Nat.le_of_ble_eq_true rfl⟩) hM (fun _ h9 => Or.inr h9) (fun κ1 H locs hW1 hM => ?_)
          obtain ⟨κ, hM, hW⟩ : ∃ κ', kW D vCl d κ' (kA d κ0 s0.heap.size) s0.heap H locs ∧ MW cI cL κ0 d κ' (g_M_move m p a (-v)) := ⟨κ1, hM, hW.trans hW1⟩
          refine lv_aload_n hx hb dM_back_55 rfl (lv_at hl 0 rfl) ?_
          refine lv_iconst (v := 0) hx hb dM_back_56 (by decide) ?_
          refine lv_iload_n hx hb dM_back_57 rfl (lv_at hl 2 rfl) ?_
          refine lv_lload_n hx hb dM_back_58 rfl (lv_at hl 3 rfl) ?_
          refine ka_ncallv (W.runV (C := RM) (As := [.int (0), .int (a), .long (v)]) (rest := []) ⟨hx, hb, hml, hown, hts⟩ (c_M_move l D cI cL cQ d κ (g_M_move m p a (-v)) hW.1 (MB_move hB (by omega)) _ 0 a v (by show m.1 3 + 1 < 1040; omega)) (cwV 3 hts (k_gV tw_537 tw_539 tw_32 tw_41 tw_540) rfl rfl rfl (by decide +kernel) ⟨Nat.le_of_ble_eq_true rfl, Nat.le_of_ble_eq_true rfl⟩) (kPreV hM.1 hK (q := 0) hW.1.1 rfl) rfl rfl hl.1 rfl (lv_room (Nat.le_of_ble_eq_true rfl)) dM_back_59 ⟨Nat.le_of_ble_eq_true rfl, Nat.le_of_ble_eq_true rfl⟩) hM (fun _ h9 => Or.inr h9) (fun κ1 H locs hW1 hM => ?_)
          obtain ⟨κ, hM, hW⟩ : ∃ κ', kW D vCl d κ' (kA d κ0 s0.heap.size) s0.heap H locs ∧ MW cI cL κ0 d κ' (g_M_move (g_M_move m p a (-v)) 0 a v) := ⟨κ1, hM, hW.trans hW1⟩
          refine lv_iconst (v := 0) hx hb dM_back_62 (by decide) ?_
          have hg : g_M_back m p a v = (0, (g_M_move (g_M_move m p a (-v)) 0 a v)) := by rw [g_M_back, if_neg c_5, if_neg c_13, if_neg c_20, if_neg c_40]
          exact W.iret (v := 0) hx hb hr (fun t ht h9 => kNi.of hM ht (by rw [hg]; exact ⟨rfl, hW⟩)) hM.2.2.2.2 dM_back_63
        · refine lv_bipush (v := 9) hx hb dM_back_44 (by decide) ?_
          have hg : g_M_back m p a v = (9, m) := by rw [g_M_back, if_neg c_5, if_neg c_13, if_neg c_20, if_pos c_40]
          exact W.iret (v := 9) hx hb hr (fun t ht h9 => kNi.of hM ht (by rw [hg]; exact ⟨rfl, hW⟩)) hM.2.2.2.2 dM_back_46
      · refine lv_bipush (v := 8) hx hb dM_back_23 (by decide) ?_
        have hg : g_M_back m p a v = (8, m) := by rw [g_M_back, if_neg c_5, if_neg c_13, if_pos c_20]
        exact W.iret (v := 8) hx hb hr (fun t ht h9 => kNi.of hM ht (by rw [hg]; exact ⟨rfl, hW⟩)) hM.2.2.2.2 dM_back_25

theorem dM_pledge_0 : decode prog_6_method_25_code 0 = .ok (.aload_n 0, 1) := by decide +kernel
theorem dM_pledge_1 : decode prog_6_method_25_code 1 = .ok (.iload_n 1, 1) := by decide +kernel
theorem dM_pledge_2 : decode prog_6_method_25_code 2 = .ok (.invokevirtual 138, 3) := by decide +kernel
theorem dM_pledge_5 : decode prog_6_method_25_code 5 = .ok (.ifCond .eq 27, 3) := by decide +kernel
theorem dM_pledge_8 : decode prog_6_method_25_code 8 = .ok (.aload_n 0, 1) := by decide +kernel
theorem dM_pledge_9 : decode prog_6_method_25_code 9 = .ok (.iload_n 2, 1) := by decide +kernel
theorem dM_pledge_10 : decode prog_6_method_25_code 10 = .ok (.invokevirtual 128, 3) := by decide +kernel
theorem dM_pledge_13 : decode prog_6_method_25_code 13 = .ok (.ifCond .eq 19, 3) := by decide +kernel
theorem dM_pledge_16 : decode prog_6_method_25_code 16 = .ok (.aload_n 0, 1) := by decide +kernel
theorem dM_pledge_17 : decode prog_6_method_25_code 17 = .ok (.getfield 13, 3) := by decide +kernel
theorem dM_pledge_20 : decode prog_6_method_25_code 20 = .ok (.iload_n 2, 1) := by decide +kernel
theorem dM_pledge_21 : decode prog_6_method_25_code 21 = .ok (.iaload, 1) := by decide +kernel
theorem dM_pledge_22 : decode prog_6_method_25_code 22 = .ok (.ifCond .eq 10, 3) := by decide +kernel
theorem dM_pledge_25 : decode prog_6_method_25_code 25 = .ok (.lload_n 3, 1) := by decide +kernel
theorem dM_pledge_26 : decode prog_6_method_25_code 26 = .ok (.invokestatic 141, 3) := by decide +kernel
theorem dM_pledge_29 : decode prog_6_method_25_code 29 = .ok (.ifCond .ne 6, 3) := by decide +kernel
theorem dM_pledge_32 : decode prog_6_method_25_code 32 = .ok (.bipush 8, 2) := by decide +kernel
theorem dM_pledge_34 : decode prog_6_method_25_code 34 = .ok (.ireturn, 1) := by decide +kernel
theorem dM_pledge_35 : decode prog_6_method_25_code 35 = .ok (.aload_n 0, 1) := by decide +kernel
theorem dM_pledge_36 : decode prog_6_method_25_code 36 = .ok (.iload_n 1, 1) := by decide +kernel
theorem dM_pledge_37 : decode prog_6_method_25_code 37 = .ok (.iload_n 2, 1) := by decide +kernel
theorem dM_pledge_38 : decode prog_6_method_25_code 38 = .ok (.invokevirtual 102, 3) := by decide +kernel
theorem dM_pledge_41 : decode prog_6_method_25_code 41 = .ok (.aload_n 0, 1) := by decide +kernel
theorem dM_pledge_42 : decode prog_6_method_25_code 42 = .ok (.iload_n 1, 1) := by decide +kernel
theorem dM_pledge_43 : decode prog_6_method_25_code 43 = .ok (.iload_n 2, 1) := by decide +kernel
theorem dM_pledge_44 : decode prog_6_method_25_code 44 = .ok (.invokevirtual 88, 3) := by decide +kernel
theorem dM_pledge_47 : decode prog_6_method_25_code 47 = .ok (.lload_n 3, 1) := by decide +kernel
theorem dM_pledge_48 : decode prog_6_method_25_code 48 = .ok (.ladd, 1) := by decide +kernel
theorem dM_pledge_49 : decode prog_6_method_25_code 49 = .ok (.lcmp, 1) := by decide +kernel
theorem dM_pledge_50 : decode prog_6_method_25_code 50 = .ok (.ifCond .ge 6, 3) := by decide +kernel
theorem dM_pledge_53 : decode prog_6_method_25_code 53 = .ok (.bipush 9, 2) := by decide +kernel
theorem dM_pledge_55 : decode prog_6_method_25_code 55 = .ok (.ireturn, 1) := by decide +kernel
theorem dM_pledge_56 : decode prog_6_method_25_code 56 = .ok (.aload_n 0, 1) := by decide +kernel
theorem dM_pledge_57 : decode prog_6_method_25_code 57 = .ok (.iload_n 1, 1) := by decide +kernel
theorem dM_pledge_58 : decode prog_6_method_25_code 58 = .ok (.iload_n 2, 1) := by decide +kernel
theorem dM_pledge_59 : decode prog_6_method_25_code 59 = .ok (.lload_n 3, 1) := by decide +kernel
theorem dM_pledge_60 : decode prog_6_method_25_code 60 = .ok (.invokevirtual 154, 3) := by decide +kernel
theorem dM_pledge_63 : decode prog_6_method_25_code 63 = .ok (.aload_n 0, 1) := by decide +kernel
theorem dM_pledge_64 : decode prog_6_method_25_code 64 = .ok (.invokevirtual 134, 3) := by decide +kernel
theorem dM_pledge_67 : decode prog_6_method_25_code 67 = .ok (.istore 5, 2) := by decide +kernel
theorem dM_pledge_69 : decode prog_6_method_25_code 69 = .ok (.aload_n 0, 1) := by decide +kernel
theorem dM_pledge_70 : decode prog_6_method_25_code 70 = .ok (.iload 5, 2) := by decide +kernel
theorem dM_pledge_72 : decode prog_6_method_25_code 72 = .ok (.ifCond .eq 12, 3) := by decide +kernel
theorem dM_pledge_75 : decode prog_6_method_25_code 75 = .ok (.aload_n 0, 1) := by decide +kernel
theorem dM_pledge_76 : decode prog_6_method_25_code 76 = .ok (.getfield 75, 3) := by decide +kernel
theorem dM_pledge_79 : decode prog_6_method_25_code 79 = .ok (.iconst 1, 1) := by decide +kernel
theorem dM_pledge_80 : decode prog_6_method_25_code 80 = .ok (.isub, 1) := by decide +kernel
theorem dM_pledge_81 : decode prog_6_method_25_code 81 = .ok (.goto 7, 3) := by decide +kernel
theorem dM_pledge_84 : decode prog_6_method_25_code 84 = .ok (.aload_n 0, 1) := by decide +kernel
theorem dM_pledge_85 : decode prog_6_method_25_code 85 = .ok (.getfield 75, 3) := by decide +kernel
theorem dM_pledge_88 : decode prog_6_method_25_code 88 = .ok (.putfield 75, 3) := by decide +kernel
theorem dM_pledge_91 : decode prog_6_method_25_code 91 = .ok (.iload 5, 2) := by decide +kernel
theorem dM_pledge_93 : decode prog_6_method_25_code 93 = .ok (.ifCond .eq 8, 3) := by decide +kernel
theorem dM_pledge_96 : decode prog_6_method_25_code 96 = .ok (.bipush 10, 2) := by decide +kernel
theorem dM_pledge_98 : decode prog_6_method_25_code 98 = .ok (.goto 4, 3) := by decide +kernel
theorem dM_pledge_101 : decode prog_6_method_25_code 101 = .ok (.iconst 0, 1) := by decide +kernel
theorem dM_pledge_102 : decode prog_6_method_25_code 102 = .ok (.ireturn, 1) := by decide +kernel
def g_M_pledge (m : MS) (p : Int32) (a : Int32) (v : Int64) : Int32 × MS := if (f_M_isParticipant m p) = 0 then (8, m) else (if (f_M_isAsset m a) = 0 then (8, m) else (if ((m.2.2.1 0) (a).toNatClampNeg) = 0 then (8, m) else (if (f_M_isAmount v) = 0 then (8, m) else (if (f_M_position m p a) < ((f_M_pledged m p a) + v) then (9, m) else (if (f_M_isOwed (g_M_pledgeMore m p a v)) = 0 then (0, mN (g_M_pledgeMore m p a v) 5 ((g_M_pledgeMore m p a v).1 5)) else (10, mN (g_M_pledgeMore m p a v) 5 (((g_M_pledgeMore m p a v).1 5) - 1)))))))
set_option maxHeartbeats 4000000 in
set_option maxRecDepth 100000 in
theorem c_M_pledge (l : Launch) (D : va_G) (cI cL cQ : ClassId) (d : Nat → Nat) (κ0 : Nat → Option va_E) (m : MS) (hm : IsM cI cL d κ0 m) (hB : MB m) (sz : Nat) (p : Int32) (a : Int32) (v : Int64) (hmv : m.1 5 < 520) : Met l yM_pledge wM_pledge { frames := 3, cells := 0, slots := 0, locals := 79 } (va_Pc [.ref (d 0), .int (p), .int (a), .long (v)] (kC D vCl (kT cI cL cQ) d κ0 sz)) (kNi D vCl d (kA d κ0 sz) (fun r κ' => r = (g_M_pledge m p a v).1 ∧ MW cI cL κ0 d κ' (g_M_pledge m p a v).2)) 0 0 (kA d κ0 sz) := by
  refine kMet (by decide) (Nat.le_of_ble_eq_true rfl) ?_
  intro p0 e0 s0 m0 below0 meth0 c0 hx hb hr hml hown hlocks hin hts hsz hP hK ls hl
  subst hsz
  have hl : lv_has ls 6 [(0, .ref (d 0)), (1, .int (p)), (2, .int (a)), (3, .long (v))] := hl
  have hB9 := hB
  obtain ⟨hb0, hb1, hb2, hb3, hb4, hb5, hb6, hb7, hb8, hb9, hb10⟩ := hB9
  obtain ⟨κ, hM, hW⟩ : ∃ κ', kW D vCl d κ' (kA d κ0 s0.heap.size) s0.heap s0.heap [] ∧ MW cI cL κ0 d κ' m := ⟨κ0, kW.start hP, ⟨hm, fun _ _ => rfl⟩⟩
  refine lv_aload_n hx hb dM_pledge_0 rfl (lv_at hl 0 rfl) ?_
  refine lv_iload_n hx hb dM_pledge_1 rfl (lv_at hl 1 rfl) ?_
  refine vp_callSi (W.runV (C := RM) (As := [.int (p)]) (rest := []) ⟨hx, hb, hml, hown, hts⟩ (c_M_isParticipant l D cI cL cQ d κ m hW.1 hB _ p) (cwV 1 hts (k_gV tw_529 tw_531 tw_31 tw_41 tw_532) rfl rfl rfl (by decide +kernel) ⟨Nat.le_of_ble_eq_true rfl, Nat.le_of_ble_eq_true rfl⟩) (kPreV hM.1 hK (q := 0) hW.1.1 rfl) rfl rfl hl.1 rfl (lv_room (Nat.le_of_ble_eq_true rfl)) dM_pledge_2 ⟨Nat.le_of_ble_eq_true rfl, Nat.le_of_ble_eq_true rfl⟩) (fun r_2 e_2 => ?_)
  subst e_2
  refine lv_if_eq (tgt := 32) hx hb dM_pledge_5 (by decide) (fun c_5 => ?_) (fun c_5 => ?_)
  · refine lv_bipush (v := 8) hx hb dM_pledge_32 (by decide) ?_
    have hg : g_M_pledge m p a v = (8, m) := by rw [g_M_pledge, if_pos c_5]
    exact W.iret (v := 8) hx hb hr (fun t ht h9 => kNi.of hM ht (by rw [hg]; exact ⟨rfl, hW⟩)) hM.2.2.2.2 dM_pledge_34
  · refine lv_aload_n hx hb dM_pledge_8 rfl (lv_at hl 0 rfl) ?_
    refine lv_iload_n hx hb dM_pledge_9 rfl (lv_at hl 2 rfl) ?_
    refine vp_callSi (W.runV (C := RM) (As := [.int (a)]) (rest := []) ⟨hx, hb, hml, hown, hts⟩ (c_M_isAsset l D cI cL cQ d κ m hW.1 hB _ a) (cwV 1 hts (k_gV tw_495 tw_497 tw_25 tw_41 tw_498) rfl rfl rfl (by decide +kernel) ⟨Nat.le_of_ble_eq_true rfl, Nat.le_of_ble_eq_true rfl⟩) (kPreV hM.1 hK (q := 0) hW.1.1 rfl) rfl rfl hl.1 rfl (lv_room (Nat.le_of_ble_eq_true rfl)) dM_pledge_10 ⟨Nat.le_of_ble_eq_true rfl, Nat.le_of_ble_eq_true rfl⟩) (fun r_10 e_10 => ?_)
    subst e_10
    refine lv_if_eq (tgt := 32) hx hb dM_pledge_13 (by decide) (fun c_13 => ?_) (fun c_13 => ?_)
    · refine lv_bipush (v := 8) hx hb dM_pledge_32 (by decide) ?_
      have hg : g_M_pledge m p a v = (8, m) := by rw [g_M_pledge, if_neg c_5, if_pos c_13]
      exact W.iret (v := 8) hx hb hr (fun t ht h9 => kNi.of hM ht (by rw [hg]; exact ⟨rfl, hW⟩)) hM.2.2.2.2 dM_pledge_34
    · refine lv_aload_n hx hb dM_pledge_16 rfl (lv_at hl 0 rfl) ?_
      refine ka_get (v := .ref (d 1)) (ci := 4) (C := RM) (T := TM) (N := 26) hx hb hts inM hown hK hM.1 (q := 0) hW.1.1 rfl 4 (by decide) (hts _ tw_388) (fun _ h9 => h9) rfl dM_pledge_17 ?_
      refine lv_iload_n hx hb dM_pledge_20 rfl (lv_at hl 2 rfl) ?_
      refine ka_iald (f := m.2.2.1 0) hx hb hK hM.1 0 (q := 1) hW.1.2.1 rfl (asset_64 hB (by assumption)) dM_pledge_21 ?_
      refine lv_if_eq (tgt := 32) hx hb dM_pledge_22 (by decide) (fun c_22 => ?_) (fun c_22 => ?_)
      · refine lv_bipush (v := 8) hx hb dM_pledge_32 (by decide) ?_
        have hg : g_M_pledge m p a v = (8, m) := by rw [g_M_pledge, if_neg c_5, if_neg c_13, if_pos c_22]
        exact W.iret (v := 8) hx hb hr (fun t ht h9 => kNi.of hM ht (by rw [hg]; exact ⟨rfl, hW⟩)) hM.2.2.2.2 dM_pledge_34
      · refine lv_lload_n hx hb dM_pledge_25 rfl (lv_at hl 3 rfl) ?_
        refine vp_callSi (W.runS (As := [.long (v)]) (rest := []) ⟨hx, hb, hml, hown, hts⟩ (c_M_isAmount l D cI cL cQ d κ _ v) (cwS 1 hts (k_gS tw_533 tw_534 tw_41 tw_535) rfl rfl rfl (by decide +kernel) ⟨Nat.le_of_ble_eq_true rfl, Nat.le_of_ble_eq_true rfl⟩) (kPreS hM.1 hK) rfl rfl hl.1 rfl (lv_room (Nat.le_of_ble_eq_true rfl)) dM_pledge_26 ⟨Nat.le_of_ble_eq_true rfl, Nat.le_of_ble_eq_true rfl⟩) (fun r_26 e_26 => ?_)
        subst e_26
        refine lv_if_ne (tgt := 35) hx hb dM_pledge_29 (by decide) (fun c_29 => ?_) (fun c_29 => ?_)
        · refine lv_aload_n hx hb dM_pledge_35 rfl (lv_at hl 0 rfl) ?_
          refine lv_iload_n hx hb dM_pledge_36 rfl (lv_at hl 1 rfl) ?_
          refine lv_iload_n hx hb dM_pledge_37 rfl (lv_at hl 2 rfl) ?_
          refine vp_callSl (W.runV (C := RM) (As := [.int (p), .int (a)]) (rest := []) ⟨hx, hb, hml, hown, hts⟩ (c_M_position l D cI cL cQ d κ m hW.1 hB _ p a) (cwV 2 hts (k_gV tw_503 tw_505 tw_27 tw_41 tw_506) rfl rfl rfl (by decide +kernel) ⟨Nat.le_of_ble_eq_true rfl, Nat.le_of_ble_eq_true rfl⟩) (kPreV hM.1 hK (q := 0) hW.1.1 rfl) rfl rfl hl.1 rfl (lv_room (Nat.le_of_ble_eq_true rfl)) dM_pledge_38 ⟨Nat.le_of_ble_eq_true rfl, Nat.le_of_ble_eq_true rfl⟩) (fun r_38 e_38 => ?_)
          subst e_38
          refine lv_aload_n hx hb dM_pledge_41 rfl (lv_at hl 0 rfl) ?_
          refine lv_iload_n hx hb dM_pledge_42 rfl (lv_at hl 1 rfl) ?_
          refine lv_iload_n hx hb dM_pledge_43 rfl (lv_at hl 2 rfl) ?_
          refine vp_callSl (W.runV (C := RM) (As := [.int (p), .int (a)]) (rest := [.long (f_M_position m p a)]) ⟨hx, hb, hml, hown, hts⟩ (c_M_pledged l D cI cL cQ d κ m hW.1 hB _ p a) (cwV 2 hts (k_gV tw_511 tw_513 tw_29 tw_41 tw_514) rfl rfl rfl (by decide +kernel) ⟨Nat.le_of_ble_eq_true rfl, Nat.le_of_ble_eq_true rfl⟩) (kPreV hM.1 hK (q := 0) hW.1.1 rfl) rfl rfl hl.1 rfl (lv_room (Nat.le_of_ble_eq_true rfl)) dM_pledge_44 ⟨Nat.le_of_ble_eq_true rfl, Nat.le_of_ble_eq_true rfl⟩) (fun r_44 e_44 => ?_)
          subst e_44
          refine lv_lload_n hx hb dM_pledge_47 rfl (lv_at hl 3 rfl) ?_
          refine lv_ladd hx hb dM_pledge_48 ?_
          refine kl_ge (tgt := 56) hx hb dM_pledge_49 dM_pledge_50 (by decide) (fun c_49 => ?_) (fun c_49 => ?_)
          · refine lv_aload_n hx hb dM_pledge_56 rfl (lv_at hl 0 rfl) ?_
            refine lv_iload_n hx hb dM_pledge_57 rfl (lv_at hl 1 rfl) ?_
            refine lv_iload_n hx hb dM_pledge_58 rfl (lv_at hl 2 rfl) ?_
            refine lv_lload_n hx hb dM_pledge_59 rfl (lv_at hl 3 rfl) ?_
            refine ka_ncallv (W.runV (C := RM) (As := [.int (p), .int (a), .long (v)]) (rest := []) ⟨hx, hb, hml, hown, hts⟩ (c_M_pledgeMore l D cI cL cQ d κ m hW.1 hB _ p a v hmv) (cwV 3 hts (k_gV tw_554 tw_556 tw_34 tw_41 tw_557) rfl rfl rfl (by decide +kernel) ⟨Nat.le_of_ble_eq_true rfl, Nat.le_of_ble_eq_true rfl⟩) (kPreV hM.1 hK (q := 0) hW.1.1 rfl) rfl rfl hl.1 rfl (lv_room (Nat.le_of_ble_eq_true rfl)) dM_pledge_60 ⟨Nat.le_of_ble_eq_true rfl, Nat.le_of_ble_eq_true rfl⟩) hM (fun _ h9 => Or.inr h9) (fun κ1 H locs hW1 hM => ?_)
            obtain ⟨κ, hM, hW⟩ : ∃ κ', kW D vCl d κ' (kA d κ0 s0.heap.size) s0.heap H locs ∧ MW cI cL κ0 d κ' (g_M_pledgeMore m p a v) := ⟨κ1, hM, hW.trans hW1⟩
            refine lv_aload_n hx hb dM_pledge_63 rfl (lv_at hl 0 rfl) ?_
            refine vp_callSi (W.runV (C := RM) (As := []) (rest := []) ⟨hx, hb, hml, hown, hts⟩ (c_M_isOwed l D cI cL cQ d κ (g_M_pledgeMore m p a v) hW.1 (MB_pledge hB hmv) _ ) (cwV 0 hts (k_gV tw_520 tw_522 tw_30 tw_41 tw_523) rfl rfl rfl (by decide +kernel) ⟨Nat.le_of_ble_eq_true rfl, Nat.le_of_ble_eq_true rfl⟩) (kPreV hM.1 hK (q := 0) hW.1.1 rfl) rfl rfl hl.1 rfl (lv_room (Nat.le_of_ble_eq_true rfl)) dM_pledge_64 ⟨Nat.le_of_ble_eq_true rfl, Nat.le_of_ble_eq_true rfl⟩) (fun r_64 e_64 => ?_)
            subst e_64
            refine lv_istore (lv' := [(5, .int (f_M_isOwed (g_M_pledgeMore m p a v))), (0, .ref (d 0)), (1, .int (p)), (2, .int (a)), (3, .long (v))]) hx hb dM_pledge_67 hl (by decide) rfl (fun ls hl => ?_)
            refine lv_aload_n hx hb dM_pledge_69 rfl (lv_at hl 1 rfl) ?_
            refine lv_iload hx hb dM_pledge_70 (lv_at hl 0 rfl) ?_
            refine lv_if_eq (tgt := 84) hx hb dM_pledge_72 (by decide) (fun c_72 => ?_) (fun c_72 => ?_)
            · refine lv_aload_n hx hb dM_pledge_84 rfl (lv_at hl 1 rfl) ?_
              refine ka_get (v := .int (nI ((g_M_pledgeMore m p a v).1 5))) (ci := 4) (C := RM) (T := TM) (N := 26) hx hb hts inM hown hK hM.1 (q := 0) hW.1.1 rfl 14 (by decide) (hts _ tw_398) (fun _ h9 => h9) rfl dM_pledge_85 ?_
              refine ka_put (D := D) (ci := 4) (v := .int (nI ((g_M_pledgeMore m p a v).1 5))) (ty := .int) (C := RM) (T := TM) (N := 26) hx hb hts inM tM tM_ok nM hown hK hM (q := 0) hW.1.1 rfl 14 (by decide) (hts _ tw_398) (fun _ h9 => h9) rfl (by decide +kernel) rfl rfl (Nat.le_of_ble_eq_true rfl) dM_pledge_88 (fun H locs hM => ?_)
              obtain ⟨κ, hM, hW⟩ : ∃ κ', kW D vCl d κ' (kA d κ0 s0.heap.size) s0.heap H locs ∧ MW cI cL κ0 d κ' (mN (g_M_pledgeMore m p a v) 5 ((g_M_pledgeMore m p a v).1 5)) := ⟨_, hM, mw_pledges ((g_M_pledgeMore m p a v).1 5) hW⟩
              refine lv_iload hx hb dM_pledge_91 (lv_at hl 0 rfl) ?_
              refine lv_if_eq (tgt := 101) hx hb dM_pledge_93 (by decide) (fun _ => ?_) (fun c => absurd c_72 c)
              refine lv_iconst (v := 0) hx hb dM_pledge_101 (by decide) ?_
              have hg : g_M_pledge m p a v = (0, mN (g_M_pledgeMore m p a v) 5 ((g_M_pledgeMore m p a v).1 5)) := by rw [g_M_pledge, if_neg c_5, if_neg c_13, if_neg c_22, if_neg c_29, if_neg c_49, if_pos c_72]
              exact W.iret (v := 0) hx hb hr (fun t ht h9 => kNi.of hM ht (by rw [hg]; exact ⟨rfl, hW⟩)) hM.2.2.2.2 dM_pledge_102
            · refine lv_aload_n hx hb dM_pledge_75 rfl (lv_at hl 1 rfl) ?_
              refine ka_get (v := .int (nI ((g_M_pledgeMore m p a v).1 5))) (ci := 4) (C := RM) (T := TM) (N := 26) hx hb hts inM hown hK hM.1 (q := 0) hW.1.1 rfl 14 (by decide) (hts _ tw_398) (fun _ h9 => h9) rfl dM_pledge_76 ?_
              refine lv_iconst (v := 1) hx hb dM_pledge_79 (by decide) ?_
              refine lv_isub hx hb dM_pledge_80 ?_
              refine k_topi (show nI ((g_M_pledgeMore m p a v).1 5) - 1 = nI (((g_M_pledgeMore m p a v).1 5) - 1) from pk_sub (a := ((g_M_pledgeMore m p a v).1 5)) (b := 1) (by show 1 ≤ m.1 5 + 1; omega)) ?_
              refine lv_goto (tgt := 88) hx hb dM_pledge_81 (by decide) ?_
              refine ka_put (D := D) (ci := 4) (v := .int (nI (((g_M_pledgeMore m p a v).1 5) - 1))) (ty := .int) (C := RM) (T := TM) (N := 26) hx hb hts inM tM tM_ok nM hown hK hM (q := 0) hW.1.1 rfl 14 (by decide) (hts _ tw_398) (fun _ h9 => h9) rfl (by decide +kernel) rfl rfl (Nat.le_of_ble_eq_true rfl) dM_pledge_88 (fun H locs hM => ?_)
              obtain ⟨κ, hM, hW⟩ : ∃ κ', kW D vCl d κ' (kA d κ0 s0.heap.size) s0.heap H locs ∧ MW cI cL κ0 d κ' (mN (g_M_pledgeMore m p a v) 5 (((g_M_pledgeMore m p a v).1 5) - 1)) := ⟨_, hM, mw_pledges (((g_M_pledgeMore m p a v).1 5) - 1) hW⟩
              refine lv_iload hx hb dM_pledge_91 (lv_at hl 0 rfl) ?_
              refine lv_if_eq (tgt := 101) hx hb dM_pledge_93 (by decide) (fun c => absurd c c_72) (fun _ => ?_)
              refine lv_bipush (v := 10) hx hb dM_pledge_96 (by decide) ?_
              refine lv_goto (tgt := 102) hx hb dM_pledge_98 (by decide) ?_
              have hg : g_M_pledge m p a v = (10, mN (g_M_pledgeMore m p a v) 5 (((g_M_pledgeMore m p a v).1 5) - 1)) := by rw [g_M_pledge, if_neg c_5, if_neg c_13, if_neg c_22, if_neg c_29, if_neg c_49, if_neg c_72]
              exact W.iret (v := 10) hx hb hr (fun t ht h9 => kNi.of hM ht (by rw [hg]; exact ⟨rfl, hW⟩)) hM.2.2.2.2 dM_pledge_102
          · refine lv_bipush (v := 9) hx hb dM_pledge_53 (by decide) ?_
            have hg : g_M_pledge m p a v = (9, m) := by rw [g_M_pledge, if_neg c_5, if_neg c_13, if_neg c_22, if_neg c_29, if_pos c_49]
            exact W.iret (v := 9) hx hb hr (fun t ht h9 => kNi.of hM ht (by rw [hg]; exact ⟨rfl, hW⟩)) hM.2.2.2.2 dM_pledge_55
        · refine lv_bipush (v := 8) hx hb dM_pledge_32 (by decide) ?_
          have hg : g_M_pledge m p a v = (8, m) := by rw [g_M_pledge, if_neg c_5, if_neg c_13, if_neg c_22, if_pos c_29]
          exact W.iret (v := 8) hx hb hr (fun t ht h9 => kNi.of hM ht (by rw [hg]; exact ⟨rfl, hW⟩)) hM.2.2.2.2 dM_pledge_34

theorem dM_free_0 : decode prog_6_method_26_code 0 = .ok (.aload_n 0, 1) := by decide +kernel
theorem dM_free_1 : decode prog_6_method_26_code 1 = .ok (.iload_n 1, 1) := by decide +kernel
theorem dM_free_2 : decode prog_6_method_26_code 2 = .ok (.invokevirtual 138, 3) := by decide +kernel
theorem dM_free_5 : decode prog_6_method_26_code 5 = .ok (.ifCond .eq 38, 3) := by decide +kernel
theorem dM_free_8 : decode prog_6_method_26_code 8 = .ok (.aload_n 0, 1) := by decide +kernel
theorem dM_free_9 : decode prog_6_method_26_code 9 = .ok (.iload_n 2, 1) := by decide +kernel
theorem dM_free_10 : decode prog_6_method_26_code 10 = .ok (.invokevirtual 128, 3) := by decide +kernel
theorem dM_free_13 : decode prog_6_method_26_code 13 = .ok (.ifCond .eq 30, 3) := by decide +kernel
theorem dM_free_16 : decode prog_6_method_26_code 16 = .ok (.aload_n 0, 1) := by decide +kernel
theorem dM_free_17 : decode prog_6_method_26_code 17 = .ok (.getfield 13, 3) := by decide +kernel
theorem dM_free_20 : decode prog_6_method_26_code 20 = .ok (.iload_n 2, 1) := by decide +kernel
theorem dM_free_21 : decode prog_6_method_26_code 21 = .ok (.iaload, 1) := by decide +kernel
theorem dM_free_22 : decode prog_6_method_26_code 22 = .ok (.ifCond .eq 21, 3) := by decide +kernel
theorem dM_free_25 : decode prog_6_method_26_code 25 = .ok (.lload_n 3, 1) := by decide +kernel
theorem dM_free_26 : decode prog_6_method_26_code 26 = .ok (.invokestatic 141, 3) := by decide +kernel
theorem dM_free_29 : decode prog_6_method_26_code 29 = .ok (.ifCond .eq 14, 3) := by decide +kernel
theorem dM_free_32 : decode prog_6_method_26_code 32 = .ok (.lload_n 3, 1) := by decide +kernel
theorem dM_free_33 : decode prog_6_method_26_code 33 = .ok (.aload_n 0, 1) := by decide +kernel
theorem dM_free_34 : decode prog_6_method_26_code 34 = .ok (.iload_n 1, 1) := by decide +kernel
theorem dM_free_35 : decode prog_6_method_26_code 35 = .ok (.iload_n 2, 1) := by decide +kernel
theorem dM_free_36 : decode prog_6_method_26_code 36 = .ok (.invokevirtual 88, 3) := by decide +kernel
theorem dM_free_39 : decode prog_6_method_26_code 39 = .ok (.lcmp, 1) := by decide +kernel
theorem dM_free_40 : decode prog_6_method_26_code 40 = .ok (.ifCond .le 6, 3) := by decide +kernel
theorem dM_free_43 : decode prog_6_method_26_code 43 = .ok (.bipush 8, 2) := by decide +kernel
theorem dM_free_45 : decode prog_6_method_26_code 45 = .ok (.ireturn, 1) := by decide +kernel
theorem dM_free_46 : decode prog_6_method_26_code 46 = .ok (.aload_n 0, 1) := by decide +kernel
theorem dM_free_47 : decode prog_6_method_26_code 47 = .ok (.iload_n 1, 1) := by decide +kernel
theorem dM_free_48 : decode prog_6_method_26_code 48 = .ok (.iload_n 2, 1) := by decide +kernel
theorem dM_free_49 : decode prog_6_method_26_code 49 = .ok (.lload_n 3, 1) := by decide +kernel
theorem dM_free_50 : decode prog_6_method_26_code 50 = .ok (.lneg, 1) := by decide +kernel
theorem dM_free_51 : decode prog_6_method_26_code 51 = .ok (.invokevirtual 154, 3) := by decide +kernel
theorem dM_free_54 : decode prog_6_method_26_code 54 = .ok (.aload_n 0, 1) := by decide +kernel
theorem dM_free_55 : decode prog_6_method_26_code 55 = .ok (.iload_n 1, 1) := by decide +kernel
theorem dM_free_56 : decode prog_6_method_26_code 56 = .ok (.invokevirtual 131, 3) := by decide +kernel
theorem dM_free_59 : decode prog_6_method_26_code 59 = .ok (.istore 5, 2) := by decide +kernel
theorem dM_free_61 : decode prog_6_method_26_code 61 = .ok (.aload_n 0, 1) := by decide +kernel
theorem dM_free_62 : decode prog_6_method_26_code 62 = .ok (.iload 5, 2) := by decide +kernel
theorem dM_free_64 : decode prog_6_method_26_code 64 = .ok (.ifCond .eq 12, 3) := by decide +kernel
theorem dM_free_67 : decode prog_6_method_26_code 67 = .ok (.aload_n 0, 1) := by decide +kernel
theorem dM_free_68 : decode prog_6_method_26_code 68 = .ok (.getfield 75, 3) := by decide +kernel
theorem dM_free_71 : decode prog_6_method_26_code 71 = .ok (.iconst 1, 1) := by decide +kernel
theorem dM_free_72 : decode prog_6_method_26_code 72 = .ok (.isub, 1) := by decide +kernel
theorem dM_free_73 : decode prog_6_method_26_code 73 = .ok (.goto 7, 3) := by decide +kernel
theorem dM_free_76 : decode prog_6_method_26_code 76 = .ok (.aload_n 0, 1) := by decide +kernel
theorem dM_free_77 : decode prog_6_method_26_code 77 = .ok (.getfield 75, 3) := by decide +kernel
theorem dM_free_80 : decode prog_6_method_26_code 80 = .ok (.putfield 75, 3) := by decide +kernel
theorem dM_free_83 : decode prog_6_method_26_code 83 = .ok (.iload 5, 2) := by decide +kernel
theorem dM_free_85 : decode prog_6_method_26_code 85 = .ok (.ifCond .eq 8, 3) := by decide +kernel
theorem dM_free_88 : decode prog_6_method_26_code 88 = .ok (.bipush 9, 2) := by decide +kernel
theorem dM_free_90 : decode prog_6_method_26_code 90 = .ok (.goto 4, 3) := by decide +kernel
theorem dM_free_93 : decode prog_6_method_26_code 93 = .ok (.iconst 0, 1) := by decide +kernel
theorem dM_free_94 : decode prog_6_method_26_code 94 = .ok (.ireturn, 1) := by decide +kernel
def g_M_free (m : MS) (p : Int32) (a : Int32) (v : Int64) : Int32 × MS := if (f_M_isParticipant m p) = 0 then (8, m) else (if (f_M_isAsset m a) = 0 then (8, m) else (if ((m.2.2.1 0) (a).toNatClampNeg) = 0 then (8, m) else (if (f_M_isAmount v) = 0 then (8, m) else (if (f_M_pledged m p a) < v then (8, m) else (if (f_M_isShort (g_M_pledgeMore m p a (-v)) p) = 0 then (0, mN (g_M_pledgeMore m p a (-v)) 5 ((g_M_pledgeMore m p a (-v)).1 5)) else (9, mN (g_M_pledgeMore m p a (-v)) 5 (((g_M_pledgeMore m p a (-v)).1 5) - 1)))))))
set_option maxHeartbeats 4000000 in
set_option maxRecDepth 100000 in
theorem c_M_free (l : Launch) (D : va_G) (cI cL cQ : ClassId) (d : Nat → Nat) (κ0 : Nat → Option va_E) (m : MS) (hm : IsM cI cL d κ0 m) (hB : MB m) (sz : Nat) (p : Int32) (a : Int32) (v : Int64) (hmv : m.1 5 < 520) : Met l yM_free wM_free { frames := 3, cells := 0, slots := 0, locals := 77 } (va_Pc [.ref (d 0), .int (p), .int (a), .long (v)] (kC D vCl (kT cI cL cQ) d κ0 sz)) (kNi D vCl d (kA d κ0 sz) (fun r κ' => r = (g_M_free m p a v).1 ∧ MW cI cL κ0 d κ' (g_M_free m p a v).2)) 0 0 (kA d κ0 sz) := by
  refine kMet (by decide) (Nat.le_of_ble_eq_true rfl) ?_
  intro p0 e0 s0 m0 below0 meth0 c0 hx hb hr hml hown hlocks hin hts hsz hP hK ls hl
  subst hsz
  have hl : lv_has ls 6 [(0, .ref (d 0)), (1, .int (p)), (2, .int (a)), (3, .long (v))] := hl
  have hB9 := hB
  obtain ⟨hb0, hb1, hb2, hb3, hb4, hb5, hb6, hb7, hb8, hb9, hb10⟩ := hB9
  obtain ⟨κ, hM, hW⟩ : ∃ κ', kW D vCl d κ' (kA d κ0 s0.heap.size) s0.heap s0.heap [] ∧ MW cI cL κ0 d κ' m := ⟨κ0, kW.start hP, ⟨hm, fun _ _ => rfl⟩⟩
  refine lv_aload_n hx hb dM_free_0 rfl (lv_at hl 0 rfl) ?_
  refine lv_iload_n hx hb dM_free_1 rfl (lv_at hl 1 rfl) ?_
  refine vp_callSi (W.runV (C := RM) (As := [.int (p)]) (rest := []) ⟨hx, hb, hml, hown, hts⟩ (c_M_isParticipant l D cI cL cQ d κ m hW.1 hB _ p) (cwV 1 hts (k_gV tw_529 tw_531 tw_31 tw_41 tw_532) rfl rfl rfl (by decide +kernel) ⟨Nat.le_of_ble_eq_true rfl, Nat.le_of_ble_eq_true rfl⟩) (kPreV hM.1 hK (q := 0) hW.1.1 rfl) rfl rfl hl.1 rfl (lv_room (Nat.le_of_ble_eq_true rfl)) dM_free_2 ⟨Nat.le_of_ble_eq_true rfl, Nat.le_of_ble_eq_true rfl⟩) (fun r_2 e_2 => ?_)
  subst e_2
  refine lv_if_eq (tgt := 43) hx hb dM_free_5 (by decide) (fun c_5 => ?_) (fun c_5 => ?_)
  · refine lv_bipush (v := 8) hx hb dM_free_43 (by decide) ?_
    have hg : g_M_free m p a v = (8, m) := by rw [g_M_free, if_pos c_5]
    exact W.iret (v := 8) hx hb hr (fun t ht h9 => kNi.of hM ht (by rw [hg]; exact ⟨rfl, hW⟩)) hM.2.2.2.2 dM_free_45
  · refine lv_aload_n hx hb dM_free_8 rfl (lv_at hl 0 rfl) ?_
    refine lv_iload_n hx hb dM_free_9 rfl (lv_at hl 2 rfl) ?_
    refine vp_callSi (W.runV (C := RM) (As := [.int (a)]) (rest := []) ⟨hx, hb, hml, hown, hts⟩ (c_M_isAsset l D cI cL cQ d κ m hW.1 hB _ a) (cwV 1 hts (k_gV tw_495 tw_497 tw_25 tw_41 tw_498) rfl rfl rfl (by decide +kernel) ⟨Nat.le_of_ble_eq_true rfl, Nat.le_of_ble_eq_true rfl⟩) (kPreV hM.1 hK (q := 0) hW.1.1 rfl) rfl rfl hl.1 rfl (lv_room (Nat.le_of_ble_eq_true rfl)) dM_free_10 ⟨Nat.le_of_ble_eq_true rfl, Nat.le_of_ble_eq_true rfl⟩) (fun r_10 e_10 => ?_)
    subst e_10
    refine lv_if_eq (tgt := 43) hx hb dM_free_13 (by decide) (fun c_13 => ?_) (fun c_13 => ?_)
    · refine lv_bipush (v := 8) hx hb dM_free_43 (by decide) ?_
      have hg : g_M_free m p a v = (8, m) := by rw [g_M_free, if_neg c_5, if_pos c_13]
      exact W.iret (v := 8) hx hb hr (fun t ht h9 => kNi.of hM ht (by rw [hg]; exact ⟨rfl, hW⟩)) hM.2.2.2.2 dM_free_45
    · refine lv_aload_n hx hb dM_free_16 rfl (lv_at hl 0 rfl) ?_
      refine ka_get (v := .ref (d 1)) (ci := 4) (C := RM) (T := TM) (N := 26) hx hb hts inM hown hK hM.1 (q := 0) hW.1.1 rfl 4 (by decide) (hts _ tw_388) (fun _ h9 => h9) rfl dM_free_17 ?_
      refine lv_iload_n hx hb dM_free_20 rfl (lv_at hl 2 rfl) ?_
      refine ka_iald (f := m.2.2.1 0) hx hb hK hM.1 0 (q := 1) hW.1.2.1 rfl (asset_64 hB (by assumption)) dM_free_21 ?_
      refine lv_if_eq (tgt := 43) hx hb dM_free_22 (by decide) (fun c_22 => ?_) (fun c_22 => ?_)
      · refine lv_bipush (v := 8) hx hb dM_free_43 (by decide) ?_
        have hg : g_M_free m p a v = (8, m) := by rw [g_M_free, if_neg c_5, if_neg c_13, if_pos c_22]
        exact W.iret (v := 8) hx hb hr (fun t ht h9 => kNi.of hM ht (by rw [hg]; exact ⟨rfl, hW⟩)) hM.2.2.2.2 dM_free_45
      · refine lv_lload_n hx hb dM_free_25 rfl (lv_at hl 3 rfl) ?_
        refine vp_callSi (W.runS (As := [.long (v)]) (rest := []) ⟨hx, hb, hml, hown, hts⟩ (c_M_isAmount l D cI cL cQ d κ _ v) (cwS 1 hts (k_gS tw_533 tw_534 tw_41 tw_535) rfl rfl rfl (by decide +kernel) ⟨Nat.le_of_ble_eq_true rfl, Nat.le_of_ble_eq_true rfl⟩) (kPreS hM.1 hK) rfl rfl hl.1 rfl (lv_room (Nat.le_of_ble_eq_true rfl)) dM_free_26 ⟨Nat.le_of_ble_eq_true rfl, Nat.le_of_ble_eq_true rfl⟩) (fun r_26 e_26 => ?_)
        subst e_26
        refine lv_if_eq (tgt := 43) hx hb dM_free_29 (by decide) (fun c_29 => ?_) (fun c_29 => ?_)
        · refine lv_bipush (v := 8) hx hb dM_free_43 (by decide) ?_
          have hg : g_M_free m p a v = (8, m) := by rw [g_M_free, if_neg c_5, if_neg c_13, if_neg c_22, if_pos c_29]
          exact W.iret (v := 8) hx hb hr (fun t ht h9 => kNi.of hM ht (by rw [hg]; exact ⟨rfl, hW⟩)) hM.2.2.2.2 dM_free_45
        · refine lv_lload_n hx hb dM_free_32 rfl (lv_at hl 3 rfl) ?_
          refine lv_aload_n hx hb dM_free_33 rfl (lv_at hl 0 rfl) ?_
          refine lv_iload_n hx hb dM_free_34 rfl (lv_at hl 1 rfl) ?_
          refine lv_iload_n hx hb dM_free_35 rfl (lv_at hl 2 rfl) ?_
          refine vp_callSl (W.runV (C := RM) (As := [.int (p), .int (a)]) (rest := [.long (v)]) ⟨hx, hb, hml, hown, hts⟩ (c_M_pledged l D cI cL cQ d κ m hW.1 hB _ p a) (cwV 2 hts (k_gV tw_511 tw_513 tw_29 tw_41 tw_514) rfl rfl rfl (by decide +kernel) ⟨Nat.le_of_ble_eq_true rfl, Nat.le_of_ble_eq_true rfl⟩) (kPreV hM.1 hK (q := 0) hW.1.1 rfl) rfl rfl hl.1 rfl (lv_room (Nat.le_of_ble_eq_true rfl)) dM_free_36 ⟨Nat.le_of_ble_eq_true rfl, Nat.le_of_ble_eq_true rfl⟩) (fun r_36 e_36 => ?_)
          subst e_36
          refine kl_le (tgt := 46) hx hb dM_free_39 dM_free_40 (by decide) (fun c_39 => ?_) (fun c_39 => ?_)
          · refine lv_aload_n hx hb dM_free_46 rfl (lv_at hl 0 rfl) ?_
            refine lv_iload_n hx hb dM_free_47 rfl (lv_at hl 1 rfl) ?_
            refine lv_iload_n hx hb dM_free_48 rfl (lv_at hl 2 rfl) ?_
            refine lv_lload_n hx hb dM_free_49 rfl (lv_at hl 3 rfl) ?_
            refine lv_lneg hx hb dM_free_50 ?_
            refine ka_ncallv (W.runV (C := RM) (As := [.int (p), .int (a), .long (-v)]) (rest := []) ⟨hx, hb, hml, hown, hts⟩ (c_M_pledgeMore l D cI cL cQ d κ m hW.1 hB _ p a (-v) hmv) (cwV 3 hts (k_gV tw_554 tw_556 tw_34 tw_41 tw_557) rfl rfl rfl (by decide +kernel) ⟨Nat.le_of_ble_eq_true rfl, Nat.le_of_ble_eq_true rfl⟩) (kPreV hM.1 hK (q := 0) hW.1.1 rfl) rfl rfl hl.1 rfl (lv_room (Nat.le_of_ble_eq_true rfl)) dM_free_51 ⟨Nat.le_of_ble_eq_true rfl, Nat.le_of_ble_eq_true rfl⟩) hM (fun _ h9 => Or.inr h9) (fun κ1 H locs hW1 hM => ?_)
            obtain ⟨κ, hM, hW⟩ : ∃ κ', kW D vCl d κ' (kA d κ0 s0.heap.size) s0.heap H locs ∧ MW cI cL κ0 d κ' (g_M_pledgeMore m p a (-v)) := ⟨κ1, hM, hW.trans hW1⟩
            refine lv_aload_n hx hb dM_free_54 rfl (lv_at hl 0 rfl) ?_
            refine lv_iload_n hx hb dM_free_55 rfl (lv_at hl 1 rfl) ?_
            refine vp_callSi (W.runV (C := RM) (As := [.int (p)]) (rest := []) ⟨hx, hb, hml, hown, hts⟩ (c_M_isShort l D cI cL cQ d κ (g_M_pledgeMore m p a (-v)) hW.1 (MB_pledge hB hmv) _ p) (cwV 1 hts (k_gV tw_499 tw_501 tw_26 tw_41 tw_502) rfl rfl rfl (by decide +kernel) ⟨Nat.le_of_ble_eq_true rfl, Nat.le_of_ble_eq_true rfl⟩) (kPreV hM.1 hK (q := 0) hW.1.1 rfl) rfl rfl hl.1 rfl (lv_room (Nat.le_of_ble_eq_true rfl)) dM_free_56 ⟨Nat.le_of_ble_eq_true rfl, Nat.le_of_ble_eq_true rfl⟩) (fun r_56 e_56 => ?_)
            subst e_56
            refine lv_istore (lv' := [(5, .int (f_M_isShort (g_M_pledgeMore m p a (-v)) p)), (0, .ref (d 0)), (1, .int (p)), (2, .int (a)), (3, .long (v))]) hx hb dM_free_59 hl (by decide) rfl (fun ls hl => ?_)
            refine lv_aload_n hx hb dM_free_61 rfl (lv_at hl 1 rfl) ?_
            refine lv_iload hx hb dM_free_62 (lv_at hl 0 rfl) ?_
            refine lv_if_eq (tgt := 76) hx hb dM_free_64 (by decide) (fun c_64 => ?_) (fun c_64 => ?_)
            · refine lv_aload_n hx hb dM_free_76 rfl (lv_at hl 1 rfl) ?_
              refine ka_get (v := .int (nI ((g_M_pledgeMore m p a (-v)).1 5))) (ci := 4) (C := RM) (T := TM) (N := 26) hx hb hts inM hown hK hM.1 (q := 0) hW.1.1 rfl 14 (by decide) (hts _ tw_398) (fun _ h9 => h9) rfl dM_free_77 ?_
              refine ka_put (D := D) (ci := 4) (v := .int (nI ((g_M_pledgeMore m p a (-v)).1 5))) (ty := .int) (C := RM) (T := TM) (N := 26) hx hb hts inM tM tM_ok nM hown hK hM (q := 0) hW.1.1 rfl 14 (by decide) (hts _ tw_398) (fun _ h9 => h9) rfl (by decide +kernel) rfl rfl (Nat.le_of_ble_eq_true rfl) dM_free_80 (fun H locs hM => ?_)
              obtain ⟨κ, hM, hW⟩ : ∃ κ', kW D vCl d κ' (kA d κ0 s0.heap.size) s0.heap H locs ∧ MW cI cL κ0 d κ' (mN (g_M_pledgeMore m p a (-v)) 5 ((g_M_pledgeMore m p a (-v)).1 5)) := ⟨_, hM, mw_pledges ((g_M_pledgeMore m p a (-v)).1 5) hW⟩
              refine lv_iload hx hb dM_free_83 (lv_at hl 0 rfl) ?_
              refine lv_if_eq (tgt := 93) hx hb dM_free_85 (by decide) (fun _ => ?_) (fun c => absurd c_64 c)
              refine lv_iconst (v := 0) hx hb dM_free_93 (by decide) ?_
              have hg : g_M_free m p a v = (0, mN (g_M_pledgeMore m p a (-v)) 5 ((g_M_pledgeMore m p a (-v)).1 5)) := by rw [g_M_free, if_neg c_5, if_neg c_13, if_neg c_22, if_neg c_29, if_neg c_39, if_pos c_64]
              exact W.iret (v := 0) hx hb hr (fun t ht h9 => kNi.of hM ht (by rw [hg]; exact ⟨rfl, hW⟩)) hM.2.2.2.2 dM_free_94
            · refine lv_aload_n hx hb dM_free_67 rfl (lv_at hl 1 rfl) ?_
              refine ka_get (v := .int (nI ((g_M_pledgeMore m p a (-v)).1 5))) (ci := 4) (C := RM) (T := TM) (N := 26) hx hb hts inM hown hK hM.1 (q := 0) hW.1.1 rfl 14 (by decide) (hts _ tw_398) (fun _ h9 => h9) rfl dM_free_68 ?_
              refine lv_iconst (v := 1) hx hb dM_free_71 (by decide) ?_
              refine lv_isub hx hb dM_free_72 ?_
              refine k_topi (show nI ((g_M_pledgeMore m p a (-v)).1 5) - 1 = nI (((g_M_pledgeMore m p a (-v)).1 5) - 1) from pk_sub (a := ((g_M_pledgeMore m p a (-v)).1 5)) (b := 1) (by show 1 ≤ m.1 5 + 1; omega)) ?_
              refine lv_goto (tgt := 80) hx hb dM_free_73 (by decide) ?_
              refine ka_put (D := D) (ci := 4) (v := .int (nI (((g_M_pledgeMore m p a (-v)).1 5) - 1))) (ty := .int) (C := RM) (T := TM) (N := 26) hx hb hts inM tM tM_ok nM hown hK hM (q := 0) hW.1.1 rfl 14 (by decide) (hts _ tw_398) (fun _ h9 => h9) rfl (by decide +kernel) rfl rfl (Nat.le_of_ble_eq_true rfl) dM_free_80 (fun H locs hM => ?_)
              obtain ⟨κ, hM, hW⟩ : ∃ κ', kW D vCl d κ' (kA d κ0 s0.heap.size) s0.heap H locs ∧ MW cI cL κ0 d κ' (mN (g_M_pledgeMore m p a (-v)) 5 (((g_M_pledgeMore m p a (-v)).1 5) - 1)) := ⟨_, hM, mw_pledges (((g_M_pledgeMore m p a (-v)).1 5) - 1) hW⟩
              refine lv_iload hx hb dM_free_83 (lv_at hl 0 rfl) ?_
              refine lv_if_eq (tgt := 93) hx hb dM_free_85 (by decide) (fun c => absurd c c_64) (fun _ => ?_)
              refine lv_bipush (v := 9) hx hb dM_free_88 (by decide) ?_
              refine lv_goto (tgt := 94) hx hb dM_free_90 (by decide) ?_
              have hg : g_M_free m p a v = (9, mN (g_M_pledgeMore m p a (-v)) 5 (((g_M_pledgeMore m p a (-v)).1 5) - 1)) := by rw [g_M_free, if_neg c_5, if_neg c_13, if_neg c_22, if_neg c_29, if_neg c_39, if_neg c_64]
              exact W.iret (v := 9) hx hb hr (fun t ht h9 => kNi.of hM ht (by rw [hg]; exact ⟨rfl, hW⟩)) hM.2.2.2.2 dM_free_94
          · refine lv_bipush (v := 8) hx hb dM_free_43 (by decide) ?_
            have hg : g_M_free m p a v = (8, m) := by rw [g_M_free, if_neg c_5, if_neg c_13, if_neg c_22, if_neg c_29, if_pos c_39]
            exact W.iret (v := 8) hx hb hr (fun t ht h9 => kNi.of hM ht (by rw [hg]; exact ⟨rfl, hW⟩)) hM.2.2.2.2 dM_free_45

theorem dM_limit_0 : decode prog_6_method_27_code 0 = .ok (.aload_n 0, 1) := by decide +kernel
theorem dM_limit_1 : decode prog_6_method_27_code 1 = .ok (.iload_n 1, 1) := by decide +kernel
theorem dM_limit_2 : decode prog_6_method_27_code 2 = .ok (.invokevirtual 138, 3) := by decide +kernel
theorem dM_limit_5 : decode prog_6_method_27_code 5 = .ok (.ifCond .eq 30, 3) := by decide +kernel
theorem dM_limit_8 : decode prog_6_method_27_code 8 = .ok (.aload_n 0, 1) := by decide +kernel
theorem dM_limit_9 : decode prog_6_method_27_code 9 = .ok (.iload_n 2, 1) := by decide +kernel
theorem dM_limit_10 : decode prog_6_method_27_code 10 = .ok (.invokevirtual 138, 3) := by decide +kernel
theorem dM_limit_13 : decode prog_6_method_27_code 13 = .ok (.ifCond .eq 22, 3) := by decide +kernel
theorem dM_limit_16 : decode prog_6_method_27_code 16 = .ok (.iload_n 1, 1) := by decide +kernel
theorem dM_limit_17 : decode prog_6_method_27_code 17 = .ok (.iload_n 2, 1) := by decide +kernel
theorem dM_limit_18 : decode prog_6_method_27_code 18 = .ok (.if_icmp .eq 17, 3) := by decide +kernel
theorem dM_limit_21 : decode prog_6_method_27_code 21 = .ok (.lload_n 3, 1) := by decide +kernel
theorem dM_limit_22 : decode prog_6_method_27_code 22 = .ok (.lconst 0, 1) := by decide +kernel
theorem dM_limit_23 : decode prog_6_method_27_code 23 = .ok (.lcmp, 1) := by decide +kernel
theorem dM_limit_24 : decode prog_6_method_27_code 24 = .ok (.ifCond .lt 11, 3) := by decide +kernel
theorem dM_limit_27 : decode prog_6_method_27_code 27 = .ok (.lload_n 3, 1) := by decide +kernel
theorem dM_limit_28 : decode prog_6_method_27_code 28 = .ok (.ldc2_w 107, 3) := by decide +kernel
theorem dM_limit_31 : decode prog_6_method_27_code 31 = .ok (.lcmp, 1) := by decide +kernel
theorem dM_limit_32 : decode prog_6_method_27_code 32 = .ok (.ifCond .le 6, 3) := by decide +kernel
theorem dM_limit_35 : decode prog_6_method_27_code 35 = .ok (.bipush 8, 2) := by decide +kernel
theorem dM_limit_37 : decode prog_6_method_27_code 37 = .ok (.ireturn, 1) := by decide +kernel
theorem dM_limit_38 : decode prog_6_method_27_code 38 = .ok (.lload_n 3, 1) := by decide +kernel
theorem dM_limit_39 : decode prog_6_method_27_code 39 = .ok (.aload_n 0, 1) := by decide +kernel
theorem dM_limit_40 : decode prog_6_method_27_code 40 = .ok (.iload_n 1, 1) := by decide +kernel
theorem dM_limit_41 : decode prog_6_method_27_code 41 = .ok (.iload_n 2, 1) := by decide +kernel
theorem dM_limit_42 : decode prog_6_method_27_code 42 = .ok (.invokevirtual 157, 3) := by decide +kernel
theorem dM_limit_45 : decode prog_6_method_27_code 45 = .ok (.lcmp, 1) := by decide +kernel
theorem dM_limit_46 : decode prog_6_method_27_code 46 = .ok (.ifCond .ge 6, 3) := by decide +kernel
theorem dM_limit_49 : decode prog_6_method_27_code 49 = .ok (.bipush 9, 2) := by decide +kernel
theorem dM_limit_51 : decode prog_6_method_27_code 51 = .ok (.ireturn, 1) := by decide +kernel
theorem dM_limit_52 : decode prog_6_method_27_code 52 = .ok (.aload_n 0, 1) := by decide +kernel
theorem dM_limit_53 : decode prog_6_method_27_code 53 = .ok (.iload_n 1, 1) := by decide +kernel
theorem dM_limit_54 : decode prog_6_method_27_code 54 = .ok (.iload_n 2, 1) := by decide +kernel
theorem dM_limit_55 : decode prog_6_method_27_code 55 = .ok (.invokevirtual 116, 3) := by decide +kernel
theorem dM_limit_58 : decode prog_6_method_27_code 58 = .ok (.istore 5, 2) := by decide +kernel
theorem dM_limit_60 : decode prog_6_method_27_code 60 = .ok (.iload 5, 2) := by decide +kernel
theorem dM_limit_62 : decode prog_6_method_27_code 62 = .ok (.ifCond .ge 15, 3) := by decide +kernel
theorem dM_limit_65 : decode prog_6_method_27_code 65 = .ok (.aload_n 0, 1) := by decide +kernel
theorem dM_limit_66 : decode prog_6_method_27_code 66 = .ok (.getfield 109, 3) := by decide +kernel
theorem dM_limit_69 : decode prog_6_method_27_code 69 = .ok (.bipush 40, 2) := by decide +kernel
theorem dM_limit_71 : decode prog_6_method_27_code 71 = .ok (.if_icmp .ne 6, 3) := by decide +kernel
theorem dM_limit_74 : decode prog_6_method_27_code 74 = .ok (.bipush 12, 2) := by decide +kernel
theorem dM_limit_76 : decode prog_6_method_27_code 76 = .ok (.ireturn, 1) := by decide +kernel
theorem dM_limit_77 : decode prog_6_method_27_code 77 = .ok (.iload 5, 2) := by decide +kernel
theorem dM_limit_79 : decode prog_6_method_27_code 79 = .ok (.ifCond .ge 10, 3) := by decide +kernel
theorem dM_limit_82 : decode prog_6_method_27_code 82 = .ok (.aload_n 0, 1) := by decide +kernel
theorem dM_limit_83 : decode prog_6_method_27_code 83 = .ok (.getfield 109, 3) := by decide +kernel
theorem dM_limit_86 : decode prog_6_method_27_code 86 = .ok (.goto 5, 3) := by decide +kernel
theorem dM_limit_89 : decode prog_6_method_27_code 89 = .ok (.iload 5, 2) := by decide +kernel
theorem dM_limit_91 : decode prog_6_method_27_code 91 = .ok (.istore 5, 2) := by decide +kernel
theorem dM_limit_93 : decode prog_6_method_27_code 93 = .ok (.aload_n 0, 1) := by decide +kernel
theorem dM_limit_94 : decode prog_6_method_27_code 94 = .ok (.iload 5, 2) := by decide +kernel
theorem dM_limit_96 : decode prog_6_method_27_code 96 = .ok (.aload_n 0, 1) := by decide +kernel
theorem dM_limit_97 : decode prog_6_method_27_code 97 = .ok (.getfield 109, 3) := by decide +kernel
theorem dM_limit_100 : decode prog_6_method_27_code 100 = .ok (.if_icmp .ne 12, 3) := by decide +kernel
theorem dM_limit_103 : decode prog_6_method_27_code 103 = .ok (.aload_n 0, 1) := by decide +kernel
theorem dM_limit_104 : decode prog_6_method_27_code 104 = .ok (.getfield 109, 3) := by decide +kernel
theorem dM_limit_107 : decode prog_6_method_27_code 107 = .ok (.iconst 1, 1) := by decide +kernel
theorem dM_limit_108 : decode prog_6_method_27_code 108 = .ok (.iadd, 1) := by decide +kernel
theorem dM_limit_109 : decode prog_6_method_27_code 109 = .ok (.goto 7, 3) := by decide +kernel
theorem dM_limit_112 : decode prog_6_method_27_code 112 = .ok (.aload_n 0, 1) := by decide +kernel
theorem dM_limit_113 : decode prog_6_method_27_code 113 = .ok (.getfield 109, 3) := by decide +kernel
theorem dM_limit_116 : decode prog_6_method_27_code 116 = .ok (.putfield 109, 3) := by decide +kernel
theorem dM_limit_119 : decode prog_6_method_27_code 119 = .ok (.aload_n 0, 1) := by decide +kernel
theorem dM_limit_120 : decode prog_6_method_27_code 120 = .ok (.getfield 45, 3) := by decide +kernel
theorem dM_limit_123 : decode prog_6_method_27_code 123 = .ok (.iload 5, 2) := by decide +kernel
theorem dM_limit_125 : decode prog_6_method_27_code 125 = .ok (.iload_n 1, 1) := by decide +kernel
theorem dM_limit_126 : decode prog_6_method_27_code 126 = .ok (.iastore, 1) := by decide +kernel
theorem dM_limit_127 : decode prog_6_method_27_code 127 = .ok (.aload_n 0, 1) := by decide +kernel
theorem dM_limit_128 : decode prog_6_method_27_code 128 = .ok (.getfield 48, 3) := by decide +kernel
theorem dM_limit_131 : decode prog_6_method_27_code 131 = .ok (.iload 5, 2) := by decide +kernel
theorem dM_limit_133 : decode prog_6_method_27_code 133 = .ok (.iload_n 2, 1) := by decide +kernel
theorem dM_limit_134 : decode prog_6_method_27_code 134 = .ok (.iastore, 1) := by decide +kernel
theorem dM_limit_135 : decode prog_6_method_27_code 135 = .ok (.aload_n 0, 1) := by decide +kernel
theorem dM_limit_136 : decode prog_6_method_27_code 136 = .ok (.getfield 51, 3) := by decide +kernel
theorem dM_limit_139 : decode prog_6_method_27_code 139 = .ok (.iload 5, 2) := by decide +kernel
theorem dM_limit_141 : decode prog_6_method_27_code 141 = .ok (.lload_n 3, 1) := by decide +kernel
theorem dM_limit_142 : decode prog_6_method_27_code 142 = .ok (.lastore, 1) := by decide +kernel
theorem dM_limit_143 : decode prog_6_method_27_code 143 = .ok (.iconst 0, 1) := by decide +kernel
theorem dM_limit_144 : decode prog_6_method_27_code 144 = .ok (.ireturn, 1) := by decide +kernel
def g_M_limit (m : MS) (p : Int32) (q : Int32) (v : Int64) : Int32 × MS := if (f_M_isParticipant m p) = 0 then (8, m) else (if (f_M_isParticipant m q) = 0 then (8, m) else (if p = q then (8, m) else (if v < 0 then (8, m) else (if 999999999999999 < v then (8, m) else (if v < (f_M_netPaid m p q) then (9, m) else (if 0 ≤ (f_M_limitAt m p q) then (if (f_M_limitAt m p q) = (nI (m.1 6)) then (0, mL (mI (mI (mN m 6 ((m.1 6) + 1)) 6 (va_up (m.2.2.1 6) (f_M_limitAt m p q).toNatClampNeg p)) 7 (va_up (m.2.2.1 7) (f_M_limitAt m p q).toNatClampNeg q)) 4 (va_up (m.2.2.2 4) (f_M_limitAt m p q).toNatClampNeg v)) else (0, mL (mI (mI (mN m 6 (m.1 6)) 6 (va_up (m.2.2.1 6) (f_M_limitAt m p q).toNatClampNeg p)) 7 (va_up (m.2.2.1 7) (f_M_limitAt m p q).toNatClampNeg q)) 4 (va_up (m.2.2.2 4) (f_M_limitAt m p q).toNatClampNeg v))) else (if (nI (m.1 6)) = 40 then (12, m) else (if (nI (m.1 6)) = (nI (m.1 6)) then (0, mL (mI (mI (mN m 6 ((m.1 6) + 1)) 6 (va_up (m.2.2.1 6) (nI (m.1 6)).toNatClampNeg p)) 7 (va_up (m.2.2.1 7) (nI (m.1 6)).toNatClampNeg q)) 4 (va_up (m.2.2.2 4) (nI (m.1 6)).toNatClampNeg v)) else (0, mL (mI (mI (mN m 6 (m.1 6)) 6 (va_up (m.2.2.1 6) (nI (m.1 6)).toNatClampNeg p)) 7 (va_up (m.2.2.1 7) (nI (m.1 6)).toNatClampNeg q)) 4 (va_up (m.2.2.2 4) (nI (m.1 6)).toNatClampNeg v))))))))))
set_option maxHeartbeats 4000000 in
set_option maxRecDepth 100000 in
theorem c_M_limit (l : Launch) (D : va_G) (cI cL cQ : ClassId) (d : Nat → Nat) (κ0 : Nat → Option va_E) (m : MS) (hm : IsM cI cL d κ0 m) (hB : MB m) (sz : Nat) (p : Int32) (q : Int32) (v : Int64)  : Met l yM_limit wM_limit { frames := 1, cells := 0, slots := 0, locals := 25 } (va_Pc [.ref (d 0), .int (p), .int (q), .long (v)] (kC D vCl (kT cI cL cQ) d κ0 sz)) (kNi D vCl d (kA d κ0 sz) (fun r κ' => r = (g_M_limit m p q v).1 ∧ MW cI cL κ0 d κ' (g_M_limit m p q v).2)) 0 0 (kA d κ0 sz) := by
  refine kMet (by decide) (Nat.le_of_ble_eq_true rfl) ?_
  intro p0 e0 s0 m0 below0 meth0 c0 hx hb hr hml hown hlocks hin hts hsz hP hK ls hl
  subst hsz
  have hl : lv_has ls 6 [(0, .ref (d 0)), (1, .int (p)), (2, .int (q)), (3, .long (v))] := hl
  have hB9 := hB
  obtain ⟨hb0, hb1, hb2, hb3, hb4, hb5, hb6, hb7, hb8, hb9, hb10⟩ := hB9
  obtain ⟨κ, hM, hW⟩ : ∃ κ', kW D vCl d κ' (kA d κ0 s0.heap.size) s0.heap s0.heap [] ∧ MW cI cL κ0 d κ' m := ⟨κ0, kW.start hP, ⟨hm, fun _ _ => rfl⟩⟩
  refine lv_aload_n hx hb dM_limit_0 rfl (lv_at hl 0 rfl) ?_
  refine lv_iload_n hx hb dM_limit_1 rfl (lv_at hl 1 rfl) ?_
  refine vp_callSi (W.runV (C := RM) (As := [.int (p)]) (rest := []) ⟨hx, hb, hml, hown, hts⟩ (c_M_isParticipant l D cI cL cQ d κ m hW.1 hB _ p) (cwV 1 hts (k_gV tw_529 tw_531 tw_31 tw_41 tw_532) rfl rfl rfl (by decide +kernel) ⟨Nat.le_of_ble_eq_true rfl, Nat.le_of_ble_eq_true rfl⟩) (kPreV hM.1 hK (q := 0) hW.1.1 rfl) rfl rfl hl.1 rfl (lv_room (Nat.le_of_ble_eq_true rfl)) dM_limit_2 ⟨Nat.le_of_ble_eq_true rfl, Nat.le_of_ble_eq_true rfl⟩) (fun r_2 e_2 => ?_)
  subst e_2
  refine lv_if_eq (tgt := 35) hx hb dM_limit_5 (by decide) (fun c_5 => ?_) (fun c_5 => ?_)
  · refine lv_bipush (v := 8) hx hb dM_limit_35 (by decide) ?_
    have hg : g_M_limit m p q v = (8, m) := by rw [g_M_limit, if_pos c_5]
    exact W.iret (v := 8) hx hb hr (fun t ht h9 => kNi.of hM ht (by rw [hg]; exact ⟨rfl, hW⟩)) hM.2.2.2.2 dM_limit_37
  · refine lv_aload_n hx hb dM_limit_8 rfl (lv_at hl 0 rfl) ?_
    refine lv_iload_n hx hb dM_limit_9 rfl (lv_at hl 2 rfl) ?_
    refine vp_callSi (W.runV (C := RM) (As := [.int (q)]) (rest := []) ⟨hx, hb, hml, hown, hts⟩ (c_M_isParticipant l D cI cL cQ d κ m hW.1 hB _ q) (cwV 1 hts (k_gV tw_529 tw_531 tw_31 tw_41 tw_532) rfl rfl rfl (by decide +kernel) ⟨Nat.le_of_ble_eq_true rfl, Nat.le_of_ble_eq_true rfl⟩) (kPreV hM.1 hK (q := 0) hW.1.1 rfl) rfl rfl hl.1 rfl (lv_room (Nat.le_of_ble_eq_true rfl)) dM_limit_10 ⟨Nat.le_of_ble_eq_true rfl, Nat.le_of_ble_eq_true rfl⟩) (fun r_10 e_10 => ?_)
    subst e_10
    refine lv_if_eq (tgt := 35) hx hb dM_limit_13 (by decide) (fun c_13 => ?_) (fun c_13 => ?_)
    · refine lv_bipush (v := 8) hx hb dM_limit_35 (by decide) ?_
      have hg : g_M_limit m p q v = (8, m) := by rw [g_M_limit, if_neg c_5, if_pos c_13]
      exact W.iret (v := 8) hx hb hr (fun t ht h9 => kNi.of hM ht (by rw [hg]; exact ⟨rfl, hW⟩)) hM.2.2.2.2 dM_limit_37
    · refine lv_iload_n hx hb dM_limit_16 rfl (lv_at hl 1 rfl) ?_
      refine lv_iload_n hx hb dM_limit_17 rfl (lv_at hl 2 rfl) ?_
      refine lv_icmp_eq (tgt := 35) hx hb dM_limit_18 (by decide) (fun c_18 => ?_) (fun c_18 => ?_)
      · refine lv_bipush (v := 8) hx hb dM_limit_35 (by decide) ?_
        have hg : g_M_limit m p q v = (8, m) := by rw [g_M_limit, if_neg c_5, if_neg c_13, if_pos c_18]
        exact W.iret (v := 8) hx hb hr (fun t ht h9 => kNi.of hM ht (by rw [hg]; exact ⟨rfl, hW⟩)) hM.2.2.2.2 dM_limit_37
      · refine lv_lload_n hx hb dM_limit_21 rfl (lv_at hl 3 rfl) ?_
        refine lv_lconst (v := 0) hx hb dM_limit_22 (by decide) ?_
        refine kl_lt (tgt := 35) hx hb dM_limit_23 dM_limit_24 (by decide) (fun c_23 => ?_) (fun c_23 => ?_)
        · refine lv_bipush (v := 8) hx hb dM_limit_35 (by decide) ?_
          have hg : g_M_limit m p q v = (8, m) := by rw [g_M_limit, if_neg c_5, if_neg c_13, if_neg c_18, if_pos c_23]
          exact W.iret (v := 8) hx hb hr (fun t ht h9 => kNi.of hM ht (by rw [hg]; exact ⟨rfl, hW⟩)) hM.2.2.2.2 dM_limit_37
        · refine lv_lload_n hx hb dM_limit_27 rfl (lv_at hl 3 rfl) ?_
          refine lv_ldc2 (v := 999999999999999) hx hb hown (hts _ tw_490) dM_limit_28 ?_
          refine kl_le (tgt := 38) hx hb dM_limit_31 dM_limit_32 (by decide) (fun c_31 => ?_) (fun c_31 => ?_)
          · refine lv_lload_n hx hb dM_limit_38 rfl (lv_at hl 3 rfl) ?_
            refine lv_aload_n hx hb dM_limit_39 rfl (lv_at hl 0 rfl) ?_
            refine lv_iload_n hx hb dM_limit_40 rfl (lv_at hl 1 rfl) ?_
            refine lv_iload_n hx hb dM_limit_41 rfl (lv_at hl 2 rfl) ?_
            refine vp_callSl (W.runV (C := RM) (As := [.int (p), .int (q)]) (rest := [.long (v)]) ⟨hx, hb, hml, hown, hts⟩ (c_M_netPaid l D cI cL cQ d κ m hW.1 hB _ p q) (cwV 2 hts (k_gV tw_566 tw_568 tw_35 tw_41 tw_569) rfl rfl rfl (by decide +kernel) ⟨Nat.le_of_ble_eq_true rfl, Nat.le_of_ble_eq_true rfl⟩) (kPreV hM.1 hK (q := 0) hW.1.1 rfl) rfl rfl hl.1 rfl (lv_room (Nat.le_of_ble_eq_true rfl)) dM_limit_42 ⟨Nat.le_of_ble_eq_true rfl, Nat.le_of_ble_eq_true rfl⟩) (fun r_42 e_42 => ?_)
            subst e_42
            refine kl_ge (tgt := 52) hx hb dM_limit_45 dM_limit_46 (by decide) (fun c_45 => ?_) (fun c_45 => ?_)
            · refine lv_aload_n hx hb dM_limit_52 rfl (lv_at hl 0 rfl) ?_
              refine lv_iload_n hx hb dM_limit_53 rfl (lv_at hl 1 rfl) ?_
              refine lv_iload_n hx hb dM_limit_54 rfl (lv_at hl 2 rfl) ?_
              refine vp_callSi (W.runV (C := RM) (As := [.int (p), .int (q)]) (rest := []) ⟨hx, hb, hml, hown, hts⟩ (c_M_limitAt l D cI cL cQ d κ m hW.1 hB _ p q) (cwV 2 hts (k_gV tw_475 tw_477 tw_24 tw_41 tw_478) rfl rfl rfl (by decide +kernel) ⟨Nat.le_of_ble_eq_true rfl, Nat.le_of_ble_eq_true rfl⟩) (kPreV hM.1 hK (q := 0) hW.1.1 rfl) rfl rfl hl.1 rfl (lv_room (Nat.le_of_ble_eq_true rfl)) dM_limit_55 ⟨Nat.le_of_ble_eq_true rfl, Nat.le_of_ble_eq_true rfl⟩) (fun r_55 e_55 => ?_)
              subst e_55
              refine lv_istore (lv' := [(5, .int (f_M_limitAt m p q)), (0, .ref (d 0)), (1, .int (p)), (2, .int (q)), (3, .long (v))]) hx hb dM_limit_58 hl (by decide) rfl (fun ls hl => ?_)
              refine lv_iload hx hb dM_limit_60 (lv_at hl 0 rfl) ?_
              refine lv_if_ge (tgt := 77) hx hb dM_limit_62 (by decide) (fun c_62 => ?_) (fun c_62 => ?_)
              · refine lv_iload hx hb dM_limit_77 (lv_at hl 0 rfl) ?_
                refine lv_if_ge (tgt := 89) hx hb dM_limit_79 (by decide) (fun _ => ?_) (fun c => absurd c_62 c)
                refine lv_iload hx hb dM_limit_89 (lv_at hl 0 rfl) ?_
                refine lv_istore (lv' := [(5, .int (f_M_limitAt m p q)), (0, .ref (d 0)), (1, .int (p)), (2, .int (q)), (3, .long (v))]) hx hb dM_limit_91 hl (by decide) rfl (fun ls hl => ?_)
                refine lv_aload_n hx hb dM_limit_93 rfl (lv_at hl 1 rfl) ?_
                refine lv_iload hx hb dM_limit_94 (lv_at hl 0 rfl) ?_
                refine lv_aload_n hx hb dM_limit_96 rfl (lv_at hl 1 rfl) ?_
                refine ka_get (v := .int (nI (m.1 6))) (ci := 4) (C := RM) (T := TM) (N := 26) hx hb hts inM hown hK hM.1 (q := 0) hW.1.1 rfl 17 (by decide) (hts _ tw_401) (fun _ h9 => h9) rfl dM_limit_97 ?_
                refine lv_icmp_ne (tgt := 112) hx hb dM_limit_100 (by decide) (fun c_100 => ?_) (fun c_100 => ?_)
                · refine lv_aload_n hx hb dM_limit_112 rfl (lv_at hl 1 rfl) ?_
                  refine ka_get (v := .int (nI (m.1 6))) (ci := 4) (C := RM) (T := TM) (N := 26) hx hb hts inM hown hK hM.1 (q := 0) hW.1.1 rfl 17 (by decide) (hts _ tw_401) (fun _ h9 => h9) rfl dM_limit_113 ?_
                  refine ka_put (D := D) (ci := 4) (v := .int (nI (m.1 6))) (ty := .int) (C := RM) (T := TM) (N := 26) hx hb hts inM tM tM_ok nM hown hK hM (q := 0) hW.1.1 rfl 17 (by decide) (hts _ tw_401) (fun _ h9 => h9) rfl (by decide +kernel) rfl rfl (Nat.le_of_ble_eq_true rfl) dM_limit_116 (fun H locs hM => ?_)
                  obtain ⟨κ, hM, hW⟩ : ∃ κ', kW D vCl d κ' (kA d κ0 s0.heap.size) s0.heap H locs ∧ MW cI cL κ0 d κ' (mN m 6 (m.1 6)) := ⟨_, hM, mw_limits (m.1 6) hW⟩
                  refine lv_aload_n hx hb dM_limit_119 rfl (lv_at hl 1 rfl) ?_
                  refine ka_get (v := .ref (d 11)) (ci := 4) (C := RM) (T := TM) (N := 26) hx hb hts inM hown hK hM.1 (q := 0) hW.1.1 rfl 18 (by decide) (hts _ tw_402) (fun _ h9 => h9) rfl dM_limit_120 ?_
                  refine lv_iload hx hb dM_limit_123 (lv_at hl 0 rfl) ?_
                  refine lv_iload_n hx hb dM_limit_125 rfl (lv_at hl 2 rfl) ?_
                  refine ka_iast (f := m.2.2.1 6) hx hb hK hM 0 (q := 11) hW.1.2.2.2.2.2.2.2.2.2.2.2.1 rfl (i := f_M_limitAt m p q) (x := p) (limitAt_41 hB (Int32.not_lt.mpr (by assumption))) dM_limit_126 (fun H locs hM => ?_)
                  obtain ⟨κ, hM, hW⟩ : ∃ κ', kW D vCl d κ' (kA d κ0 s0.heap.size) s0.heap H locs ∧ MW cI cL κ0 d κ' (mI (mN m 6 (m.1 6)) 6 (va_up (m.2.2.1 6) (f_M_limitAt m p q).toNatClampNeg p)) := ⟨_, hM, mw_limitFrom _ hW⟩
                  refine lv_aload_n hx hb dM_limit_127 rfl (lv_at hl 1 rfl) ?_
                  refine ka_get (v := .ref (d 12)) (ci := 4) (C := RM) (T := TM) (N := 26) hx hb hts inM hown hK hM.1 (q := 0) hW.1.1 rfl 19 (by decide) (hts _ tw_403) (fun _ h9 => h9) rfl dM_limit_128 ?_
                  refine lv_iload hx hb dM_limit_131 (lv_at hl 0 rfl) ?_
                  refine lv_iload_n hx hb dM_limit_133 rfl (lv_at hl 3 rfl) ?_
                  refine ka_iast (f := m.2.2.1 7) hx hb hK hM 0 (q := 12) hW.1.2.2.2.2.2.2.2.2.2.2.2.2.1 rfl (i := f_M_limitAt m p q) (x := q) (limitAt_41 hB (Int32.not_lt.mpr (by assumption))) dM_limit_134 (fun H locs hM => ?_)
                  obtain ⟨κ, hM, hW⟩ : ∃ κ', kW D vCl d κ' (kA d κ0 s0.heap.size) s0.heap H locs ∧ MW cI cL κ0 d κ' (mI (mI (mN m 6 (m.1 6)) 6 (va_up (m.2.2.1 6) (f_M_limitAt m p q).toNatClampNeg p)) 7 (va_up (m.2.2.1 7) (f_M_limitAt m p q).toNatClampNeg q)) := ⟨_, hM, mw_limitTo _ hW⟩
                  refine lv_aload_n hx hb dM_limit_135 rfl (lv_at hl 1 rfl) ?_
                  refine ka_get (v := .ref (d 13)) (ci := 4) (C := RM) (T := TM) (N := 26) hx hb hts inM hown hK hM.1 (q := 0) hW.1.1 rfl 20 (by decide) (hts _ tw_404) (fun _ h9 => h9) rfl dM_limit_136 ?_
                  refine lv_iload hx hb dM_limit_139 (lv_at hl 0 rfl) ?_
                  refine lv_lload_n hx hb dM_limit_141 rfl (lv_at hl 4 rfl) ?_
                  refine ka_last (f := m.2.2.2 4) hx hb hK hM 1 (q := 13) hW.1.2.2.2.2.2.2.2.2.2.2.2.2.2.1 rfl (i := f_M_limitAt m p q) (x := v) (limitAt_41 hB (Int32.not_lt.mpr (by assumption))) dM_limit_142 (fun H locs hM => ?_)
                  obtain ⟨κ, hM, hW⟩ : ∃ κ', kW D vCl d κ' (kA d κ0 s0.heap.size) s0.heap H locs ∧ MW cI cL κ0 d κ' (mL (mI (mI (mN m 6 (m.1 6)) 6 (va_up (m.2.2.1 6) (f_M_limitAt m p q).toNatClampNeg p)) 7 (va_up (m.2.2.1 7) (f_M_limitAt m p q).toNatClampNeg q)) 4 (va_up (m.2.2.2 4) (f_M_limitAt m p q).toNatClampNeg v)) := ⟨_, hM, mw_limitOf _ hW⟩
                  refine lv_iconst (v := 0) hx hb dM_limit_143 (by decide) ?_
                  have hg : g_M_limit m p q v = (0, mL (mI (mI (mN m 6 (m.1 6)) 6 (va_up (m.2.2.1 6) (f_M_limitAt m p q).toNatClampNeg p)) 7 (va_up (m.2.2.1 7) (f_M_limitAt m p q).toNatClampNeg q)) 4 (va_up (m.2.2.2 4) (f_M_limitAt m p q).toNatClampNeg v)) := by rw [g_M_limit, if_neg c_5, if_neg c_13, if_neg c_18, if_neg c_23, if_neg c_31, if_neg c_45, if_pos c_62, if_neg c_100]
                  exact W.iret (v := 0) hx hb hr (fun t ht h9 => kNi.of hM ht (by rw [hg]; exact ⟨rfl, hW⟩)) hM.2.2.2.2 dM_limit_144
                · refine lv_aload_n hx hb dM_limit_103 rfl (lv_at hl 1 rfl) ?_
                  refine ka_get (v := .int (nI (m.1 6))) (ci := 4) (C := RM) (T := TM) (N := 26) hx hb hts inM hown hK hM.1 (q := 0) hW.1.1 rfl 17 (by decide) (hts _ tw_401) (fun _ h9 => h9) rfl dM_limit_104 ?_
                  refine lv_iconst (v := 1) hx hb dM_limit_107 (by decide) ?_
                  refine lv_iadd hx hb dM_limit_108 ?_
                  refine k_topi (show nI (m.1 6) + 1 = nI ((m.1 6) + 1) from nI_add _ _) ?_
                  refine lv_goto (tgt := 116) hx hb dM_limit_109 (by decide) ?_
                  refine ka_put (D := D) (ci := 4) (v := .int (nI ((m.1 6) + 1))) (ty := .int) (C := RM) (T := TM) (N := 26) hx hb hts inM tM tM_ok nM hown hK hM (q := 0) hW.1.1 rfl 17 (by decide) (hts _ tw_401) (fun _ h9 => h9) rfl (by decide +kernel) rfl rfl (Nat.le_of_ble_eq_true rfl) dM_limit_116 (fun H locs hM => ?_)
                  obtain ⟨κ, hM, hW⟩ : ∃ κ', kW D vCl d κ' (kA d κ0 s0.heap.size) s0.heap H locs ∧ MW cI cL κ0 d κ' (mN m 6 ((m.1 6) + 1)) := ⟨_, hM, mw_limits ((m.1 6) + 1) hW⟩
                  refine lv_aload_n hx hb dM_limit_119 rfl (lv_at hl 1 rfl) ?_
                  refine ka_get (v := .ref (d 11)) (ci := 4) (C := RM) (T := TM) (N := 26) hx hb hts inM hown hK hM.1 (q := 0) hW.1.1 rfl 18 (by decide) (hts _ tw_402) (fun _ h9 => h9) rfl dM_limit_120 ?_
                  refine lv_iload hx hb dM_limit_123 (lv_at hl 0 rfl) ?_
                  refine lv_iload_n hx hb dM_limit_125 rfl (lv_at hl 2 rfl) ?_
                  refine ka_iast (f := m.2.2.1 6) hx hb hK hM 0 (q := 11) hW.1.2.2.2.2.2.2.2.2.2.2.2.1 rfl (i := f_M_limitAt m p q) (x := p) (limitAt_41 hB (Int32.not_lt.mpr (by assumption))) dM_limit_126 (fun H locs hM => ?_)
                  obtain ⟨κ, hM, hW⟩ : ∃ κ', kW D vCl d κ' (kA d κ0 s0.heap.size) s0.heap H locs ∧ MW cI cL κ0 d κ' (mI (mN m 6 ((m.1 6) + 1)) 6 (va_up (m.2.2.1 6) (f_M_limitAt m p q).toNatClampNeg p)) := ⟨_, hM, mw_limitFrom _ hW⟩
                  refine lv_aload_n hx hb dM_limit_127 rfl (lv_at hl 1 rfl) ?_
                  refine ka_get (v := .ref (d 12)) (ci := 4) (C := RM) (T := TM) (N := 26) hx hb hts inM hown hK hM.1 (q := 0) hW.1.1 rfl 19 (by decide) (hts _ tw_403) (fun _ h9 => h9) rfl dM_limit_128 ?_
                  refine lv_iload hx hb dM_limit_131 (lv_at hl 0 rfl) ?_
                  refine lv_iload_n hx hb dM_limit_133 rfl (lv_at hl 3 rfl) ?_
                  refine ka_iast (f := m.2.2.1 7) hx hb hK hM 0 (q := 12) hW.1.2.2.2.2.2.2.2.2.2.2.2.2.1 rfl (i := f_M_limitAt m p q) (x := q) (limitAt_41 hB (Int32.not_lt.mpr (by assumption))) dM_limit_134 (fun H locs hM => ?_)
                  obtain ⟨κ, hM, hW⟩ : ∃ κ', kW D vCl d κ' (kA d κ0 s0.heap.size) s0.heap H locs ∧ MW cI cL κ0 d κ' (mI (mI (mN m 6 ((m.1 6) + 1)) 6 (va_up (m.2.2.1 6) (f_M_limitAt m p q).toNatClampNeg p)) 7 (va_up (m.2.2.1 7) (f_M_limitAt m p q).toNatClampNeg q)) := ⟨_, hM, mw_limitTo _ hW⟩
                  refine lv_aload_n hx hb dM_limit_135 rfl (lv_at hl 1 rfl) ?_
                  refine ka_get (v := .ref (d 13)) (ci := 4) (C := RM) (T := TM) (N := 26) hx hb hts inM hown hK hM.1 (q := 0) hW.1.1 rfl 20 (by decide) (hts _ tw_404) (fun _ h9 => h9) rfl dM_limit_136 ?_
                  refine lv_iload hx hb dM_limit_139 (lv_at hl 0 rfl) ?_
                  refine lv_lload_n hx hb dM_limit_141 rfl (lv_at hl 4 rfl) ?_
                  refine ka_last (f := m.2.2.2 4) hx hb hK hM 1 (q := 13) hW.1.2.2.2.2.2.2.2.2.2.2.2.2.2.1 rfl (i := f_M_limitAt m p q) (x := v) (limitAt_41 hB (Int32.not_lt.mpr (by assumption))) dM_limit_142 (fun H locs hM => ?_)
                  obtain ⟨κ, hM, hW⟩ : ∃ κ', kW D vCl d κ' (kA d κ0 s0.heap.size) s0.heap H locs ∧ MW cI cL κ0 d κ' (mL (mI (mI (mN m 6 ((m.1 6) + 1)) 6 (va_up (m.2.2.1 6) (f_M_limitAt m p q).toNatClampNeg p)) 7 (va_up (m.2.2.1 7) (f_M_limitAt m p q).toNatClampNeg q)) 4 (va_up (m.2.2.2 4) (f_M_limitAt m p q).toNatClampNeg v)) := ⟨_, hM, mw_limitOf _ hW⟩
                  refine lv_iconst (v := 0) hx hb dM_limit_143 (by decide) ?_
                  have hg : g_M_limit m p q v = (0, mL (mI (mI (mN m 6 ((m.1 6) + 1)) 6 (va_up (m.2.2.1 6) (f_M_limitAt m p q).toNatClampNeg p)) 7 (va_up (m.2.2.1 7) (f_M_limitAt m p q).toNatClampNeg q)) 4 (va_up (m.2.2.2 4) (f_M_limitAt m p q).toNatClampNeg v)) := by rw [g_M_limit, if_neg c_5, if_neg c_13, if_neg c_18, if_neg c_23, if_neg c_31, if_neg c_45, if_pos c_62, if_pos c_100]
                  exact W.iret (v := 0) hx hb hr (fun t ht h9 => kNi.of hM ht (by rw [hg]; exact ⟨rfl, hW⟩)) hM.2.2.2.2 dM_limit_144
              · refine lv_aload_n hx hb dM_limit_65 rfl (lv_at hl 1 rfl) ?_
                refine ka_get (v := .int (nI (m.1 6))) (ci := 4) (C := RM) (T := TM) (N := 26) hx hb hts inM hown hK hM.1 (q := 0) hW.1.1 rfl 17 (by decide) (hts _ tw_401) (fun _ h9 => h9) rfl dM_limit_66 ?_
                refine lv_bipush (v := 40) hx hb dM_limit_69 (by decide) ?_
                refine lv_icmp_ne (tgt := 77) hx hb dM_limit_71 (by decide) (fun c_71 => ?_) (fun c_71 => ?_)
                · refine lv_iload hx hb dM_limit_77 (lv_at hl 0 rfl) ?_
                  refine lv_if_ge (tgt := 89) hx hb dM_limit_79 (by decide) (fun c => absurd c c_62) (fun _ => ?_)
                  refine lv_aload_n hx hb dM_limit_82 rfl (lv_at hl 1 rfl) ?_
                  refine ka_get (v := .int (nI (m.1 6))) (ci := 4) (C := RM) (T := TM) (N := 26) hx hb hts inM hown hK hM.1 (q := 0) hW.1.1 rfl 17 (by decide) (hts _ tw_401) (fun _ h9 => h9) rfl dM_limit_83 ?_
                  refine lv_goto (tgt := 91) hx hb dM_limit_86 (by decide) ?_
                  refine lv_istore (lv' := [(5, .int (nI (m.1 6))), (0, .ref (d 0)), (1, .int (p)), (2, .int (q)), (3, .long (v))]) hx hb dM_limit_91 hl (by decide) rfl (fun ls hl => ?_)
                  refine lv_aload_n hx hb dM_limit_93 rfl (lv_at hl 1 rfl) ?_
                  refine lv_iload hx hb dM_limit_94 (lv_at hl 0 rfl) ?_
                  refine lv_aload_n hx hb dM_limit_96 rfl (lv_at hl 1 rfl) ?_
                  refine ka_get (v := .int (nI (m.1 6))) (ci := 4) (C := RM) (T := TM) (N := 26) hx hb hts inM hown hK hM.1 (q := 0) hW.1.1 rfl 17 (by decide) (hts _ tw_401) (fun _ h9 => h9) rfl dM_limit_97 ?_
                  refine lv_icmp_ne (tgt := 112) hx hb dM_limit_100 (by decide) (fun c_100 => ?_) (fun c_100 => ?_)
                  · refine lv_aload_n hx hb dM_limit_112 rfl (lv_at hl 1 rfl) ?_
                    refine ka_get (v := .int (nI (m.1 6))) (ci := 4) (C := RM) (T := TM) (N := 26) hx hb hts inM hown hK hM.1 (q := 0) hW.1.1 rfl 17 (by decide) (hts _ tw_401) (fun _ h9 => h9) rfl dM_limit_113 ?_
                    refine ka_put (D := D) (ci := 4) (v := .int (nI (m.1 6))) (ty := .int) (C := RM) (T := TM) (N := 26) hx hb hts inM tM tM_ok nM hown hK hM (q := 0) hW.1.1 rfl 17 (by decide) (hts _ tw_401) (fun _ h9 => h9) rfl (by decide +kernel) rfl rfl (Nat.le_of_ble_eq_true rfl) dM_limit_116 (fun H locs hM => ?_)
                    obtain ⟨κ, hM, hW⟩ : ∃ κ', kW D vCl d κ' (kA d κ0 s0.heap.size) s0.heap H locs ∧ MW cI cL κ0 d κ' (mN m 6 (m.1 6)) := ⟨_, hM, mw_limits (m.1 6) hW⟩
                    refine lv_aload_n hx hb dM_limit_119 rfl (lv_at hl 1 rfl) ?_
                    refine ka_get (v := .ref (d 11)) (ci := 4) (C := RM) (T := TM) (N := 26) hx hb hts inM hown hK hM.1 (q := 0) hW.1.1 rfl 18 (by decide) (hts _ tw_402) (fun _ h9 => h9) rfl dM_limit_120 ?_
                    refine lv_iload hx hb dM_limit_123 (lv_at hl 0 rfl) ?_
                    refine lv_iload_n hx hb dM_limit_125 rfl (lv_at hl 2 rfl) ?_
                    refine ka_iast (f := m.2.2.1 6) hx hb hK hM 0 (q := 11) hW.1.2.2.2.2.2.2.2.2.2.2.2.1 rfl (i := nI (m.1 6)) (x := p) (vp_in_nI (by omega) (by omega)) dM_limit_126 (fun H locs hM => ?_)
                    obtain ⟨κ, hM, hW⟩ : ∃ κ', kW D vCl d κ' (kA d κ0 s0.heap.size) s0.heap H locs ∧ MW cI cL κ0 d κ' (mI (mN m 6 (m.1 6)) 6 (va_up (m.2.2.1 6) (nI (m.1 6)).toNatClampNeg p)) := ⟨_, hM, mw_limitFrom _ hW⟩
                    refine lv_aload_n hx hb dM_limit_127 rfl (lv_at hl 1 rfl) ?_
                    refine ka_get (v := .ref (d 12)) (ci := 4) (C := RM) (T := TM) (N := 26) hx hb hts inM hown hK hM.1 (q := 0) hW.1.1 rfl 19 (by decide) (hts _ tw_403) (fun _ h9 => h9) rfl dM_limit_128 ?_
                    refine lv_iload hx hb dM_limit_131 (lv_at hl 0 rfl) ?_
                    refine lv_iload_n hx hb dM_limit_133 rfl (lv_at hl 3 rfl) ?_
                    refine ka_iast (f := m.2.2.1 7) hx hb hK hM 0 (q := 12) hW.1.2.2.2.2.2.2.2.2.2.2.2.2.1 rfl (i := nI (m.1 6)) (x := q) (vp_in_nI (by omega) (by omega)) dM_limit_134 (fun H locs hM => ?_)
                    obtain ⟨κ, hM, hW⟩ : ∃ κ', kW D vCl d κ' (kA d κ0 s0.heap.size) s0.heap H locs ∧ MW cI cL κ0 d κ' (mI (mI (mN m 6 (m.1 6)) 6 (va_up (m.2.2.1 6) (nI (m.1 6)).toNatClampNeg p)) 7 (va_up (m.2.2.1 7) (nI (m.1 6)).toNatClampNeg q)) := ⟨_, hM, mw_limitTo _ hW⟩
                    refine lv_aload_n hx hb dM_limit_135 rfl (lv_at hl 1 rfl) ?_
                    refine ka_get (v := .ref (d 13)) (ci := 4) (C := RM) (T := TM) (N := 26) hx hb hts inM hown hK hM.1 (q := 0) hW.1.1 rfl 20 (by decide) (hts _ tw_404) (fun _ h9 => h9) rfl dM_limit_136 ?_
                    refine lv_iload hx hb dM_limit_139 (lv_at hl 0 rfl) ?_
                    refine lv_lload_n hx hb dM_limit_141 rfl (lv_at hl 4 rfl) ?_
                    refine ka_last (f := m.2.2.2 4) hx hb hK hM 1 (q := 13) hW.1.2.2.2.2.2.2.2.2.2.2.2.2.2.1 rfl (i := nI (m.1 6)) (x := v) (vp_in_nI (by omega) (by omega)) dM_limit_142 (fun H locs hM => ?_)
                    obtain ⟨κ, hM, hW⟩ : ∃ κ', kW D vCl d κ' (kA d κ0 s0.heap.size) s0.heap H locs ∧ MW cI cL κ0 d κ' (mL (mI (mI (mN m 6 (m.1 6)) 6 (va_up (m.2.2.1 6) (nI (m.1 6)).toNatClampNeg p)) 7 (va_up (m.2.2.1 7) (nI (m.1 6)).toNatClampNeg q)) 4 (va_up (m.2.2.2 4) (nI (m.1 6)).toNatClampNeg v)) := ⟨_, hM, mw_limitOf _ hW⟩
                    refine lv_iconst (v := 0) hx hb dM_limit_143 (by decide) ?_
                    have hg : g_M_limit m p q v = (0, mL (mI (mI (mN m 6 (m.1 6)) 6 (va_up (m.2.2.1 6) (nI (m.1 6)).toNatClampNeg p)) 7 (va_up (m.2.2.1 7) (nI (m.1 6)).toNatClampNeg q)) 4 (va_up (m.2.2.2 4) (nI (m.1 6)).toNatClampNeg v)) := by rw [g_M_limit, if_neg c_5, if_neg c_13, if_neg c_18, if_neg c_23, if_neg c_31, if_neg c_45, if_neg c_62, if_neg c_71, if_neg c_100]
                    exact W.iret (v := 0) hx hb hr (fun t ht h9 => kNi.of hM ht (by rw [hg]; exact ⟨rfl, hW⟩)) hM.2.2.2.2 dM_limit_144
                  · refine lv_aload_n hx hb dM_limit_103 rfl (lv_at hl 1 rfl) ?_
                    refine ka_get (v := .int (nI (m.1 6))) (ci := 4) (C := RM) (T := TM) (N := 26) hx hb hts inM hown hK hM.1 (q := 0) hW.1.1 rfl 17 (by decide) (hts _ tw_401) (fun _ h9 => h9) rfl dM_limit_104 ?_
                    refine lv_iconst (v := 1) hx hb dM_limit_107 (by decide) ?_
                    refine lv_iadd hx hb dM_limit_108 ?_
                    refine k_topi (show nI (m.1 6) + 1 = nI ((m.1 6) + 1) from nI_add _ _) ?_
                    refine lv_goto (tgt := 116) hx hb dM_limit_109 (by decide) ?_
                    refine ka_put (D := D) (ci := 4) (v := .int (nI ((m.1 6) + 1))) (ty := .int) (C := RM) (T := TM) (N := 26) hx hb hts inM tM tM_ok nM hown hK hM (q := 0) hW.1.1 rfl 17 (by decide) (hts _ tw_401) (fun _ h9 => h9) rfl (by decide +kernel) rfl rfl (Nat.le_of_ble_eq_true rfl) dM_limit_116 (fun H locs hM => ?_)
                    obtain ⟨κ, hM, hW⟩ : ∃ κ', kW D vCl d κ' (kA d κ0 s0.heap.size) s0.heap H locs ∧ MW cI cL κ0 d κ' (mN m 6 ((m.1 6) + 1)) := ⟨_, hM, mw_limits ((m.1 6) + 1) hW⟩
                    refine lv_aload_n hx hb dM_limit_119 rfl (lv_at hl 1 rfl) ?_
                    refine ka_get (v := .ref (d 11)) (ci := 4) (C := RM) (T := TM) (N := 26) hx hb hts inM hown hK hM.1 (q := 0) hW.1.1 rfl 18 (by decide) (hts _ tw_402) (fun _ h9 => h9) rfl dM_limit_120 ?_
                    refine lv_iload hx hb dM_limit_123 (lv_at hl 0 rfl) ?_
                    refine lv_iload_n hx hb dM_limit_125 rfl (lv_at hl 2 rfl) ?_
                    refine ka_iast (f := m.2.2.1 6) hx hb hK hM 0 (q := 11) hW.1.2.2.2.2.2.2.2.2.2.2.2.1 rfl (i := nI (m.1 6)) (x := p) (vp_in_nI (by omega) (by omega)) dM_limit_126 (fun H locs hM => ?_)
                    obtain ⟨κ, hM, hW⟩ : ∃ κ', kW D vCl d κ' (kA d κ0 s0.heap.size) s0.heap H locs ∧ MW cI cL κ0 d κ' (mI (mN m 6 ((m.1 6) + 1)) 6 (va_up (m.2.2.1 6) (nI (m.1 6)).toNatClampNeg p)) := ⟨_, hM, mw_limitFrom _ hW⟩
                    refine lv_aload_n hx hb dM_limit_127 rfl (lv_at hl 1 rfl) ?_
                    refine ka_get (v := .ref (d 12)) (ci := 4) (C := RM) (T := TM) (N := 26) hx hb hts inM hown hK hM.1 (q := 0) hW.1.1 rfl 19 (by decide) (hts _ tw_403) (fun _ h9 => h9) rfl dM_limit_128 ?_
                    refine lv_iload hx hb dM_limit_131 (lv_at hl 0 rfl) ?_
                    refine lv_iload_n hx hb dM_limit_133 rfl (lv_at hl 3 rfl) ?_
                    refine ka_iast (f := m.2.2.1 7) hx hb hK hM 0 (q := 12) hW.1.2.2.2.2.2.2.2.2.2.2.2.2.1 rfl (i := nI (m.1 6)) (x := q) (vp_in_nI (by omega) (by omega)) dM_limit_134 (fun H locs hM => ?_)
                    obtain ⟨κ, hM, hW⟩ : ∃ κ', kW D vCl d κ' (kA d κ0 s0.heap.size) s0.heap H locs ∧ MW cI cL κ0 d κ' (mI (mI (mN m 6 ((m.1 6) + 1)) 6 (va_up (m.2.2.1 6) (nI (m.1 6)).toNatClampNeg p)) 7 (va_up (m.2.2.1 7) (nI (m.1 6)).toNatClampNeg q)) := ⟨_, hM, mw_limitTo _ hW⟩
                    refine lv_aload_n hx hb dM_limit_135 rfl (lv_at hl 1 rfl) ?_
                    refine ka_get (v := .ref (d 13)) (ci := 4) (C := RM) (T := TM) (N := 26) hx hb hts inM hown hK hM.1 (q := 0) hW.1.1 rfl 20 (by decide) (hts _ tw_404) (fun _ h9 => h9) rfl dM_limit_136 ?_
                    refine lv_iload hx hb dM_limit_139 (lv_at hl 0 rfl) ?_
                    refine lv_lload_n hx hb dM_limit_141 rfl (lv_at hl 4 rfl) ?_
                    refine ka_last (f := m.2.2.2 4) hx hb hK hM 1 (q := 13) hW.1.2.2.2.2.2.2.2.2.2.2.2.2.2.1 rfl (i := nI (m.1 6)) (x := v) (vp_in_nI (by omega) (by omega)) dM_limit_142 (fun H locs hM => ?_)
                    obtain ⟨κ, hM, hW⟩ : ∃ κ', kW D vCl d κ' (kA d κ0 s0.heap.size) s0.heap H locs ∧ MW cI cL κ0 d κ' (mL (mI (mI (mN m 6 ((m.1 6) + 1)) 6 (va_up (m.2.2.1 6) (nI (m.1 6)).toNatClampNeg p)) 7 (va_up (m.2.2.1 7) (nI (m.1 6)).toNatClampNeg q)) 4 (va_up (m.2.2.2 4) (nI (m.1 6)).toNatClampNeg v)) := ⟨_, hM, mw_limitOf _ hW⟩
                    refine lv_iconst (v := 0) hx hb dM_limit_143 (by decide) ?_
                    have hg : g_M_limit m p q v = (0, mL (mI (mI (mN m 6 ((m.1 6) + 1)) 6 (va_up (m.2.2.1 6) (nI (m.1 6)).toNatClampNeg p)) 7 (va_up (m.2.2.1 7) (nI (m.1 6)).toNatClampNeg q)) 4 (va_up (m.2.2.2 4) (nI (m.1 6)).toNatClampNeg v)) := by rw [g_M_limit, if_neg c_5, if_neg c_13, if_neg c_18, if_neg c_23, if_neg c_31, if_neg c_45, if_neg c_62, if_neg c_71, if_pos c_100]
                    exact W.iret (v := 0) hx hb hr (fun t ht h9 => kNi.of hM ht (by rw [hg]; exact ⟨rfl, hW⟩)) hM.2.2.2.2 dM_limit_144
                · refine lv_bipush (v := 12) hx hb dM_limit_74 (by decide) ?_
                  have hg : g_M_limit m p q v = (12, m) := by rw [g_M_limit, if_neg c_5, if_neg c_13, if_neg c_18, if_neg c_23, if_neg c_31, if_neg c_45, if_neg c_62, if_pos c_71]
                  exact W.iret (v := 12) hx hb hr (fun t ht h9 => kNi.of hM ht (by rw [hg]; exact ⟨rfl, hW⟩)) hM.2.2.2.2 dM_limit_76
            · refine lv_bipush (v := 9) hx hb dM_limit_49 (by decide) ?_
              have hg : g_M_limit m p q v = (9, m) := by rw [g_M_limit, if_neg c_5, if_neg c_13, if_neg c_18, if_neg c_23, if_neg c_31, if_pos c_45]
              exact W.iret (v := 9) hx hb hr (fun t ht h9 => kNi.of hM ht (by rw [hg]; exact ⟨rfl, hW⟩)) hM.2.2.2.2 dM_limit_51
          · refine lv_bipush (v := 8) hx hb dM_limit_35 (by decide) ?_
            have hg : g_M_limit m p q v = (8, m) := by rw [g_M_limit, if_neg c_5, if_neg c_13, if_neg c_18, if_neg c_23, if_pos c_31]
            exact W.iret (v := 8) hx hb hr (fun t ht h9 => kNi.of hM ht (by rw [hg]; exact ⟨rfl, hW⟩)) hM.2.2.2.2 dM_limit_37

theorem dM_open_0 : decode prog_6_method_28_code 0 = .ok (.aload_n 0, 1) := by decide +kernel
theorem dM_open_1 : decode prog_6_method_28_code 1 = .ok (.iload_n 1, 1) := by decide +kernel
theorem dM_open_2 : decode prog_6_method_28_code 2 = .ok (.iload_n 2, 1) := by decide +kernel
theorem dM_open_3 : decode prog_6_method_28_code 3 = .ok (.invokevirtual 116, 3) := by decide +kernel
theorem dM_open_6 : decode prog_6_method_28_code 6 = .ok (.istore_n 3, 1) := by decide +kernel
theorem dM_open_7 : decode prog_6_method_28_code 7 = .ok (.iload_n 3, 1) := by decide +kernel
theorem dM_open_8 : decode prog_6_method_28_code 8 = .ok (.ifCond .ge 6, 3) := by decide +kernel
theorem dM_open_11 : decode prog_6_method_28_code 11 = .ok (.bipush 8, 2) := by decide +kernel
theorem dM_open_13 : decode prog_6_method_28_code 13 = .ok (.ireturn, 1) := by decide +kernel
theorem dM_open_14 : decode prog_6_method_28_code 14 = .ok (.aload_n 0, 1) := by decide +kernel
theorem dM_open_15 : decode prog_6_method_28_code 15 = .ok (.dup, 1) := by decide +kernel
theorem dM_open_16 : decode prog_6_method_28_code 16 = .ok (.getfield 109, 3) := by decide +kernel
theorem dM_open_19 : decode prog_6_method_28_code 19 = .ok (.iconst 1, 1) := by decide +kernel
theorem dM_open_20 : decode prog_6_method_28_code 20 = .ok (.isub, 1) := by decide +kernel
theorem dM_open_21 : decode prog_6_method_28_code 21 = .ok (.putfield 109, 3) := by decide +kernel
theorem dM_open_24 : decode prog_6_method_28_code 24 = .ok (.aload_n 0, 1) := by decide +kernel
theorem dM_open_25 : decode prog_6_method_28_code 25 = .ok (.getfield 45, 3) := by decide +kernel
theorem dM_open_28 : decode prog_6_method_28_code 28 = .ok (.iload_n 3, 1) := by decide +kernel
theorem dM_open_29 : decode prog_6_method_28_code 29 = .ok (.aload_n 0, 1) := by decide +kernel
theorem dM_open_30 : decode prog_6_method_28_code 30 = .ok (.getfield 45, 3) := by decide +kernel
theorem dM_open_33 : decode prog_6_method_28_code 33 = .ok (.aload_n 0, 1) := by decide +kernel
theorem dM_open_34 : decode prog_6_method_28_code 34 = .ok (.getfield 109, 3) := by decide +kernel
theorem dM_open_37 : decode prog_6_method_28_code 37 = .ok (.iaload, 1) := by decide +kernel
theorem dM_open_38 : decode prog_6_method_28_code 38 = .ok (.iastore, 1) := by decide +kernel
theorem dM_open_39 : decode prog_6_method_28_code 39 = .ok (.aload_n 0, 1) := by decide +kernel
theorem dM_open_40 : decode prog_6_method_28_code 40 = .ok (.getfield 48, 3) := by decide +kernel
theorem dM_open_43 : decode prog_6_method_28_code 43 = .ok (.iload_n 3, 1) := by decide +kernel
theorem dM_open_44 : decode prog_6_method_28_code 44 = .ok (.aload_n 0, 1) := by decide +kernel
theorem dM_open_45 : decode prog_6_method_28_code 45 = .ok (.getfield 48, 3) := by decide +kernel
theorem dM_open_48 : decode prog_6_method_28_code 48 = .ok (.aload_n 0, 1) := by decide +kernel
theorem dM_open_49 : decode prog_6_method_28_code 49 = .ok (.getfield 109, 3) := by decide +kernel
theorem dM_open_52 : decode prog_6_method_28_code 52 = .ok (.iaload, 1) := by decide +kernel
theorem dM_open_53 : decode prog_6_method_28_code 53 = .ok (.iastore, 1) := by decide +kernel
theorem dM_open_54 : decode prog_6_method_28_code 54 = .ok (.aload_n 0, 1) := by decide +kernel
theorem dM_open_55 : decode prog_6_method_28_code 55 = .ok (.getfield 51, 3) := by decide +kernel
theorem dM_open_58 : decode prog_6_method_28_code 58 = .ok (.iload_n 3, 1) := by decide +kernel
theorem dM_open_59 : decode prog_6_method_28_code 59 = .ok (.aload_n 0, 1) := by decide +kernel
theorem dM_open_60 : decode prog_6_method_28_code 60 = .ok (.getfield 51, 3) := by decide +kernel
theorem dM_open_63 : decode prog_6_method_28_code 63 = .ok (.aload_n 0, 1) := by decide +kernel
theorem dM_open_64 : decode prog_6_method_28_code 64 = .ok (.getfield 109, 3) := by decide +kernel
theorem dM_open_67 : decode prog_6_method_28_code 67 = .ok (.laload, 1) := by decide +kernel
theorem dM_open_68 : decode prog_6_method_28_code 68 = .ok (.lastore, 1) := by decide +kernel
theorem dM_open_69 : decode prog_6_method_28_code 69 = .ok (.iconst 0, 1) := by decide +kernel
theorem dM_open_70 : decode prog_6_method_28_code 70 = .ok (.ireturn, 1) := by decide +kernel
def g_M_open (m : MS) (p : Int32) (q : Int32) : Int32 × MS := if 0 ≤ (f_M_limitAt m p q) then (0, mL (mI (mI (mN m 6 ((m.1 6) - 1)) 6 (va_up (m.2.2.1 6) (f_M_limitAt m p q).toNatClampNeg ((m.2.2.1 6) (nI ((m.1 6) - 1)).toNatClampNeg))) 7 (va_up (m.2.2.1 7) (f_M_limitAt m p q).toNatClampNeg ((m.2.2.1 7) (nI ((m.1 6) - 1)).toNatClampNeg))) 4 (va_up (m.2.2.2 4) (f_M_limitAt m p q).toNatClampNeg ((m.2.2.2 4) (nI ((m.1 6) - 1)).toNatClampNeg))) else (8, m)
set_option maxHeartbeats 4000000 in
set_option maxRecDepth 100000 in
theorem c_M_open (l : Launch) (D : va_G) (cI cL cQ : ClassId) (d : Nat → Nat) (κ0 : Nat → Option va_E) (m : MS) (hm : IsM cI cL d κ0 m) (hB : MB m) (sz : Nat) (p : Int32) (q : Int32)  : Met l yM_open wM_open { frames := 1, cells := 0, slots := 0, locals := 24 } (va_Pc [.ref (d 0), .int (p), .int (q)] (kC D vCl (kT cI cL cQ) d κ0 sz)) (kNi D vCl d (kA d κ0 sz) (fun r κ' => r = (g_M_open m p q).1 ∧ MW cI cL κ0 d κ' (g_M_open m p q).2)) 0 0 (kA d κ0 sz) := by
  refine kMet (by decide) (Nat.le_of_ble_eq_true rfl) ?_
  intro p0 e0 s0 m0 below0 meth0 c0 hx hb hr hml hown hlocks hin hts hsz hP hK ls hl
  subst hsz
  have hl : lv_has ls 4 [(0, .ref (d 0)), (1, .int (p)), (2, .int (q))] := hl
  have hB9 := hB
  obtain ⟨hb0, hb1, hb2, hb3, hb4, hb5, hb6, hb7, hb8, hb9, hb10⟩ := hB9
  obtain ⟨κ, hM, hW⟩ : ∃ κ', kW D vCl d κ' (kA d κ0 s0.heap.size) s0.heap s0.heap [] ∧ MW cI cL κ0 d κ' m := ⟨κ0, kW.start hP, ⟨hm, fun _ _ => rfl⟩⟩
  refine lv_aload_n hx hb dM_open_0 rfl (lv_at hl 0 rfl) ?_
  refine lv_iload_n hx hb dM_open_1 rfl (lv_at hl 1 rfl) ?_
  refine lv_iload_n hx hb dM_open_2 rfl (lv_at hl 2 rfl) ?_
  refine vp_callSi (W.runV (C := RM) (As := [.int (p), .int (q)]) (rest := []) ⟨hx, hb, hml, hown, hts⟩ (c_M_limitAt l D cI cL cQ d κ m hW.1 hB _ p q) (cwV 2 hts (k_gV tw_475 tw_477 tw_24 tw_41 tw_478) rfl rfl rfl (by decide +kernel) ⟨Nat.le_of_ble_eq_true rfl, Nat.le_of_ble_eq_true rfl⟩) (kPreV hM.1 hK (q := 0) hW.1.1 rfl) rfl rfl hl.1 rfl (lv_room (Nat.le_of_ble_eq_true rfl)) dM_open_3 ⟨Nat.le_of_ble_eq_true rfl, Nat.le_of_ble_eq_true rfl⟩) (fun r_3 e_3 => ?_)
  subst e_3
  refine lv_istore_n (lv' := [(3, .int (f_M_limitAt m p q)), (0, .ref (d 0)), (1, .int (p)), (2, .int (q))]) hx hb dM_open_6 rfl hl (by decide) rfl (fun ls hl => ?_)
  refine lv_iload_n hx hb dM_open_7 rfl (lv_at hl 0 rfl) ?_
  refine lv_if_ge (tgt := 14) hx hb dM_open_8 (by decide) (fun c_8 => ?_) (fun c_8 => ?_)
  · have hpos : 1 ≤ m.1 6 := limitAt_pos hB c_8
    refine lv_aload_n hx hb dM_open_14 rfl (lv_at hl 1 rfl) ?_
    refine lv_dup hx hb dM_open_15 rfl ?_
    refine ka_get (v := .int (nI (m.1 6))) (ci := 4) (C := RM) (T := TM) (N := 26) hx hb hts inM hown hK hM.1 (q := 0) hW.1.1 rfl 17 (by decide) (hts _ tw_401) (fun _ h9 => h9) rfl dM_open_16 ?_
    refine lv_iconst (v := 1) hx hb dM_open_19 (by decide) ?_
    refine lv_isub hx hb dM_open_20 ?_
    refine k_topi (show nI (m.1 6) - 1 = nI ((m.1 6) - 1) from pk_sub (a := (m.1 6)) (b := 1) (by omega)) ?_
    refine ka_put (D := D) (ci := 4) (v := .int (nI ((m.1 6) - 1))) (ty := .int) (C := RM) (T := TM) (N := 26) hx hb hts inM tM tM_ok nM hown hK hM (q := 0) hW.1.1 rfl 17 (by decide) (hts _ tw_401) (fun _ h9 => h9) rfl (by decide +kernel) rfl rfl (Nat.le_of_ble_eq_true rfl) dM_open_21 (fun H locs hM => ?_)
    obtain ⟨κ, hM, hW⟩ : ∃ κ', kW D vCl d κ' (kA d κ0 s0.heap.size) s0.heap H locs ∧ MW cI cL κ0 d κ' (mN m 6 ((m.1 6) - 1)) := ⟨_, hM, mw_limits ((m.1 6) - 1) hW⟩
    refine lv_aload_n hx hb dM_open_24 rfl (lv_at hl 1 rfl) ?_
    refine ka_get (v := .ref (d 11)) (ci := 4) (C := RM) (T := TM) (N := 26) hx hb hts inM hown hK hM.1 (q := 0) hW.1.1 rfl 18 (by decide) (hts _ tw_402) (fun _ h9 => h9) rfl dM_open_25 ?_
    refine lv_iload_n hx hb dM_open_28 rfl (lv_at hl 0 rfl) ?_
    refine lv_aload_n hx hb dM_open_29 rfl (lv_at hl 1 rfl) ?_
    refine ka_get (v := .ref (d 11)) (ci := 4) (C := RM) (T := TM) (N := 26) hx hb hts inM hown hK hM.1 (q := 0) hW.1.1 rfl 18 (by decide) (hts _ tw_402) (fun _ h9 => h9) rfl dM_open_30 ?_
    refine lv_aload_n hx hb dM_open_33 rfl (lv_at hl 1 rfl) ?_
    refine ka_get (v := .int (nI ((m.1 6) - 1))) (ci := 4) (C := RM) (T := TM) (N := 26) hx hb hts inM hown hK hM.1 (q := 0) hW.1.1 rfl 17 (by decide) (hts _ tw_401) (fun _ h9 => h9) rfl dM_open_34 ?_
    refine ka_iald (f := m.2.2.1 6) hx hb hK hM.1 0 (q := 11) hW.1.2.2.2.2.2.2.2.2.2.2.2.1 rfl (vp_in_nI (by omega) (by omega)) dM_open_37 ?_
    refine ka_iast (f := m.2.2.1 6) hx hb hK hM 0 (q := 11) hW.1.2.2.2.2.2.2.2.2.2.2.2.1 rfl (i := f_M_limitAt m p q) (x := (m.2.2.1 6) (nI ((m.1 6) - 1)).toNatClampNeg) (limitAt_41 hB (Int32.not_lt.mpr (by assumption))) dM_open_38 (fun H locs hM => ?_)
    obtain ⟨κ, hM, hW⟩ : ∃ κ', kW D vCl d κ' (kA d κ0 s0.heap.size) s0.heap H locs ∧ MW cI cL κ0 d κ' (mI (mN m 6 ((m.1 6) - 1)) 6 (va_up (m.2.2.1 6) (f_M_limitAt m p q).toNatClampNeg ((m.2.2.1 6) (nI ((m.1 6) - 1)).toNatClampNeg))) := ⟨_, hM, mw_limitFrom _ hW⟩
    refine lv_aload_n hx hb dM_open_39 rfl (lv_at hl 1 rfl) ?_
    refine ka_get (v := .ref (d 12)) (ci := 4) (C := RM) (T := TM) (N := 26) hx hb hts inM hown hK hM.1 (q := 0) hW.1.1 rfl 19 (by decide) (hts _ tw_403) (fun _ h9 => h9) rfl dM_open_40 ?_
    refine lv_iload_n hx hb dM_open_43 rfl (lv_at hl 0 rfl) ?_
    refine lv_aload_n hx hb dM_open_44 rfl (lv_at hl 1 rfl) ?_
    refine ka_get (v := .ref (d 12)) (ci := 4) (C := RM) (T := TM) (N := 26) hx hb hts inM hown hK hM.1 (q := 0) hW.1.1 rfl 19 (by decide) (hts _ tw_403) (fun _ h9 => h9) rfl dM_open_45 ?_
    refine lv_aload_n hx hb dM_open_48 rfl (lv_at hl 1 rfl) ?_
    refine ka_get (v := .int (nI ((m.1 6) - 1))) (ci := 4) (C := RM) (T := TM) (N := 26) hx hb hts inM hown hK hM.1 (q := 0) hW.1.1 rfl 17 (by decide) (hts _ tw_401) (fun _ h9 => h9) rfl dM_open_49 ?_
    refine ka_iald (f := m.2.2.1 7) hx hb hK hM.1 0 (q := 12) hW.1.2.2.2.2.2.2.2.2.2.2.2.2.1 rfl (vp_in_nI (by omega) (by omega)) dM_open_52 ?_
    refine ka_iast (f := m.2.2.1 7) hx hb hK hM 0 (q := 12) hW.1.2.2.2.2.2.2.2.2.2.2.2.2.1 rfl (i := f_M_limitAt m p q) (x := (m.2.2.1 7) (nI ((m.1 6) - 1)).toNatClampNeg) (limitAt_41 hB (Int32.not_lt.mpr (by assumption))) dM_open_53 (fun H locs hM => ?_)
    obtain ⟨κ, hM, hW⟩ : ∃ κ', kW D vCl d κ' (kA d κ0 s0.heap.size) s0.heap H locs ∧ MW cI cL κ0 d κ' (mI (mI (mN m 6 ((m.1 6) - 1)) 6 (va_up (m.2.2.1 6) (f_M_limitAt m p q).toNatClampNeg ((m.2.2.1 6) (nI ((m.1 6) - 1)).toNatClampNeg))) 7 (va_up (m.2.2.1 7) (f_M_limitAt m p q).toNatClampNeg ((m.2.2.1 7) (nI ((m.1 6) - 1)).toNatClampNeg))) := ⟨_, hM, mw_limitTo _ hW⟩
    refine lv_aload_n hx hb dM_open_54 rfl (lv_at hl 1 rfl) ?_
    refine ka_get (v := .ref (d 13)) (ci := 4) (C := RM) (T := TM) (N := 26) hx hb hts inM hown hK hM.1 (q := 0) hW.1.1 rfl 20 (by decide) (hts _ tw_404) (fun _ h9 => h9) rfl dM_open_55 ?_
    refine lv_iload_n hx hb dM_open_58 rfl (lv_at hl 0 rfl) ?_
    refine lv_aload_n hx hb dM_open_59 rfl (lv_at hl 1 rfl) ?_
    refine ka_get (v := .ref (d 13)) (ci := 4) (C := RM) (T := TM) (N := 26) hx hb hts inM hown hK hM.1 (q := 0) hW.1.1 rfl 20 (by decide) (hts _ tw_404) (fun _ h9 => h9) rfl dM_open_60 ?_
    refine lv_aload_n hx hb dM_open_63 rfl (lv_at hl 1 rfl) ?_
    refine ka_get (v := .int (nI ((m.1 6) - 1))) (ci := 4) (C := RM) (T := TM) (N := 26) hx hb hts inM hown hK hM.1 (q := 0) hW.1.1 rfl 17 (by decide) (hts _ tw_401) (fun _ h9 => h9) rfl dM_open_64 ?_
    refine ka_lald (f := m.2.2.2 4) hx hb hK hM.1 1 (q := 13) hW.1.2.2.2.2.2.2.2.2.2.2.2.2.2.1 rfl (vp_in_nI (by omega) (by omega)) dM_open_67 ?_
    refine ka_last (f := m.2.2.2 4) hx hb hK hM 1 (q := 13) hW.1.2.2.2.2.2.2.2.2.2.2.2.2.2.1 rfl (i := f_M_limitAt m p q) (x := (m.2.2.2 4) (nI ((m.1 6) - 1)).toNatClampNeg) (limitAt_41 hB (Int32.not_lt.mpr (by assumption))) dM_open_68 (fun H locs hM => ?_)
    obtain ⟨κ, hM, hW⟩ : ∃ κ', kW D vCl d κ' (kA d κ0 s0.heap.size) s0.heap H locs ∧ MW cI cL κ0 d κ' (mL (mI (mI (mN m 6 ((m.1 6) - 1)) 6 (va_up (m.2.2.1 6) (f_M_limitAt m p q).toNatClampNeg ((m.2.2.1 6) (nI ((m.1 6) - 1)).toNatClampNeg))) 7 (va_up (m.2.2.1 7) (f_M_limitAt m p q).toNatClampNeg ((m.2.2.1 7) (nI ((m.1 6) - 1)).toNatClampNeg))) 4 (va_up (m.2.2.2 4) (f_M_limitAt m p q).toNatClampNeg ((m.2.2.2 4) (nI ((m.1 6) - 1)).toNatClampNeg))) := ⟨_, hM, mw_limitOf _ hW⟩
    refine lv_iconst (v := 0) hx hb dM_open_69 (by decide) ?_
    have hg : g_M_open m p q = (0, mL (mI (mI (mN m 6 ((m.1 6) - 1)) 6 (va_up (m.2.2.1 6) (f_M_limitAt m p q).toNatClampNeg ((m.2.2.1 6) (nI ((m.1 6) - 1)).toNatClampNeg))) 7 (va_up (m.2.2.1 7) (f_M_limitAt m p q).toNatClampNeg ((m.2.2.1 7) (nI ((m.1 6) - 1)).toNatClampNeg))) 4 (va_up (m.2.2.2 4) (f_M_limitAt m p q).toNatClampNeg ((m.2.2.2 4) (nI ((m.1 6) - 1)).toNatClampNeg))) := by rw [g_M_open, if_pos c_8]
    exact W.iret (v := 0) hx hb hr (fun t ht h9 => kNi.of hM ht (by rw [hg]; exact ⟨rfl, hW⟩)) hM.2.2.2.2 dM_open_70
  · refine lv_bipush (v := 8) hx hb dM_open_11 (by decide) ?_
    have hg : g_M_open m p q = (8, m) := by rw [g_M_open, if_neg c_8]
    exact W.iret (v := 8) hx hb hr (fun t ht h9 => kNi.of hM ht (by rw [hg]; exact ⟨rfl, hW⟩)) hM.2.2.2.2 dM_open_13

theorem dM_leg_0 : decode prog_6_method_30_code 0 = .ok (.aload_n 0, 1) := by decide +kernel
theorem dM_leg_1 : decode prog_6_method_30_code 1 = .ok (.iload_n 1, 1) := by decide +kernel
theorem dM_leg_2 : decode prog_6_method_30_code 2 = .ok (.invokevirtual 138, 3) := by decide +kernel
theorem dM_leg_5 : decode prog_6_method_30_code 5 = .ok (.ifCond .eq 32, 3) := by decide +kernel
theorem dM_leg_8 : decode prog_6_method_30_code 8 = .ok (.aload_n 0, 1) := by decide +kernel
theorem dM_leg_9 : decode prog_6_method_30_code 9 = .ok (.iload_n 2, 1) := by decide +kernel
theorem dM_leg_10 : decode prog_6_method_30_code 10 = .ok (.invokevirtual 138, 3) := by decide +kernel
theorem dM_leg_13 : decode prog_6_method_30_code 13 = .ok (.ifCond .eq 24, 3) := by decide +kernel
theorem dM_leg_16 : decode prog_6_method_30_code 16 = .ok (.iload_n 1, 1) := by decide +kernel
theorem dM_leg_17 : decode prog_6_method_30_code 17 = .ok (.iload_n 2, 1) := by decide +kernel
theorem dM_leg_18 : decode prog_6_method_30_code 18 = .ok (.if_icmp .eq 19, 3) := by decide +kernel
theorem dM_leg_21 : decode prog_6_method_30_code 21 = .ok (.aload_n 0, 1) := by decide +kernel
theorem dM_leg_22 : decode prog_6_method_30_code 22 = .ok (.iload_n 3, 1) := by decide +kernel
theorem dM_leg_23 : decode prog_6_method_30_code 23 = .ok (.invokevirtual 128, 3) := by decide +kernel
theorem dM_leg_26 : decode prog_6_method_30_code 26 = .ok (.ifCond .eq 11, 3) := by decide +kernel
theorem dM_leg_29 : decode prog_6_method_30_code 29 = .ok (.lload 4, 2) := by decide +kernel
theorem dM_leg_31 : decode prog_6_method_30_code 31 = .ok (.invokestatic 141, 3) := by decide +kernel
theorem dM_leg_34 : decode prog_6_method_30_code 34 = .ok (.ifCond .ne 6, 3) := by decide +kernel
theorem dM_leg_37 : decode prog_6_method_30_code 37 = .ok (.bipush 8, 2) := by decide +kernel
theorem dM_leg_39 : decode prog_6_method_30_code 39 = .ok (.ireturn, 1) := by decide +kernel
theorem dM_leg_40 : decode prog_6_method_30_code 40 = .ok (.aload_n 0, 1) := by decide +kernel
theorem dM_leg_41 : decode prog_6_method_30_code 41 = .ok (.getfield 160, 3) := by decide +kernel
theorem dM_leg_44 : decode prog_6_method_30_code 44 = .ok (.iconst 4, 1) := by decide +kernel
theorem dM_leg_45 : decode prog_6_method_30_code 45 = .ok (.if_icmp .ne 6, 3) := by decide +kernel
theorem dM_leg_48 : decode prog_6_method_30_code 48 = .ok (.bipush 12, 2) := by decide +kernel
theorem dM_leg_50 : decode prog_6_method_30_code 50 = .ok (.ireturn, 1) := by decide +kernel
theorem dM_leg_51 : decode prog_6_method_30_code 51 = .ok (.aload_n 0, 1) := by decide +kernel
theorem dM_leg_52 : decode prog_6_method_30_code 52 = .ok (.getfield 54, 3) := by decide +kernel
theorem dM_leg_55 : decode prog_6_method_30_code 55 = .ok (.aload_n 0, 1) := by decide +kernel
theorem dM_leg_56 : decode prog_6_method_30_code 56 = .ok (.getfield 160, 3) := by decide +kernel
theorem dM_leg_59 : decode prog_6_method_30_code 59 = .ok (.iload_n 1, 1) := by decide +kernel
theorem dM_leg_60 : decode prog_6_method_30_code 60 = .ok (.iastore, 1) := by decide +kernel
theorem dM_leg_61 : decode prog_6_method_30_code 61 = .ok (.aload_n 0, 1) := by decide +kernel
theorem dM_leg_62 : decode prog_6_method_30_code 62 = .ok (.getfield 57, 3) := by decide +kernel
theorem dM_leg_65 : decode prog_6_method_30_code 65 = .ok (.aload_n 0, 1) := by decide +kernel
theorem dM_leg_66 : decode prog_6_method_30_code 66 = .ok (.getfield 160, 3) := by decide +kernel
theorem dM_leg_69 : decode prog_6_method_30_code 69 = .ok (.iload_n 2, 1) := by decide +kernel
theorem dM_leg_70 : decode prog_6_method_30_code 70 = .ok (.iastore, 1) := by decide +kernel
theorem dM_leg_71 : decode prog_6_method_30_code 71 = .ok (.aload_n 0, 1) := by decide +kernel
theorem dM_leg_72 : decode prog_6_method_30_code 72 = .ok (.getfield 60, 3) := by decide +kernel
theorem dM_leg_75 : decode prog_6_method_30_code 75 = .ok (.aload_n 0, 1) := by decide +kernel
theorem dM_leg_76 : decode prog_6_method_30_code 76 = .ok (.getfield 160, 3) := by decide +kernel
theorem dM_leg_79 : decode prog_6_method_30_code 79 = .ok (.iload_n 3, 1) := by decide +kernel
theorem dM_leg_80 : decode prog_6_method_30_code 80 = .ok (.iastore, 1) := by decide +kernel
theorem dM_leg_81 : decode prog_6_method_30_code 81 = .ok (.aload_n 0, 1) := by decide +kernel
theorem dM_leg_82 : decode prog_6_method_30_code 82 = .ok (.getfield 63, 3) := by decide +kernel
theorem dM_leg_85 : decode prog_6_method_30_code 85 = .ok (.aload_n 0, 1) := by decide +kernel
theorem dM_leg_86 : decode prog_6_method_30_code 86 = .ok (.getfield 160, 3) := by decide +kernel
theorem dM_leg_89 : decode prog_6_method_30_code 89 = .ok (.lload 4, 2) := by decide +kernel
theorem dM_leg_91 : decode prog_6_method_30_code 91 = .ok (.lastore, 1) := by decide +kernel
theorem dM_leg_92 : decode prog_6_method_30_code 92 = .ok (.aload_n 0, 1) := by decide +kernel
theorem dM_leg_93 : decode prog_6_method_30_code 93 = .ok (.dup, 1) := by decide +kernel
theorem dM_leg_94 : decode prog_6_method_30_code 94 = .ok (.getfield 160, 3) := by decide +kernel
theorem dM_leg_97 : decode prog_6_method_30_code 97 = .ok (.iconst 1, 1) := by decide +kernel
theorem dM_leg_98 : decode prog_6_method_30_code 98 = .ok (.iadd, 1) := by decide +kernel
theorem dM_leg_99 : decode prog_6_method_30_code 99 = .ok (.putfield 160, 3) := by decide +kernel
theorem dM_leg_102 : decode prog_6_method_30_code 102 = .ok (.iconst 0, 1) := by decide +kernel
theorem dM_leg_103 : decode prog_6_method_30_code 103 = .ok (.ireturn, 1) := by decide +kernel
def g_M_leg (m : MS) (fr : Int32) (to : Int32) (a : Int32) (v : Int64) : Int32 × MS := if (f_M_isParticipant m fr) = 0 then (8, m) else (if (f_M_isParticipant m to) = 0 then (8, m) else (if fr = to then (8, m) else (if (f_M_isAsset m a) = 0 then (8, m) else (if (f_M_isAmount v) = 0 then (8, m) else (if (nI (m.1 7)) = 4 then (12, m) else (0, mN (mL (mI (mI (mI m 8 (va_up (m.2.2.1 8) (nI (m.1 7)).toNatClampNeg fr)) 9 (va_up (m.2.2.1 9) (nI (m.1 7)).toNatClampNeg to)) 10 (va_up (m.2.2.1 10) (nI (m.1 7)).toNatClampNeg a)) 5 (va_up (m.2.2.2 5) (nI (m.1 7)).toNatClampNeg v)) 7 ((m.1 7) + 1)))))))
set_option maxHeartbeats 4000000 in
set_option maxRecDepth 100000 in
theorem c_M_leg (l : Launch) (D : va_G) (cI cL cQ : ClassId) (d : Nat → Nat) (κ0 : Nat → Option va_E) (m : MS) (hm : IsM cI cL d κ0 m) (hB : MB m) (sz : Nat) (fr : Int32) (to : Int32) (a : Int32) (v : Int64)  : Met l yM_leg wM_leg { frames := 1, cells := 0, slots := 0, locals := 21 } (va_Pc [.ref (d 0), .int (fr), .int (to), .int (a), .long (v)] (kC D vCl (kT cI cL cQ) d κ0 sz)) (kNi D vCl d (kA d κ0 sz) (fun r κ' => r = (g_M_leg m fr to a v).1 ∧ MW cI cL κ0 d κ' (g_M_leg m fr to a v).2)) 0 0 (kA d κ0 sz) := by
  refine kMet (by decide) (Nat.le_of_ble_eq_true rfl) ?_
  intro p0 e0 s0 m0 below0 meth0 c0 hx hb hr hml hown hlocks hin hts hsz hP hK ls hl
  subst hsz
  have hl : lv_has ls 6 [(0, .ref (d 0)), (1, .int (fr)), (2, .int (to)), (3, .int (a)), (4, .long (v))] := hl
  have hB9 := hB
  obtain ⟨hb0, hb1, hb2, hb3, hb4, hb5, hb6, hb7, hb8, hb9, hb10⟩ := hB9
  obtain ⟨κ, hM, hW⟩ : ∃ κ', kW D vCl d κ' (kA d κ0 s0.heap.size) s0.heap s0.heap [] ∧ MW cI cL κ0 d κ' m := ⟨κ0, kW.start hP, ⟨hm, fun _ _ => rfl⟩⟩
  refine lv_aload_n hx hb dM_leg_0 rfl (lv_at hl 0 rfl) ?_
  refine lv_iload_n hx hb dM_leg_1 rfl (lv_at hl 1 rfl) ?_
  refine vp_callSi (W.runV (C := RM) (As := [.int (fr)]) (rest := []) ⟨hx, hb, hml, hown, hts⟩ (c_M_isParticipant l D cI cL cQ d κ m hW.1 hB _ fr) (cwV 1 hts (k_gV tw_529 tw_531 tw_31 tw_41 tw_532) rfl rfl rfl (by decide +kernel) ⟨Nat.le_of_ble_eq_true rfl, Nat.le_of_ble_eq_true rfl⟩) (kPreV hM.1 hK (q := 0) hW.1.1 rfl) rfl rfl hl.1 rfl (lv_room (Nat.le_of_ble_eq_true rfl)) dM_leg_2 ⟨Nat.le_of_ble_eq_true rfl, Nat.le_of_ble_eq_true rfl⟩) (fun r_2 e_2 => ?_)
  subst e_2
  refine lv_if_eq (tgt := 37) hx hb dM_leg_5 (by decide) (fun c_5 => ?_) (fun c_5 => ?_)
  · refine lv_bipush (v := 8) hx hb dM_leg_37 (by decide) ?_
    have hg : g_M_leg m fr to a v = (8, m) := by rw [g_M_leg, if_pos c_5]
    exact W.iret (v := 8) hx hb hr (fun t ht h9 => kNi.of hM ht (by rw [hg]; exact ⟨rfl, hW⟩)) hM.2.2.2.2 dM_leg_39
  · refine lv_aload_n hx hb dM_leg_8 rfl (lv_at hl 0 rfl) ?_
    refine lv_iload_n hx hb dM_leg_9 rfl (lv_at hl 2 rfl) ?_
    refine vp_callSi (W.runV (C := RM) (As := [.int (to)]) (rest := []) ⟨hx, hb, hml, hown, hts⟩ (c_M_isParticipant l D cI cL cQ d κ m hW.1 hB _ to) (cwV 1 hts (k_gV tw_529 tw_531 tw_31 tw_41 tw_532) rfl rfl rfl (by decide +kernel) ⟨Nat.le_of_ble_eq_true rfl, Nat.le_of_ble_eq_true rfl⟩) (kPreV hM.1 hK (q := 0) hW.1.1 rfl) rfl rfl hl.1 rfl (lv_room (Nat.le_of_ble_eq_true rfl)) dM_leg_10 ⟨Nat.le_of_ble_eq_true rfl, Nat.le_of_ble_eq_true rfl⟩) (fun r_10 e_10 => ?_)
    subst e_10
    refine lv_if_eq (tgt := 37) hx hb dM_leg_13 (by decide) (fun c_13 => ?_) (fun c_13 => ?_)
    · refine lv_bipush (v := 8) hx hb dM_leg_37 (by decide) ?_
      have hg : g_M_leg m fr to a v = (8, m) := by rw [g_M_leg, if_neg c_5, if_pos c_13]
      exact W.iret (v := 8) hx hb hr (fun t ht h9 => kNi.of hM ht (by rw [hg]; exact ⟨rfl, hW⟩)) hM.2.2.2.2 dM_leg_39
    · refine lv_iload_n hx hb dM_leg_16 rfl (lv_at hl 1 rfl) ?_
      refine lv_iload_n hx hb dM_leg_17 rfl (lv_at hl 2 rfl) ?_
      refine lv_icmp_eq (tgt := 37) hx hb dM_leg_18 (by decide) (fun c_18 => ?_) (fun c_18 => ?_)
      · refine lv_bipush (v := 8) hx hb dM_leg_37 (by decide) ?_
        have hg : g_M_leg m fr to a v = (8, m) := by rw [g_M_leg, if_neg c_5, if_neg c_13, if_pos c_18]
        exact W.iret (v := 8) hx hb hr (fun t ht h9 => kNi.of hM ht (by rw [hg]; exact ⟨rfl, hW⟩)) hM.2.2.2.2 dM_leg_39
      · refine lv_aload_n hx hb dM_leg_21 rfl (lv_at hl 0 rfl) ?_
        refine lv_iload_n hx hb dM_leg_22 rfl (lv_at hl 3 rfl) ?_
        refine vp_callSi (W.runV (C := RM) (As := [.int (a)]) (rest := []) ⟨hx, hb, hml, hown, hts⟩ (c_M_isAsset l D cI cL cQ d κ m hW.1 hB _ a) (cwV 1 hts (k_gV tw_495 tw_497 tw_25 tw_41 tw_498) rfl rfl rfl (by decide +kernel) ⟨Nat.le_of_ble_eq_true rfl, Nat.le_of_ble_eq_true rfl⟩) (kPreV hM.1 hK (q := 0) hW.1.1 rfl) rfl rfl hl.1 rfl (lv_room (Nat.le_of_ble_eq_true rfl)) dM_leg_23 ⟨Nat.le_of_ble_eq_true rfl, Nat.le_of_ble_eq_true rfl⟩) (fun r_23 e_23 => ?_)
        subst e_23
        refine lv_if_eq (tgt := 37) hx hb dM_leg_26 (by decide) (fun c_26 => ?_) (fun c_26 => ?_)
        · refine lv_bipush (v := 8) hx hb dM_leg_37 (by decide) ?_
          have hg : g_M_leg m fr to a v = (8, m) := by rw [g_M_leg, if_neg c_5, if_neg c_13, if_neg c_18, if_pos c_26]
          exact W.iret (v := 8) hx hb hr (fun t ht h9 => kNi.of hM ht (by rw [hg]; exact ⟨rfl, hW⟩)) hM.2.2.2.2 dM_leg_39
        · refine lv_lload hx hb dM_leg_29 (lv_at hl 4 rfl) ?_
          refine vp_callSi (W.runS (As := [.long (v)]) (rest := []) ⟨hx, hb, hml, hown, hts⟩ (c_M_isAmount l D cI cL cQ d κ _ v) (cwS 1 hts (k_gS tw_533 tw_534 tw_41 tw_535) rfl rfl rfl (by decide +kernel) ⟨Nat.le_of_ble_eq_true rfl, Nat.le_of_ble_eq_true rfl⟩) (kPreS hM.1 hK) rfl rfl hl.1 rfl (lv_room (Nat.le_of_ble_eq_true rfl)) dM_leg_31 ⟨Nat.le_of_ble_eq_true rfl, Nat.le_of_ble_eq_true rfl⟩) (fun r_31 e_31 => ?_)
          subst e_31
          refine lv_if_ne (tgt := 40) hx hb dM_leg_34 (by decide) (fun c_34 => ?_) (fun c_34 => ?_)
          · refine lv_aload_n hx hb dM_leg_40 rfl (lv_at hl 0 rfl) ?_
            refine ka_get (v := .int (nI (m.1 7))) (ci := 4) (C := RM) (T := TM) (N := 26) hx hb hts inM hown hK hM.1 (q := 0) hW.1.1 rfl 21 (by decide) (hts _ tw_405) (fun _ h9 => h9) rfl dM_leg_41 ?_
            refine lv_iconst (v := 4) hx hb dM_leg_44 (by decide) ?_
            refine lv_icmp_ne (tgt := 51) hx hb dM_leg_45 (by decide) (fun c_45 => ?_) (fun c_45 => ?_)
            · have hlt : m.1 7 < 4 := by
                rcases Nat.lt_or_ge (m.1 7) 4 with q | q
                · exact q
                · exact absurd (show nI (m.1 7) = 4 by rw [show m.1 7 = 4 by omega]; rfl) c_45
              refine lv_aload_n hx hb dM_leg_51 rfl (lv_at hl 0 rfl) ?_
              refine ka_get (v := .ref (d 14)) (ci := 4) (C := RM) (T := TM) (N := 26) hx hb hts inM hown hK hM.1 (q := 0) hW.1.1 rfl 22 (by decide) (hts _ tw_406) (fun _ h9 => h9) rfl dM_leg_52 ?_
              refine lv_aload_n hx hb dM_leg_55 rfl (lv_at hl 0 rfl) ?_
              refine ka_get (v := .int (nI (m.1 7))) (ci := 4) (C := RM) (T := TM) (N := 26) hx hb hts inM hown hK hM.1 (q := 0) hW.1.1 rfl 21 (by decide) (hts _ tw_405) (fun _ h9 => h9) rfl dM_leg_56 ?_
              refine lv_iload_n hx hb dM_leg_59 rfl (lv_at hl 1 rfl) ?_
              refine ka_iast (f := m.2.2.1 8) hx hb hK hM 0 (q := 14) hW.1.2.2.2.2.2.2.2.2.2.2.2.2.2.2.1 rfl (i := nI (m.1 7)) (x := fr) (by first | assumption | exact vp_in_nI (by omega) (by omega)) dM_leg_60 (fun H locs hM => ?_)
              obtain ⟨κ, hM, hW⟩ : ∃ κ', kW D vCl d κ' (kA d κ0 s0.heap.size) s0.heap H locs ∧ MW cI cL κ0 d κ' (mI m 8 (va_up (m.2.2.1 8) (nI (m.1 7)).toNatClampNeg fr)) := ⟨_, hM, mw_legFrom _ hW⟩
              refine lv_aload_n hx hb dM_leg_61 rfl (lv_at hl 0 rfl) ?_
              refine ka_get (v := .ref (d 15)) (ci := 4) (C := RM) (T := TM) (N := 26) hx hb hts inM hown hK hM.1 (q := 0) hW.1.1 rfl 23 (by decide) (hts _ tw_407) (fun _ h9 => h9) rfl dM_leg_62 ?_
              refine lv_aload_n hx hb dM_leg_65 rfl (lv_at hl 0 rfl) ?_
              refine ka_get (v := .int (nI (m.1 7))) (ci := 4) (C := RM) (T := TM) (N := 26) hx hb hts inM hown hK hM.1 (q := 0) hW.1.1 rfl 21 (by decide) (hts _ tw_405) (fun _ h9 => h9) rfl dM_leg_66 ?_
              refine lv_iload_n hx hb dM_leg_69 rfl (lv_at hl 2 rfl) ?_
              refine ka_iast (f := m.2.2.1 9) hx hb hK hM 0 (q := 15) hW.1.2.2.2.2.2.2.2.2.2.2.2.2.2.2.2.1 rfl (i := nI (m.1 7)) (x := to) (by first | assumption | exact vp_in_nI (by omega) (by omega)) dM_leg_70 (fun H locs hM => ?_)
              obtain ⟨κ, hM, hW⟩ : ∃ κ', kW D vCl d κ' (kA d κ0 s0.heap.size) s0.heap H locs ∧ MW cI cL κ0 d κ' (mI (mI m 8 (va_up (m.2.2.1 8) (nI (m.1 7)).toNatClampNeg fr)) 9 (va_up (m.2.2.1 9) (nI (m.1 7)).toNatClampNeg to)) := ⟨_, hM, mw_legTo _ hW⟩
              refine lv_aload_n hx hb dM_leg_71 rfl (lv_at hl 0 rfl) ?_
              refine ka_get (v := .ref (d 16)) (ci := 4) (C := RM) (T := TM) (N := 26) hx hb hts inM hown hK hM.1 (q := 0) hW.1.1 rfl 24 (by decide) (hts _ tw_408) (fun _ h9 => h9) rfl dM_leg_72 ?_
              refine lv_aload_n hx hb dM_leg_75 rfl (lv_at hl 0 rfl) ?_
              refine ka_get (v := .int (nI (m.1 7))) (ci := 4) (C := RM) (T := TM) (N := 26) hx hb hts inM hown hK hM.1 (q := 0) hW.1.1 rfl 21 (by decide) (hts _ tw_405) (fun _ h9 => h9) rfl dM_leg_76 ?_
              refine lv_iload_n hx hb dM_leg_79 rfl (lv_at hl 3 rfl) ?_
              refine ka_iast (f := m.2.2.1 10) hx hb hK hM 0 (q := 16) hW.1.2.2.2.2.2.2.2.2.2.2.2.2.2.2.2.2.1 rfl (i := nI (m.1 7)) (x := a) (by first | assumption | exact vp_in_nI (by omega) (by omega)) dM_leg_80 (fun H locs hM => ?_)
              obtain ⟨κ, hM, hW⟩ : ∃ κ', kW D vCl d κ' (kA d κ0 s0.heap.size) s0.heap H locs ∧ MW cI cL κ0 d κ' (mI (mI (mI m 8 (va_up (m.2.2.1 8) (nI (m.1 7)).toNatClampNeg fr)) 9 (va_up (m.2.2.1 9) (nI (m.1 7)).toNatClampNeg to)) 10 (va_up (m.2.2.1 10) (nI (m.1 7)).toNatClampNeg a)) := ⟨_, hM, mw_legAsset _ hW⟩
              refine lv_aload_n hx hb dM_leg_81 rfl (lv_at hl 0 rfl) ?_
              refine ka_get (v := .ref (d 17)) (ci := 4) (C := RM) (T := TM) (N := 26) hx hb hts inM hown hK hM.1 (q := 0) hW.1.1 rfl 25 (by decide) (hts _ tw_409) (fun _ h9 => h9) rfl dM_leg_82 ?_
              refine lv_aload_n hx hb dM_leg_85 rfl (lv_at hl 0 rfl) ?_
              refine ka_get (v := .int (nI (m.1 7))) (ci := 4) (C := RM) (T := TM) (N := 26) hx hb hts inM hown hK hM.1 (q := 0) hW.1.1 rfl 21 (by decide) (hts _ tw_405) (fun _ h9 => h9) rfl dM_leg_86 ?_
              refine lv_lload hx hb dM_leg_89 (lv_at hl 4 rfl) ?_
              refine ka_last (f := m.2.2.2 5) hx hb hK hM 1 (q := 17) hW.1.2.2.2.2.2.2.2.2.2.2.2.2.2.2.2.2.2 rfl (i := nI (m.1 7)) (x := v) (by first | assumption | exact vp_in_nI (by omega) (by omega)) dM_leg_91 (fun H locs hM => ?_)
              obtain ⟨κ, hM, hW⟩ : ∃ κ', kW D vCl d κ' (kA d κ0 s0.heap.size) s0.heap H locs ∧ MW cI cL κ0 d κ' (mL (mI (mI (mI m 8 (va_up (m.2.2.1 8) (nI (m.1 7)).toNatClampNeg fr)) 9 (va_up (m.2.2.1 9) (nI (m.1 7)).toNatClampNeg to)) 10 (va_up (m.2.2.1 10) (nI (m.1 7)).toNatClampNeg a)) 5 (va_up (m.2.2.2 5) (nI (m.1 7)).toNatClampNeg v)) := ⟨_, hM, mw_legBy _ hW⟩
              refine lv_aload_n hx hb dM_leg_92 rfl (lv_at hl 0 rfl) ?_
              refine lv_dup hx hb dM_leg_93 rfl ?_
              refine ka_get (v := .int (nI (m.1 7))) (ci := 4) (C := RM) (T := TM) (N := 26) hx hb hts inM hown hK hM.1 (q := 0) hW.1.1 rfl 21 (by decide) (hts _ tw_405) (fun _ h9 => h9) rfl dM_leg_94 ?_
              refine lv_iconst (v := 1) hx hb dM_leg_97 (by decide) ?_
              refine lv_iadd hx hb dM_leg_98 ?_
              refine k_topi (show nI (m.1 7) + 1 = nI ((m.1 7) + 1) from nI_add _ _) ?_
              refine ka_put (D := D) (ci := 4) (v := .int (nI ((m.1 7) + 1))) (ty := .int) (C := RM) (T := TM) (N := 26) hx hb hts inM tM tM_ok nM hown hK hM (q := 0) hW.1.1 rfl 21 (by decide) (hts _ tw_405) (fun _ h9 => h9) rfl (by decide +kernel) rfl rfl (Nat.le_of_ble_eq_true rfl) dM_leg_99 (fun H locs hM => ?_)
              obtain ⟨κ, hM, hW⟩ : ∃ κ', kW D vCl d κ' (kA d κ0 s0.heap.size) s0.heap H locs ∧ MW cI cL κ0 d κ' (mN (mL (mI (mI (mI m 8 (va_up (m.2.2.1 8) (nI (m.1 7)).toNatClampNeg fr)) 9 (va_up (m.2.2.1 9) (nI (m.1 7)).toNatClampNeg to)) 10 (va_up (m.2.2.1 10) (nI (m.1 7)).toNatClampNeg a)) 5 (va_up (m.2.2.2 5) (nI (m.1 7)).toNatClampNeg v)) 7 ((m.1 7) + 1)) := ⟨_, hM, mw_legs ((m.1 7) + 1) hW⟩
              refine lv_iconst (v := 0) hx hb dM_leg_102 (by decide) ?_
              have hg : g_M_leg m fr to a v = (0, mN (mL (mI (mI (mI m 8 (va_up (m.2.2.1 8) (nI (m.1 7)).toNatClampNeg fr)) 9 (va_up (m.2.2.1 9) (nI (m.1 7)).toNatClampNeg to)) 10 (va_up (m.2.2.1 10) (nI (m.1 7)).toNatClampNeg a)) 5 (va_up (m.2.2.2 5) (nI (m.1 7)).toNatClampNeg v)) 7 ((m.1 7) + 1)) := by rw [g_M_leg, if_neg c_5, if_neg c_13, if_neg c_18, if_neg c_26, if_neg c_34, if_neg c_45]
              exact W.iret (v := 0) hx hb hr (fun t ht h9 => kNi.of hM ht (by rw [hg]; exact ⟨rfl, hW⟩)) hM.2.2.2.2 dM_leg_103
            · refine lv_bipush (v := 12) hx hb dM_leg_48 (by decide) ?_
              have hg : g_M_leg m fr to a v = (12, m) := by rw [g_M_leg, if_neg c_5, if_neg c_13, if_neg c_18, if_neg c_26, if_neg c_34, if_pos c_45]
              exact W.iret (v := 12) hx hb hr (fun t ht h9 => kNi.of hM ht (by rw [hg]; exact ⟨rfl, hW⟩)) hM.2.2.2.2 dM_leg_50
          · refine lv_bipush (v := 8) hx hb dM_leg_37 (by decide) ?_
            have hg : g_M_leg m fr to a v = (8, m) := by rw [g_M_leg, if_neg c_5, if_neg c_13, if_neg c_18, if_neg c_26, if_pos c_34]
            exact W.iret (v := 8) hx hb hr (fun t ht h9 => kNi.of hM ht (by rw [hg]; exact ⟨rfl, hW⟩)) hM.2.2.2.2 dM_leg_39
end
