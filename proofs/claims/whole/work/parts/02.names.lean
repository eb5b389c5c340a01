/-- the words that every method's contract rests on: those of the tables that are kept -/
def lw_g : List Cond := lw_tbl.filter goodWord
theorem k_w {w : Cond} (h : w ∈ lw_tbl) (g : goodWord w = true) : w ∈ lw_g := List.mem_filter.mpr ⟨h, g⟩
theorem k_in {w : Cond} (h : w ∈ lw_g) : w ∈ lw_g ∧ ((w.onTables && w.keeps) = true ∨ ∃ ty, w = .arrayClass ty) := ⟨h, good_of_word (List.mem_filter.mp h).2⟩
abbrev RA : String := "PositionDesk$Asset"
def TA : u_T := fun k => match k with
  | 0 => ("PositionDesk$Asset", "isSecurity", "Z", true)
  | 1 => ("PositionDesk$Asset", "held", "[J", true)
  | 2 => ("PositionDesk$Asset", "pledged", "[J", true)
  | _ => ("PositionDesk$Asset", "rate", "J", false)
def tA : Nat → FieldType := fun k => match k with
  | 0 => .boolean
  | 1 => .array .long
  | 2 => .array .long
  | _ => .long
theorem nA : ∀ a, a < 4 → ∀ b, b < 4 → a ≠ b → (TA a).2.1 ≠ (TA b).2.1 := by decide +kernel
theorem tA_ok : ∀ k, k < 4 → parseFieldDescriptor (TA k).2.2.1 = some (tA k) := by decide +kernel
theorem inA_t : ∀ w ∈ u_ws RA TA 4, w ∈ lw_tbl := by decide +kernel
theorem inA_g : ∀ w ∈ u_ws RA TA 4, goodWord w = true := by decide +kernel
theorem inA : ∀ w ∈ u_ws RA TA 4, w ∈ lw_g := fun w h => k_w (inA_t w h) (inA_g w h)
abbrev RG : String := "PositionDesk$Legs"
def TG : u_T := fun k => match k with
  | 0 => ("PositionDesk$Legs", "from", "[I", true)
  | 1 => ("PositionDesk$Legs", "to", "[I", true)
  | 2 => ("PositionDesk$Legs", "asset", "[I", true)
  | 3 => ("PositionDesk$Legs", "amount", "[J", true)
  | _ => ("PositionDesk$Legs", "count", "I", false)
def tG : Nat → FieldType := fun k => match k with
  | 0 => .array .int
  | 1 => .array .int
  | 2 => .array .int
  | 3 => .array .long
  | _ => .int
theorem nG : ∀ a, a < 5 → ∀ b, b < 5 → a ≠ b → (TG a).2.1 ≠ (TG b).2.1 := by decide +kernel
theorem tG_ok : ∀ k, k < 5 → parseFieldDescriptor (TG k).2.2.1 = some (tG k) := by decide +kernel
theorem inG_t : ∀ w ∈ u_ws RG TG 5, w ∈ lw_tbl := by decide +kernel
theorem inG_g : ∀ w ∈ u_ws RG TG 5, goodWord w = true := by decide +kernel
theorem inG : ∀ w ∈ u_ws RG TG 5, w ∈ lw_g := fun w h => k_w (inG_t w h) (inG_g w h)
abbrev RP : String := "PositionDesk$PairAmounts"
def TP : u_T := fun k => match k with
  | 0 => ("PositionDesk$PairAmounts", "pairs", "[I", true)
  | 1 => ("PositionDesk$PairAmounts", "amounts", "[J", true)
  | _ => ("PositionDesk$PairAmounts", "count", "I", false)
def tP : Nat → FieldType := fun k => match k with
  | 0 => .array .int
  | 1 => .array .long
  | _ => .int
theorem nP : ∀ a, a < 3 → ∀ b, b < 3 → a ≠ b → (TP a).2.1 ≠ (TP b).2.1 := by decide +kernel
theorem tP_ok : ∀ k, k < 3 → parseFieldDescriptor (TP k).2.2.1 = some (tP k) := by decide +kernel
theorem inP_t : ∀ w ∈ u_ws RP TP 3, w ∈ lw_tbl := by decide +kernel
theorem inP_g : ∀ w ∈ u_ws RP TP 3, goodWord w = true := by decide +kernel
theorem inP : ∀ w ∈ u_ws RP TP 3, w ∈ lw_g := fun w h => k_w (inP_t w h) (inP_g w h)
abbrev RX : String := "PositionDesk"
def TX : u_T := fun k => match k with
  | 0 => ("PositionDesk", "participants", "I", true)
  | 1 => ("PositionDesk", "positions", "I", true)
  | 2 => ("PositionDesk", "assets", "[LPositionDesk$Asset;", true)
  | 3 => ("PositionDesk", "made", "I", false)
  | 4 => ("PositionDesk", "money", "I", false)
  | 5 => ("PositionDesk", "credits", "[J", true)
  | 6 => ("PositionDesk", "allCredits", "J", false)
  | 7 => ("PositionDesk", "limits", "LPositionDesk$PairAmounts;", true)
  | 8 => ("PositionDesk", "paid", "LPositionDesk$PairAmounts;", true)
  | _ => ("PositionDesk", "legs", "LPositionDesk$Legs;", true)
def tX : Nat → FieldType := fun k => match k with
  | 0 => .int
  | 1 => .int
  | 2 => .array (.object "PositionDesk$Asset")
  | 3 => .int
  | 4 => .int
  | 5 => .array .long
  | 6 => .long
  | 7 => .object "PositionDesk$PairAmounts"
  | 8 => .object "PositionDesk$PairAmounts"
  | _ => .object "PositionDesk$Legs"
theorem nX : ∀ a, a < 10 → ∀ b, b < 10 → a ≠ b → (TX a).2.1 ≠ (TX b).2.1 := by decide +kernel
theorem tX_ok : ∀ k, k < 10 → parseFieldDescriptor (TX k).2.2.1 = some (tX k) := by decide +kernel
theorem inX_t : ∀ w ∈ u_ws RX TX 10, w ∈ lw_tbl := by decide +kernel
theorem inX_g : ∀ w ∈ u_ws RX TX 10, goodWord w = true := by decide +kernel
theorem inX : ∀ w ∈ u_ws RX TX 10, w ∈ lw_g := fun w h => k_w (inX_t w h) (inX_g w h)
abbrev RM : String := "PositionDeskModel"
def TM : u_T := fun k => match k with
  | 0 => ("PositionDeskModel", "participants", "I", true)
  | 1 => ("PositionDeskModel", "width", "I", true)
  | 2 => ("PositionDeskModel", "assets", "I", false)
  | 3 => ("PositionDeskModel", "money", "I", false)
  | 4 => ("PositionDeskModel", "sort", "[I", true)
  | 5 => ("PositionDeskModel", "price", "[J", true)
  | 6 => ("PositionDeskModel", "haircut", "[I", true)
  | 7 => ("PositionDeskModel", "moves", "I", false)
  | 8 => ("PositionDeskModel", "moveAt", "[I", true)
  | 9 => ("PositionDeskModel", "moveBy", "[J", true)
  | 10 => ("PositionDeskModel", "payments", "I", false)
  | 11 => ("PositionDeskModel", "payer", "[I", true)
  | 12 => ("PositionDeskModel", "payee", "[I", true)
  | 13 => ("PositionDeskModel", "paid", "[J", true)
  | 14 => ("PositionDeskModel", "pledges", "I", false)
  | 15 => ("PositionDeskModel", "pledgeAt", "[I", true)
  | 16 => ("PositionDeskModel", "pledgeBy", "[J", true)
  | 17 => ("PositionDeskModel", "limits", "I", false)
  | 18 => ("PositionDeskModel", "limitFrom", "[I", true)
  | 19 => ("PositionDeskModel", "limitTo", "[I", true)
  | 20 => ("PositionDeskModel", "limitOf", "[J", true)
  | 21 => ("PositionDeskModel", "legs", "I", false)
  | 22 => ("PositionDeskModel", "legFrom", "[I", true)
  | 23 => ("PositionDeskModel", "legTo", "[I", true)
  | 24 => ("PositionDeskModel", "legAsset", "[I", true)
  | _ => ("PositionDeskModel", "legBy", "[J", true)
def tM : Nat → FieldType := fun k => match k with
  | 0 => .int
  | 1 => .int
  | 2 => .int
  | 3 => .int
  | 4 => .array .int
  | 5 => .array .long
  | 6 => .array .int
  | 7 => .int
  | 8 => .array .int
  | 9 => .array .long
  | 10 => .int
  | 11 => .array .int
  | 12 => .array .int
  | 13 => .array .long
  | 14 => .int
  | 15 => .array .int
  | 16 => .array .long
  | 17 => .int
  | 18 => .array .int
  | 19 => .array .int
  | 20 => .array .long
  | 21 => .int
  | 22 => .array .int
  | 23 => .array .int
  | 24 => .array .int
  | _ => .array .long
theorem nM : ∀ a, a < 26 → ∀ b, b < 26 → a ≠ b → (TM a).2.1 ≠ (TM b).2.1 := by decide +kernel
theorem tM_ok : ∀ k, k < 26 → parseFieldDescriptor (TM k).2.2.1 = some (tM k) := by decide +kernel
theorem inM_t : ∀ w ∈ u_ws RM TM 26, w ∈ lw_tbl := by decide +kernel
theorem inM_g : ∀ w ∈ u_ws RM TM 26, goodWord w = true := by decide +kernel
theorem inM : ∀ w ∈ u_ws RM TM 26, w ∈ lw_g := fun w h => k_w (inM_t w h) (inM_g w h)
abbrev RL : String := "PositionDeskLaw"
abbrev vCl : List vw_C := [(RA, TA, 4), (RG, TG, 5), (RP, TP, 3), (RX, TX, 10), (RM, TM, 26)]
theorem tw_37 : (Jvm.Cond.initialized "PositionDeskLaw") ∈ lw_g := k_w (List.mem_of_getElem? (i := 37) (by decide +kernel)) (by decide +kernel)
theorem tw_38 : (Jvm.Cond.initialized "PositionDesk") ∈ lw_g := k_w (List.mem_of_getElem? (i := 38) (by decide +kernel)) (by decide +kernel)
theorem tw_39 : (Jvm.Cond.initialized "PositionDesk$PairAmounts") ∈ lw_g := k_w (List.mem_of_getElem? (i := 39) (by decide +kernel)) (by decide +kernel)
theorem tw_40 : (Jvm.Cond.initialized "PositionDesk$Legs") ∈ lw_g := k_w (List.mem_of_getElem? (i := 40) (by decide +kernel)) (by decide +kernel)
theorem tw_41 : (Jvm.Cond.initialized "PositionDeskModel") ∈ lw_g := k_w (List.mem_of_getElem? (i := 41) (by decide +kernel)) (by decide +kernel)
theorem tw_42 : (Jvm.Cond.initialized "PositionDesk$Asset") ∈ lw_g := k_w (List.mem_of_getElem? (i := 42) (by decide +kernel)) (by decide +kernel)
theorem tw_43 : (Jvm.Cond.initialized "java/lang/Math") ∈ lw_g := k_w (List.mem_of_getElem? (i := 43) (by decide +kernel)) (by decide +kernel)
theorem tw_44 : (Jvm.Cond.classLink "PositionDeskLaw" (7 : Nat) "PositionDesk") ∈ lw_g := k_w (List.mem_of_getElem? (i := 44) (by decide +kernel)) (by decide +kernel)
theorem tw_45 : (Jvm.Cond.instantiable "PositionDesk" (10 : Nat)) ∈ lw_g := k_w (List.mem_of_getElem? (i := 45) (by decide +kernel)) (by decide +kernel)
theorem tw_46 : (Jvm.Cond.methodLink "PositionDeskLaw" (15 : Nat) ({ cls := "PositionDesk", name := "<init>", desc := "(II)V" } : Jvm.MethodName)) ∈ lw_g := k_w (List.mem_of_getElem? (i := 46) (by decide +kernel)) (by decide +kernel)
theorem tw_47 : (Jvm.Cond.instanceMethod ({ cls := "PositionDesk", name := "<init>", desc := "(II)V" } : Jvm.MethodName)) ∈ lw_g := k_w (List.mem_of_getElem? (i := 47) (by decide +kernel)) (by decide +kernel)
theorem tw_48 : (Jvm.Cond.code ({ cls := "PositionDesk", name := "<init>", desc := "(II)V" } : Jvm.MethodName) prog_1_method_1_code (5 : Nat) (Option.none : Option Jvm.ClassFile.FieldType)) ∈ lw_g := k_w (List.mem_of_getElem? (i := 48) (by decide +kernel)) (by decide +kernel)
theorem tw_49 : (Jvm.Cond.methodLink "PositionDesk" (1 : Nat) ({ cls := "java/lang/Object", name := "<init>", desc := "()V" } : Jvm.MethodName)) ∈ lw_g := k_w (List.mem_of_getElem? (i := 49) (by decide +kernel)) (by decide +kernel)
theorem tw_50 : (Jvm.Cond.instanceMethod ({ cls := "java/lang/Object", name := "<init>", desc := "()V" } : Jvm.MethodName)) ∈ lw_g := k_w (List.mem_of_getElem? (i := 50) (by decide +kernel)) (by decide +kernel)
theorem tw_51 : (Jvm.Cond.code ({ cls := "java/lang/Object", name := "<init>", desc := "()V" } : Jvm.MethodName) object_method_1_code (1 : Nat) (Option.none : Option Jvm.ClassFile.FieldType)) ∈ lw_g := k_w (List.mem_of_getElem? (i := 51) (by decide +kernel)) (by decide +kernel)
theorem tw_52 : (Jvm.Cond.classLink "PositionDesk" (13 : Nat) "PositionDesk$Asset") ∈ lw_g := k_w (List.mem_of_getElem? (i := 52) (by decide +kernel)) (by decide +kernel)
theorem tw_53 : (Jvm.Cond.arrayOver (Jvm.ClassFile.FieldType.object "PositionDesk$Asset")) ∈ lw_tbl := List.mem_of_getElem? (i := 53) (by decide +kernel)
theorem tw_54 : (Jvm.Cond.classLink "PositionDesk" (36 : Nat) "PositionDesk$PairAmounts") ∈ lw_g := k_w (List.mem_of_getElem? (i := 54) (by decide +kernel)) (by decide +kernel)
theorem tw_55 : (Jvm.Cond.instantiable "PositionDesk$PairAmounts" (3 : Nat)) ∈ lw_g := k_w (List.mem_of_getElem? (i := 55) (by decide +kernel)) (by decide +kernel)
theorem tw_56 : (Jvm.Cond.methodLink "PositionDesk" (38 : Nat) ({ cls := "PositionDesk$PairAmounts", name := "<init>", desc := "(I)V" } : Jvm.MethodName)) ∈ lw_g := k_w (List.mem_of_getElem? (i := 56) (by decide +kernel)) (by decide +kernel)
theorem tw_57 : (Jvm.Cond.instanceMethod ({ cls := "PositionDesk$PairAmounts", name := "<init>", desc := "(I)V" } : Jvm.MethodName)) ∈ lw_g := k_w (List.mem_of_getElem? (i := 57) (by decide +kernel)) (by decide +kernel)
theorem tw_58 : (Jvm.Cond.code ({ cls := "PositionDesk$PairAmounts", name := "<init>", desc := "(I)V" } : Jvm.MethodName) prog_4_method_1_code (2 : Nat) (Option.none : Option Jvm.ClassFile.FieldType)) ∈ lw_g := k_w (List.mem_of_getElem? (i := 58) (by decide +kernel)) (by decide +kernel)
theorem tw_59 : (Jvm.Cond.methodLink "PositionDesk$PairAmounts" (3 : Nat) ({ cls := "java/lang/Object", name := "<init>", desc := "()V" } : Jvm.MethodName)) ∈ lw_g := k_w (List.mem_of_getElem? (i := 59) (by decide +kernel)) (by decide +kernel)
theorem tw_60 : (Jvm.Cond.fieldLink "PositionDesk$PairAmounts" (9 : Nat) "PositionDesk$PairAmounts" "pairs" "[I") ∈ lw_g := k_w (List.mem_of_getElem? (i := 60) (by decide +kernel)) (by decide +kernel)
theorem tw_61 : (Jvm.Cond.fieldLink "PositionDesk$PairAmounts" (15 : Nat) "PositionDesk$PairAmounts" "amounts" "[J") ∈ lw_g := k_w (List.mem_of_getElem? (i := 61) (by decide +kernel)) (by decide +kernel)
theorem tw_62 : (Jvm.Cond.fieldLink "PositionDesk$PairAmounts" (19 : Nat) "PositionDesk$PairAmounts" "count" "I") ∈ lw_g := k_w (List.mem_of_getElem? (i := 62) (by decide +kernel)) (by decide +kernel)
theorem tw_70 : (Jvm.Cond.arrayClass Jvm.ClassFile.FieldType.long) ∈ lw_g := k_w (List.mem_of_getElem? (i := 70) (by decide +kernel)) (by decide +kernel)
theorem tw_71 : (Jvm.Cond.arrayClass Jvm.ClassFile.FieldType.int) ∈ lw_g := k_w (List.mem_of_getElem? (i := 71) (by decide +kernel)) (by decide +kernel)
theorem tw_72 : (Jvm.Cond.classLink "PositionDesk" (48 : Nat) "PositionDesk$Legs") ∈ lw_g := k_w (List.mem_of_getElem? (i := 72) (by decide +kernel)) (by decide +kernel)
theorem tw_73 : (Jvm.Cond.instantiable "PositionDesk$Legs" (5 : Nat)) ∈ lw_g := k_w (List.mem_of_getElem? (i := 73) (by decide +kernel)) (by decide +kernel)
theorem tw_74 : (Jvm.Cond.methodLinkNest "PositionDesk" (50 : Nat) ({ cls := "PositionDesk$Legs", name := "<init>", desc := "()V" } : Jvm.MethodName) "PositionDesk") ∈ lw_tbl := List.mem_of_getElem? (i := 74) (by decide +kernel)
theorem tw_75 : (Jvm.Cond.instanceMethod ({ cls := "PositionDesk$Legs", name := "<init>", desc := "()V" } : Jvm.MethodName)) ∈ lw_g := k_w (List.mem_of_getElem? (i := 75) (by decide +kernel)) (by decide +kernel)
theorem tw_76 : (Jvm.Cond.code ({ cls := "PositionDesk$Legs", name := "<init>", desc := "()V" } : Jvm.MethodName) prog_3_method_1_code (1 : Nat) (Option.none : Option Jvm.ClassFile.FieldType)) ∈ lw_g := k_w (List.mem_of_getElem? (i := 76) (by decide +kernel)) (by decide +kernel)
theorem tw_77 : (Jvm.Cond.methodLink "PositionDesk$Legs" (3 : Nat) ({ cls := "java/lang/Object", name := "<init>", desc := "()V" } : Jvm.MethodName)) ∈ lw_g := k_w (List.mem_of_getElem? (i := 77) (by decide +kernel)) (by decide +kernel)
theorem tw_78 : (Jvm.Cond.fieldLink "PositionDesk$Legs" (9 : Nat) "PositionDesk$Legs" "from" "[I") ∈ lw_g := k_w (List.mem_of_getElem? (i := 78) (by decide +kernel)) (by decide +kernel)
theorem tw_79 : (Jvm.Cond.fieldLink "PositionDesk" (141 : Nat) "PositionDesk$Legs" "from" "[I") ∈ lw_g := k_w (List.mem_of_getElem? (i := 79) (by decide +kernel)) (by decide +kernel)
theorem tw_80 : (Jvm.Cond.fieldLink "PositionDesk$Legs" (15 : Nat) "PositionDesk$Legs" "to" "[I") ∈ lw_g := k_w (List.mem_of_getElem? (i := 80) (by decide +kernel)) (by decide +kernel)
theorem tw_81 : (Jvm.Cond.fieldLink "PositionDesk" (224 : Nat) "PositionDesk$Legs" "to" "[I") ∈ lw_g := k_w (List.mem_of_getElem? (i := 81) (by decide +kernel)) (by decide +kernel)
theorem tw_82 : (Jvm.Cond.fieldLink "PositionDesk$Legs" (18 : Nat) "PositionDesk$Legs" "asset" "[I") ∈ lw_g := k_w (List.mem_of_getElem? (i := 82) (by decide +kernel)) (by decide +kernel)
theorem tw_83 : (Jvm.Cond.fieldLink "PositionDesk" (145 : Nat) "PositionDesk$Legs" "asset" "[I") ∈ lw_g := k_w (List.mem_of_getElem? (i := 83) (by decide +kernel)) (by decide +kernel)
theorem tw_84 : (Jvm.Cond.fieldLink "PositionDesk$Legs" (21 : Nat) "PositionDesk$Legs" "amount" "[J") ∈ lw_g := k_w (List.mem_of_getElem? (i := 84) (by decide +kernel)) (by decide +kernel)
theorem tw_85 : (Jvm.Cond.fieldLink "PositionDesk" (227 : Nat) "PositionDesk$Legs" "amount" "[J") ∈ lw_g := k_w (List.mem_of_getElem? (i := 85) (by decide +kernel)) (by decide +kernel)
theorem tw_86 : (Jvm.Cond.fieldLink "PositionDesk$Legs" (25 : Nat) "PositionDesk$Legs" "count" "I") ∈ lw_g := k_w (List.mem_of_getElem? (i := 86) (by decide +kernel)) (by decide +kernel)
theorem tw_87 : (Jvm.Cond.fieldLink "PositionDesk" (138 : Nat) "PositionDesk$Legs" "count" "I") ∈ lw_g := k_w (List.mem_of_getElem? (i := 87) (by decide +kernel)) (by decide +kernel)
theorem tw_99 : (Jvm.Cond.fieldLink "PositionDesk" (9 : Nat) "PositionDesk" "participants" "I") ∈ lw_g := k_w (List.mem_of_getElem? (i := 99) (by decide +kernel)) (by decide +kernel)
theorem tw_100 : (Jvm.Cond.fieldLink "PositionDesk" (19 : Nat) "PositionDesk" "positions" "I") ∈ lw_g := k_w (List.mem_of_getElem? (i := 100) (by decide +kernel)) (by decide +kernel)
theorem tw_101 : (Jvm.Cond.fieldLink "PositionDesk" (15 : Nat) "PositionDesk" "assets" "[LPositionDesk$Asset;") ∈ lw_g := k_w (List.mem_of_getElem? (i := 101) (by decide +kernel)) (by decide +kernel)
theorem tw_102 : (Jvm.Cond.fieldLink "PositionDesk" (22 : Nat) "PositionDesk" "made" "I") ∈ lw_g := k_w (List.mem_of_getElem? (i := 102) (by decide +kernel)) (by decide +kernel)
theorem tw_103 : (Jvm.Cond.fieldLink "PositionDesk" (25 : Nat) "PositionDesk" "money" "I") ∈ lw_g := k_w (List.mem_of_getElem? (i := 103) (by decide +kernel)) (by decide +kernel)
theorem tw_104 : (Jvm.Cond.fieldLink "PositionDesk" (28 : Nat) "PositionDesk" "credits" "[J") ∈ lw_g := k_w (List.mem_of_getElem? (i := 104) (by decide +kernel)) (by decide +kernel)
theorem tw_105 : (Jvm.Cond.fieldLink "PositionDesk" (32 : Nat) "PositionDesk" "allCredits" "J") ∈ lw_g := k_w (List.mem_of_getElem? (i := 105) (by decide +kernel)) (by decide +kernel)
theorem tw_106 : (Jvm.Cond.fieldLink "PositionDesk" (41 : Nat) "PositionDesk" "limits" "LPositionDesk$PairAmounts;") ∈ lw_g := k_w (List.mem_of_getElem? (i := 106) (by decide +kernel)) (by decide +kernel)
theorem tw_107 : (Jvm.Cond.fieldLink "PositionDesk" (45 : Nat) "PositionDesk" "paid" "LPositionDesk$PairAmounts;") ∈ lw_g := k_w (List.mem_of_getElem? (i := 107) (by decide +kernel)) (by decide +kernel)
theorem tw_108 : (Jvm.Cond.fieldLink "PositionDesk" (51 : Nat) "PositionDesk" "legs" "LPositionDesk$Legs;") ∈ lw_g := k_w (List.mem_of_getElem? (i := 108) (by decide +kernel)) (by decide +kernel)
theorem tw_130 : (Jvm.Cond.methodLink "PositionDeskLaw" (21 : Nat) ({ cls := "PositionDesk", name := "currency", desc := "()I" } : Jvm.MethodName)) ∈ lw_g := k_w (List.mem_of_getElem? (i := 130) (by decide +kernel)) (by decide +kernel)
theorem tw_131 : (Jvm.Cond.instanceMethod ({ cls := "PositionDesk", name := "currency", desc := "()I" } : Jvm.MethodName)) ∈ lw_g := k_w (List.mem_of_getElem? (i := 131) (by decide +kernel)) (by decide +kernel)
theorem tw_132 : (Jvm.Cond.selects "PositionDesk" ({ cls := "PositionDesk", name := "currency", desc := "()I" } : Jvm.MethodName) ({ cls := "PositionDesk", name := "currency", desc := "()I" } : Jvm.MethodName)) ∈ lw_g := k_w (List.mem_of_getElem? (i := 132) (by decide +kernel)) (by decide +kernel)
theorem tw_133 : (Jvm.Cond.code ({ cls := "PositionDesk", name := "currency", desc := "()I" } : Jvm.MethodName) prog_1_method_2_code (2 : Nat) (Option.some Jvm.ClassFile.FieldType.int)) ∈ lw_g := k_w (List.mem_of_getElem? (i := 133) (by decide +kernel)) (by decide +kernel)
theorem tw_134 : (Jvm.Cond.methodLink "PositionDesk" (55 : Nat) ({ cls := "PositionDesk", name := "addAsset", desc := "(ZJ)I" } : Jvm.MethodName)) ∈ lw_g := k_w (List.mem_of_getElem? (i := 134) (by decide +kernel)) (by decide +kernel)
theorem tw_136 : (Jvm.Cond.instanceMethod ({ cls := "PositionDesk", name := "addAsset", desc := "(ZJ)I" } : Jvm.MethodName)) ∈ lw_g := k_w (List.mem_of_getElem? (i := 136) (by decide +kernel)) (by decide +kernel)
theorem tw_137 : (Jvm.Cond.code ({ cls := "PositionDesk", name := "addAsset", desc := "(ZJ)I" } : Jvm.MethodName) prog_1_method_31_code (5 : Nat) (Option.some Jvm.ClassFile.FieldType.int)) ∈ lw_g := k_w (List.mem_of_getElem? (i := 137) (by decide +kernel)) (by decide +kernel)
theorem tw_138 : (Jvm.Cond.instantiable "PositionDesk$Asset" (4 : Nat)) ∈ lw_g := k_w (List.mem_of_getElem? (i := 138) (by decide +kernel)) (by decide +kernel)
theorem tw_139 : (Jvm.Cond.methodLink "PositionDesk" (191 : Nat) ({ cls := "PositionDesk$Asset", name := "<init>", desc := "(ZJI)V" } : Jvm.MethodName)) ∈ lw_g := k_w (List.mem_of_getElem? (i := 139) (by decide +kernel)) (by decide +kernel)
theorem tw_140 : (Jvm.Cond.instanceMethod ({ cls := "PositionDesk$Asset", name := "<init>", desc := "(ZJI)V" } : Jvm.MethodName)) ∈ lw_g := k_w (List.mem_of_getElem? (i := 140) (by decide +kernel)) (by decide +kernel)
theorem tw_141 : (Jvm.Cond.code ({ cls := "PositionDesk$Asset", name := "<init>", desc := "(ZJI)V" } : Jvm.MethodName) prog_2_method_1_code (5 : Nat) (Option.none : Option Jvm.ClassFile.FieldType)) ∈ lw_g := k_w (List.mem_of_getElem? (i := 141) (by decide +kernel)) (by decide +kernel)
theorem tw_142 : (Jvm.Cond.methodLink "PositionDesk$Asset" (1 : Nat) ({ cls := "java/lang/Object", name := "<init>", desc := "()V" } : Jvm.MethodName)) ∈ lw_g := k_w (List.mem_of_getElem? (i := 142) (by decide +kernel)) (by decide +kernel)
theorem tw_143 : (Jvm.Cond.fieldLink "PositionDesk$Asset" (7 : Nat) "PositionDesk$Asset" "isSecurity" "Z") ∈ lw_g := k_w (List.mem_of_getElem? (i := 143) (by decide +kernel)) (by decide +kernel)
theorem tw_144 : (Jvm.Cond.fieldLink "PositionDesk" (187 : Nat) "PositionDesk$Asset" "isSecurity" "Z") ∈ lw_g := k_w (List.mem_of_getElem? (i := 144) (by decide +kernel)) (by decide +kernel)
theorem tw_145 : (Jvm.Cond.fieldLink "PositionDesk$Asset" (17 : Nat) "PositionDesk$Asset" "held" "[J") ∈ lw_g := k_w (List.mem_of_getElem? (i := 145) (by decide +kernel)) (by decide +kernel)
theorem tw_146 : (Jvm.Cond.fieldLink "PositionDesk" (90 : Nat) "PositionDesk$Asset" "held" "[J") ∈ lw_g := k_w (List.mem_of_getElem? (i := 146) (by decide +kernel)) (by decide +kernel)
theorem tw_147 : (Jvm.Cond.fieldLink "PositionDesk$Asset" (21 : Nat) "PositionDesk$Asset" "pledged" "[J") ∈ lw_g := k_w (List.mem_of_getElem? (i := 147) (by decide +kernel)) (by decide +kernel)
theorem tw_148 : (Jvm.Cond.fieldLink "PositionDesk" (103 : Nat) "PositionDesk$Asset" "pledged" "[J") ∈ lw_g := k_w (List.mem_of_getElem? (i := 148) (by decide +kernel)) (by decide +kernel)
theorem tw_149 : (Jvm.Cond.fieldLink "PositionDesk$Asset" (13 : Nat) "PositionDesk$Asset" "rate" "J") ∈ lw_g := k_w (List.mem_of_getElem? (i := 149) (by decide +kernel)) (by decide +kernel)
theorem tw_150 : (Jvm.Cond.fieldLink "PositionDesk" (196 : Nat) "PositionDesk$Asset" "rate" "J") ∈ lw_g := k_w (List.mem_of_getElem? (i := 150) (by decide +kernel)) (by decide +kernel)
theorem tw_160 : (Jvm.Cond.methodLink "PositionDeskLaw" (28 : Nat) ({ cls := "PositionDesk", name := "security", desc := "(JI)I" } : Jvm.MethodName)) ∈ lw_g := k_w (List.mem_of_getElem? (i := 160) (by decide +kernel)) (by decide +kernel)
theorem tw_161 : (Jvm.Cond.instanceMethod ({ cls := "PositionDesk", name := "security", desc := "(JI)I" } : Jvm.MethodName)) ∈ lw_g := k_w (List.mem_of_getElem? (i := 161) (by decide +kernel)) (by decide +kernel)
theorem tw_162 : (Jvm.Cond.selects "PositionDesk" ({ cls := "PositionDesk", name := "security", desc := "(JI)I" } : Jvm.MethodName) ({ cls := "PositionDesk", name := "security", desc := "(JI)I" } : Jvm.MethodName)) ∈ lw_g := k_w (List.mem_of_getElem? (i := 162) (by decide +kernel)) (by decide +kernel)
theorem tw_163 : (Jvm.Cond.code ({ cls := "PositionDesk", name := "security", desc := "(JI)I" } : Jvm.MethodName) prog_1_method_3_code (4 : Nat) (Option.some Jvm.ClassFile.FieldType.int)) ∈ lw_g := k_w (List.mem_of_getElem? (i := 163) (by decide +kernel)) (by decide +kernel)
theorem tw_164 : (Jvm.Cond.methodLink "PositionDesk" (59 : Nat) ({ cls := "PositionDesk", name := "isPriced", desc := "(JI)Z" } : Jvm.MethodName)) ∈ lw_g := k_w (List.mem_of_getElem? (i := 164) (by decide +kernel)) (by decide +kernel)
theorem tw_165 : (Jvm.Cond.static ({ cls := "PositionDesk", name := "isPriced", desc := "(JI)Z" } : Jvm.MethodName)) ∈ lw_g := k_w (List.mem_of_getElem? (i := 165) (by decide +kernel)) (by decide +kernel)
theorem tw_166 : (Jvm.Cond.code ({ cls := "PositionDesk", name := "isPriced", desc := "(JI)Z" } : Jvm.MethodName) prog_1_method_24_code (3 : Nat) (Option.some Jvm.ClassFile.FieldType.boolean)) ∈ lw_g := k_w (List.mem_of_getElem? (i := 166) (by decide +kernel)) (by decide +kernel)
theorem tw_167 : (Jvm.Cond.constantLong "PositionDesk" (114 : Nat) (999999999999999 : Int64)) ∈ lw_g := k_w (List.mem_of_getElem? (i := 167) (by decide +kernel)) (by decide +kernel)
theorem tw_168 : (Jvm.Cond.methodLink "PositionDesk" (63 : Nat) ({ cls := "PositionDesk", name := "rateOf", desc := "(JI)J" } : Jvm.MethodName)) ∈ lw_g := k_w (List.mem_of_getElem? (i := 168) (by decide +kernel)) (by decide +kernel)
theorem tw_169 : (Jvm.Cond.static ({ cls := "PositionDesk", name := "rateOf", desc := "(JI)J" } : Jvm.MethodName)) ∈ lw_g := k_w (List.mem_of_getElem? (i := 169) (by decide +kernel)) (by decide +kernel)
theorem tw_170 : (Jvm.Cond.code ({ cls := "PositionDesk", name := "rateOf", desc := "(JI)J" } : Jvm.MethodName) prog_1_method_32_code (3 : Nat) (Option.some Jvm.ClassFile.FieldType.long)) ∈ lw_g := k_w (List.mem_of_getElem? (i := 170) (by decide +kernel)) (by decide +kernel)
theorem tw_171 : (Jvm.Cond.methodLink "PositionDeskLaw" (33 : Nat) ({ cls := "PositionDesk", name := "price", desc := "(IJI)I" } : Jvm.MethodName)) ∈ lw_g := k_w (List.mem_of_getElem? (i := 171) (by decide +kernel)) (by decide +kernel)
theorem tw_172 : (Jvm.Cond.instanceMethod ({ cls := "PositionDesk", name := "price", desc := "(IJI)I" } : Jvm.MethodName)) ∈ lw_g := k_w (List.mem_of_getElem? (i := 172) (by decide +kernel)) (by decide +kernel)
theorem tw_173 : (Jvm.Cond.selects "PositionDesk" ({ cls := "PositionDesk", name := "price", desc := "(IJI)I" } : Jvm.MethodName) ({ cls := "PositionDesk", name := "price", desc := "(IJI)I" } : Jvm.MethodName)) ∈ lw_g := k_w (List.mem_of_getElem? (i := 173) (by decide +kernel)) (by decide +kernel)
theorem tw_174 : (Jvm.Cond.code ({ cls := "PositionDesk", name := "price", desc := "(IJI)I" } : Jvm.MethodName) prog_1_method_4_code (9 : Nat) (Option.some Jvm.ClassFile.FieldType.int)) ∈ lw_g := k_w (List.mem_of_getElem? (i := 174) (by decide +kernel)) (by decide +kernel)
theorem tw_175 : (Jvm.Cond.methodLink "PositionDesk" (67 : Nat) ({ cls := "PositionDesk", name := "securityAt", desc := "(I)LPositionDesk$Asset;" } : Jvm.MethodName)) ∈ lw_g := k_w (List.mem_of_getElem? (i := 175) (by decide +kernel)) (by decide +kernel)
theorem tw_177 : (Jvm.Cond.instanceMethod ({ cls := "PositionDesk", name := "securityAt", desc := "(I)LPositionDesk$Asset;" } : Jvm.MethodName)) ∈ lw_g := k_w (List.mem_of_getElem? (i := 177) (by decide +kernel)) (by decide +kernel)
theorem tw_178 : (Jvm.Cond.code ({ cls := "PositionDesk", name := "securityAt", desc := "(I)LPositionDesk$Asset;" } : Jvm.MethodName) prog_1_method_30_code (3 : Nat) (Option.some (Jvm.ClassFile.FieldType.object "PositionDesk$Asset"))) ∈ lw_g := k_w (List.mem_of_getElem? (i := 178) (by decide +kernel)) (by decide +kernel)
theorem tw_179 : (Jvm.Cond.methodLink "PositionDesk" (79 : Nat) ({ cls := "PositionDesk", name := "assetAt", desc := "(I)LPositionDesk$Asset;" } : Jvm.MethodName)) ∈ lw_g := k_w (List.mem_of_getElem? (i := 179) (by decide +kernel)) (by decide +kernel)
theorem tw_181 : (Jvm.Cond.instanceMethod ({ cls := "PositionDesk", name := "assetAt", desc := "(I)LPositionDesk$Asset;" } : Jvm.MethodName)) ∈ lw_g := k_w (List.mem_of_getElem? (i := 181) (by decide +kernel)) (by decide +kernel)
theorem tw_182 : (Jvm.Cond.code ({ cls := "PositionDesk", name := "assetAt", desc := "(I)LPositionDesk$Asset;" } : Jvm.MethodName) prog_1_method_29_code (2 : Nat) (Option.some (Jvm.ClassFile.FieldType.object "PositionDesk$Asset"))) ∈ lw_g := k_w (List.mem_of_getElem? (i := 182) (by decide +kernel)) (by decide +kernel)
theorem tw_183 : (Jvm.Cond.methodLink "PositionDesk" (71 : Nat) ({ cls := "PositionDesk", name := "faultOfRate", desc := "(LPositionDesk$Asset;J)I" } : Jvm.MethodName)) ∈ lw_g := k_w (List.mem_of_getElem? (i := 183) (by decide +kernel)) (by decide +kernel)
theorem tw_185 : (Jvm.Cond.instanceMethod ({ cls := "PositionDesk", name := "faultOfRate", desc := "(LPositionDesk$Asset;J)I" } : Jvm.MethodName)) ∈ lw_g := k_w (List.mem_of_getElem? (i := 185) (by decide +kernel)) (by decide +kernel)
theorem tw_186 : (Jvm.Cond.code ({ cls := "PositionDesk", name := "faultOfRate", desc := "(LPositionDesk$Asset;J)I" } : Jvm.MethodName) prog_1_method_38_code (9 : Nat) (Option.some Jvm.ClassFile.FieldType.int)) ∈ lw_g := k_w (List.mem_of_getElem? (i := 186) (by decide +kernel)) (by decide +kernel)
theorem tw_187 : (Jvm.Cond.methodLink "PositionDesk" (214 : Nat) ({ cls := "PositionDesk", name := "creditWith", desc := "(LPositionDesk$Asset;IJJ)J" } : Jvm.MethodName)) ∈ lw_g := k_w (List.mem_of_getElem? (i := 187) (by decide +kernel)) (by decide +kernel)
theorem tw_189 : (Jvm.Cond.instanceMethod ({ cls := "PositionDesk", name := "creditWith", desc := "(LPositionDesk$Asset;IJJ)J" } : Jvm.MethodName)) ∈ lw_g := k_w (List.mem_of_getElem? (i := 189) (by decide +kernel)) (by decide +kernel)
theorem tw_190 : (Jvm.Cond.code ({ cls := "PositionDesk", name := "creditWith", desc := "(LPositionDesk$Asset;IJJ)J" } : Jvm.MethodName) prog_1_method_34_code (9 : Nat) (Option.some Jvm.ClassFile.FieldType.long)) ∈ lw_g := k_w (List.mem_of_getElem? (i := 190) (by decide +kernel)) (by decide +kernel)
theorem tw_191 : (Jvm.Cond.methodLink "PositionDesk" (199 : Nat) ({ cls := "PositionDesk", name := "worth", desc := "(JJ)J" } : Jvm.MethodName)) ∈ lw_g := k_w (List.mem_of_getElem? (i := 191) (by decide +kernel)) (by decide +kernel)
theorem tw_192 : (Jvm.Cond.static ({ cls := "PositionDesk", name := "worth", desc := "(JJ)J" } : Jvm.MethodName)) ∈ lw_g := k_w (List.mem_of_getElem? (i := 192) (by decide +kernel)) (by decide +kernel)
theorem tw_193 : (Jvm.Cond.code ({ cls := "PositionDesk", name := "worth", desc := "(JJ)J" } : Jvm.MethodName) prog_1_method_35_code (10 : Nat) (Option.some Jvm.ClassFile.FieldType.long)) ∈ lw_g := k_w (List.mem_of_getElem? (i := 193) (by decide +kernel)) (by decide +kernel)
theorem tw_194 : (Jvm.Cond.constantLong "PositionDesk" (210 : Nat) (100 : Int64)) ∈ lw_g := k_w (List.mem_of_getElem? (i := 194) (by decide +kernel)) (by decide +kernel)
theorem tw_195 : (Jvm.Cond.constantLong "PositionDesk" (212 : Nat) (4000000000000000000 : Int64)) ∈ lw_g := k_w (List.mem_of_getElem? (i := 195) (by decide +kernel)) (by decide +kernel)
theorem tw_196 : (Jvm.Cond.constantLong "PositionDesk" (203 : Nat) (4000000000000000001 : Int64)) ∈ lw_g := k_w (List.mem_of_getElem? (i := 196) (by decide +kernel)) (by decide +kernel)
theorem tw_197 : (Jvm.Cond.methodLink "PositionDesk" (205 : Nat) ({ cls := "java/lang/Math", name := "min", desc := "(JJ)J" } : Jvm.MethodName)) ∈ lw_g := k_w (List.mem_of_getElem? (i := 197) (by decide +kernel)) (by decide +kernel)
theorem tw_198 : (Jvm.Cond.static ({ cls := "java/lang/Math", name := "min", desc := "(JJ)J" } : Jvm.MethodName)) ∈ lw_g := k_w (List.mem_of_getElem? (i := 198) (by decide +kernel)) (by decide +kernel)
theorem tw_199 : (Jvm.Cond.code ({ cls := "java/lang/Math", name := "min", desc := "(JJ)J" } : Jvm.MethodName) prog_7_method_70_code (4 : Nat) (Option.some Jvm.ClassFile.FieldType.long)) ∈ lw_g := k_w (List.mem_of_getElem? (i := 199) (by decide +kernel)) (by decide +kernel)
theorem tw_200 : (Jvm.Cond.methodLink "PositionDesk" (218 : Nat) ({ cls := "PositionDesk", name := "isOverdrawn", desc := "(IJ)Z" } : Jvm.MethodName)) ∈ lw_g := k_w (List.mem_of_getElem? (i := 200) (by decide +kernel)) (by decide +kernel)
theorem tw_202 : (Jvm.Cond.instanceMethod ({ cls := "PositionDesk", name := "isOverdrawn", desc := "(IJ)Z" } : Jvm.MethodName)) ∈ lw_g := k_w (List.mem_of_getElem? (i := 202) (by decide +kernel)) (by decide +kernel)
theorem tw_203 : (Jvm.Cond.code ({ cls := "PositionDesk", name := "isOverdrawn", desc := "(IJ)Z" } : Jvm.MethodName) prog_1_method_36_code (5 : Nat) (Option.some Jvm.ClassFile.FieldType.boolean)) ∈ lw_g := k_w (List.mem_of_getElem? (i := 203) (by decide +kernel)) (by decide +kernel)
theorem tw_204 : (Jvm.Cond.methodLink "PositionDesk" (75 : Nat) ({ cls := "PositionDesk", name := "setRate", desc := "(LPositionDesk$Asset;J)V" } : Jvm.MethodName)) ∈ lw_g := k_w (List.mem_of_getElem? (i := 204) (by decide +kernel)) (by decide +kernel)
theorem tw_206 : (Jvm.Cond.instanceMethod ({ cls := "PositionDesk", name := "setRate", desc := "(LPositionDesk$Asset;J)V" } : Jvm.MethodName)) ∈ lw_g := k_w (List.mem_of_getElem? (i := 206) (by decide +kernel)) (by decide +kernel)
theorem tw_207 : (Jvm.Cond.code ({ cls := "PositionDesk", name := "setRate", desc := "(LPositionDesk$Asset;J)V" } : Jvm.MethodName) prog_1_method_39_code (7 : Nat) (Option.none : Option Jvm.ClassFile.FieldType)) ∈ lw_g := k_w (List.mem_of_getElem? (i := 207) (by decide +kernel)) (by decide +kernel)
theorem tw_208 : (Jvm.Cond.methodLink "PositionDeskLaw" (38 : Nat) ({ cls := "PositionDesk", name := "give", desc := "(IIJ)I" } : Jvm.MethodName)) ∈ lw_g := k_w (List.mem_of_getElem? (i := 208) (by decide +kernel)) (by decide +kernel)
theorem tw_209 : (Jvm.Cond.instanceMethod ({ cls := "PositionDesk", name := "give", desc := "(IIJ)I" } : Jvm.MethodName)) ∈ lw_g := k_w (List.mem_of_getElem? (i := 209) (by decide +kernel)) (by decide +kernel)
theorem tw_210 : (Jvm.Cond.selects "PositionDesk" ({ cls := "PositionDesk", name := "give", desc := "(IIJ)I" } : Jvm.MethodName) ({ cls := "PositionDesk", name := "give", desc := "(IIJ)I" } : Jvm.MethodName)) ∈ lw_g := k_w (List.mem_of_getElem? (i := 210) (by decide +kernel)) (by decide +kernel)
theorem tw_211 : (Jvm.Cond.code ({ cls := "PositionDesk", name := "give", desc := "(IIJ)I" } : Jvm.MethodName) prog_1_method_5_code (6 : Nat) (Option.some Jvm.ClassFile.FieldType.int)) ∈ lw_g := k_w (List.mem_of_getElem? (i := 211) (by decide +kernel)) (by decide +kernel)
theorem tw_212 : (Jvm.Cond.methodLink "PositionDesk" (82 : Nat) ({ cls := "PositionDesk", name := "isClient", desc := "(I)Z" } : Jvm.MethodName)) ∈ lw_g := k_w (List.mem_of_getElem? (i := 212) (by decide +kernel)) (by decide +kernel)
theorem tw_214 : (Jvm.Cond.instanceMethod ({ cls := "PositionDesk", name := "isClient", desc := "(I)Z" } : Jvm.MethodName)) ∈ lw_g := k_w (List.mem_of_getElem? (i := 214) (by decide +kernel)) (by decide +kernel)
theorem tw_215 : (Jvm.Cond.code ({ cls := "PositionDesk", name := "isClient", desc := "(I)Z" } : Jvm.MethodName) prog_1_method_21_code (2 : Nat) (Option.some Jvm.ClassFile.FieldType.boolean)) ∈ lw_g := k_w (List.mem_of_getElem? (i := 215) (by decide +kernel)) (by decide +kernel)
theorem tw_216 : (Jvm.Cond.methodLink "PositionDesk" (86 : Nat) ({ cls := "PositionDesk", name := "isAmount", desc := "(J)Z" } : Jvm.MethodName)) ∈ lw_g := k_w (List.mem_of_getElem? (i := 216) (by decide +kernel)) (by decide +kernel)
theorem tw_217 : (Jvm.Cond.static ({ cls := "PositionDesk", name := "isAmount", desc := "(J)Z" } : Jvm.MethodName)) ∈ lw_g := k_w (List.mem_of_getElem? (i := 217) (by decide +kernel)) (by decide +kernel)
theorem tw_218 : (Jvm.Cond.code ({ cls := "PositionDesk", name := "isAmount", desc := "(J)Z" } : Jvm.MethodName) prog_1_method_23_code (2 : Nat) (Option.some Jvm.ClassFile.FieldType.boolean)) ∈ lw_g := k_w (List.mem_of_getElem? (i := 218) (by decide +kernel)) (by decide +kernel)
theorem tw_219 : (Jvm.Cond.constantLong "PositionDesk" (93 : Nat) (-4000000000000000000 : Int64)) ∈ lw_g := k_w (List.mem_of_getElem? (i := 219) (by decide +kernel)) (by decide +kernel)
theorem tw_220 : (Jvm.Cond.methodLink "PositionDesk" (95 : Nat) ({ cls := "PositionDesk$Asset", name := "move", desc := "(IIJ)V" } : Jvm.MethodName)) ∈ lw_g := k_w (List.mem_of_getElem? (i := 220) (by decide +kernel)) (by decide +kernel)
theorem tw_221 : (Jvm.Cond.instanceMethod ({ cls := "PositionDesk$Asset", name := "move", desc := "(IIJ)V" } : Jvm.MethodName)) ∈ lw_g := k_w (List.mem_of_getElem? (i := 221) (by decide +kernel)) (by decide +kernel)
theorem tw_222 : (Jvm.Cond.selects "PositionDesk$Asset" ({ cls := "PositionDesk$Asset", name := "move", desc := "(IIJ)V" } : Jvm.MethodName) ({ cls := "PositionDesk$Asset", name := "move", desc := "(IIJ)V" } : Jvm.MethodName)) ∈ lw_g := k_w (List.mem_of_getElem? (i := 222) (by decide +kernel)) (by decide +kernel)
theorem tw_223 : (Jvm.Cond.code ({ cls := "PositionDesk$Asset", name := "move", desc := "(IIJ)V" } : Jvm.MethodName) prog_2_method_2_code (5 : Nat) (Option.none : Option Jvm.ClassFile.FieldType)) ∈ lw_g := k_w (List.mem_of_getElem? (i := 223) (by decide +kernel)) (by decide +kernel)
theorem tw_224 : (Jvm.Cond.methodLink "PositionDeskLaw" (43 : Nat) ({ cls := "PositionDesk", name := "back", desc := "(IIJ)I" } : Jvm.MethodName)) ∈ lw_g := k_w (List.mem_of_getElem? (i := 224) (by decide +kernel)) (by decide +kernel)
theorem tw_225 : (Jvm.Cond.instanceMethod ({ cls := "PositionDesk", name := "back", desc := "(IIJ)I" } : Jvm.MethodName)) ∈ lw_g := k_w (List.mem_of_getElem? (i := 225) (by decide +kernel)) (by decide +kernel)
theorem tw_226 : (Jvm.Cond.selects "PositionDesk" ({ cls := "PositionDesk", name := "back", desc := "(IIJ)I" } : Jvm.MethodName) ({ cls := "PositionDesk", name := "back", desc := "(IIJ)I" } : Jvm.MethodName)) ∈ lw_g := k_w (List.mem_of_getElem? (i := 226) (by decide +kernel)) (by decide +kernel)
theorem tw_227 : (Jvm.Cond.code ({ cls := "PositionDesk", name := "back", desc := "(IIJ)I" } : Jvm.MethodName) prog_1_method_6_code (6 : Nat) (Option.some Jvm.ClassFile.FieldType.int)) ∈ lw_g := k_w (List.mem_of_getElem? (i := 227) (by decide +kernel)) (by decide +kernel)
theorem tw_228 : (Jvm.Cond.methodLink "PositionDesk" (99 : Nat) ({ cls := "PositionDesk", name := "lowest", desc := "(LPositionDesk$Asset;I)J" } : Jvm.MethodName)) ∈ lw_g := k_w (List.mem_of_getElem? (i := 228) (by decide +kernel)) (by decide +kernel)
theorem tw_230 : (Jvm.Cond.instanceMethod ({ cls := "PositionDesk", name := "lowest", desc := "(LPositionDesk$Asset;I)J" } : Jvm.MethodName)) ∈ lw_g := k_w (List.mem_of_getElem? (i := 230) (by decide +kernel)) (by decide +kernel)
theorem tw_231 : (Jvm.Cond.code ({ cls := "PositionDesk", name := "lowest", desc := "(LPositionDesk$Asset;I)J" } : Jvm.MethodName) prog_1_method_33_code (3 : Nat) (Option.some Jvm.ClassFile.FieldType.long)) ∈ lw_g := k_w (List.mem_of_getElem? (i := 231) (by decide +kernel)) (by decide +kernel)
theorem tw_232 : (Jvm.Cond.constantLong "PositionDesk" (194 : Nat) (-9223372036854775808 : Int64)) ∈ lw_g := k_w (List.mem_of_getElem? (i := 232) (by decide +kernel)) (by decide +kernel)
theorem tw_233 : (Jvm.Cond.methodLink "PositionDeskLaw" (47 : Nat) ({ cls := "PositionDesk", name := "pledge", desc := "(IIJ)I" } : Jvm.MethodName)) ∈ lw_g := k_w (List.mem_of_getElem? (i := 233) (by decide +kernel)) (by decide +kernel)
theorem tw_234 : (Jvm.Cond.instanceMethod ({ cls := "PositionDesk", name := "pledge", desc := "(IIJ)I" } : Jvm.MethodName)) ∈ lw_g := k_w (List.mem_of_getElem? (i := 234) (by decide +kernel)) (by decide +kernel)
theorem tw_235 : (Jvm.Cond.selects "PositionDesk" ({ cls := "PositionDesk", name := "pledge", desc := "(IIJ)I" } : Jvm.MethodName) ({ cls := "PositionDesk", name := "pledge", desc := "(IIJ)I" } : Jvm.MethodName)) ∈ lw_g := k_w (List.mem_of_getElem? (i := 235) (by decide +kernel)) (by decide +kernel)
theorem tw_236 : (Jvm.Cond.code ({ cls := "PositionDesk", name := "pledge", desc := "(IIJ)I" } : Jvm.MethodName) prog_1_method_7_code (6 : Nat) (Option.some Jvm.ClassFile.FieldType.int)) ∈ lw_g := k_w (List.mem_of_getElem? (i := 236) (by decide +kernel)) (by decide +kernel)
theorem tw_237 : (Jvm.Cond.methodLink "PositionDesk" (106 : Nat) ({ cls := "PositionDesk", name := "setPledged", desc := "(LPositionDesk$Asset;IJ)I" } : Jvm.MethodName)) ∈ lw_g := k_w (List.mem_of_getElem? (i := 237) (by decide +kernel)) (by decide +kernel)
theorem tw_239 : (Jvm.Cond.instanceMethod ({ cls := "PositionDesk", name := "setPledged", desc := "(LPositionDesk$Asset;IJ)I" } : Jvm.MethodName)) ∈ lw_g := k_w (List.mem_of_getElem? (i := 239) (by decide +kernel)) (by decide +kernel)
theorem tw_240 : (Jvm.Cond.code ({ cls := "PositionDesk", name := "setPledged", desc := "(LPositionDesk$Asset;IJ)I" } : Jvm.MethodName) prog_1_method_37_code (9 : Nat) (Option.some Jvm.ClassFile.FieldType.int)) ∈ lw_g := k_w (List.mem_of_getElem? (i := 240) (by decide +kernel)) (by decide +kernel)
theorem tw_241 : (Jvm.Cond.methodLink "PositionDeskLaw" (51 : Nat) ({ cls := "PositionDesk", name := "free", desc := "(IIJ)I" } : Jvm.MethodName)) ∈ lw_g := k_w (List.mem_of_getElem? (i := 241) (by decide +kernel)) (by decide +kernel)
theorem tw_242 : (Jvm.Cond.instanceMethod ({ cls := "PositionDesk", name := "free", desc := "(IIJ)I" } : Jvm.MethodName)) ∈ lw_g := k_w (List.mem_of_getElem? (i := 242) (by decide +kernel)) (by decide +kernel)
theorem tw_243 : (Jvm.Cond.selects "PositionDesk" ({ cls := "PositionDesk", name := "free", desc := "(IIJ)I" } : Jvm.MethodName) ({ cls := "PositionDesk", name := "free", desc := "(IIJ)I" } : Jvm.MethodName)) ∈ lw_g := k_w (List.mem_of_getElem? (i := 243) (by decide +kernel)) (by decide +kernel)
theorem tw_244 : (Jvm.Cond.code ({ cls := "PositionDesk", name := "free", desc := "(IIJ)I" } : Jvm.MethodName) prog_1_method_8_code (6 : Nat) (Option.some Jvm.ClassFile.FieldType.int)) ∈ lw_g := k_w (List.mem_of_getElem? (i := 244) (by decide +kernel)) (by decide +kernel)
theorem tw_245 : (Jvm.Cond.methodLink "PositionDeskLaw" (55 : Nat) ({ cls := "PositionDesk", name := "limit", desc := "(IIJ)I" } : Jvm.MethodName)) ∈ lw_g := k_w (List.mem_of_getElem? (i := 245) (by decide +kernel)) (by decide +kernel)
theorem tw_246 : (Jvm.Cond.instanceMethod ({ cls := "PositionDesk", name := "limit", desc := "(IIJ)I" } : Jvm.MethodName)) ∈ lw_g := k_w (List.mem_of_getElem? (i := 246) (by decide +kernel)) (by decide +kernel)
theorem tw_247 : (Jvm.Cond.selects "PositionDesk" ({ cls := "PositionDesk", name := "limit", desc := "(IIJ)I" } : Jvm.MethodName) ({ cls := "PositionDesk", name := "limit", desc := "(IIJ)I" } : Jvm.MethodName)) ∈ lw_g := k_w (List.mem_of_getElem? (i := 247) (by decide +kernel)) (by decide +kernel)
theorem tw_248 : (Jvm.Cond.code ({ cls := "PositionDesk", name := "limit", desc := "(IIJ)I" } : Jvm.MethodName) prog_1_method_9_code (5 : Nat) (Option.some Jvm.ClassFile.FieldType.int)) ∈ lw_g := k_w (List.mem_of_getElem? (i := 248) (by decide +kernel)) (by decide +kernel)
theorem tw_249 : (Jvm.Cond.methodLink "PositionDesk" (110 : Nat) ({ cls := "PositionDesk", name := "areTwoClients", desc := "(II)Z" } : Jvm.MethodName)) ∈ lw_g := k_w (List.mem_of_getElem? (i := 249) (by decide +kernel)) (by decide +kernel)
theorem tw_251 : (Jvm.Cond.instanceMethod ({ cls := "PositionDesk", name := "areTwoClients", desc := "(II)Z" } : Jvm.MethodName)) ∈ lw_g := k_w (List.mem_of_getElem? (i := 251) (by decide +kernel)) (by decide +kernel)
theorem tw_252 : (Jvm.Cond.code ({ cls := "PositionDesk", name := "areTwoClients", desc := "(II)Z" } : Jvm.MethodName) prog_1_method_22_code (3 : Nat) (Option.some Jvm.ClassFile.FieldType.boolean)) ∈ lw_g := k_w (List.mem_of_getElem? (i := 252) (by decide +kernel)) (by decide +kernel)
theorem tw_253 : (Jvm.Cond.methodLink "PositionDesk" (116 : Nat) ({ cls := "PositionDesk", name := "paidFrom", desc := "(II)J" } : Jvm.MethodName)) ∈ lw_g := k_w (List.mem_of_getElem? (i := 253) (by decide +kernel)) (by decide +kernel)
theorem tw_255 : (Jvm.Cond.instanceMethod ({ cls := "PositionDesk", name := "paidFrom", desc := "(II)J" } : Jvm.MethodName)) ∈ lw_g := k_w (List.mem_of_getElem? (i := 255) (by decide +kernel)) (by decide +kernel)
theorem tw_256 : (Jvm.Cond.code ({ cls := "PositionDesk", name := "paidFrom", desc := "(II)J" } : Jvm.MethodName) prog_1_method_40_code (3 : Nat) (Option.some Jvm.ClassFile.FieldType.long)) ∈ lw_g := k_w (List.mem_of_getElem? (i := 256) (by decide +kernel)) (by decide +kernel)
theorem tw_257 : (Jvm.Cond.methodLink "PositionDesk" (120 : Nat) ({ cls := "PositionDesk", name := "pairOf", desc := "(II)I" } : Jvm.MethodName)) ∈ lw_g := k_w (List.mem_of_getElem? (i := 257) (by decide +kernel)) (by decide +kernel)
theorem tw_259 : (Jvm.Cond.instanceMethod ({ cls := "PositionDesk", name := "pairOf", desc := "(II)I" } : Jvm.MethodName)) ∈ lw_g := k_w (List.mem_of_getElem? (i := 259) (by decide +kernel)) (by decide +kernel)
theorem tw_260 : (Jvm.Cond.code ({ cls := "PositionDesk", name := "pairOf", desc := "(II)I" } : Jvm.MethodName) prog_1_method_28_code (3 : Nat) (Option.some Jvm.ClassFile.FieldType.int)) ∈ lw_g := k_w (List.mem_of_getElem? (i := 260) (by decide +kernel)) (by decide +kernel)
theorem tw_261 : (Jvm.Cond.methodLink "PositionDesk" (221 : Nat) ({ cls := "PositionDesk$PairAmounts", name := "amountOf", desc := "(I)J" } : Jvm.MethodName)) ∈ lw_g := k_w (List.mem_of_getElem? (i := 261) (by decide +kernel)) (by decide +kernel)
theorem tw_262 : (Jvm.Cond.instanceMethod ({ cls := "PositionDesk$PairAmounts", name := "amountOf", desc := "(I)J" } : Jvm.MethodName)) ∈ lw_g := k_w (List.mem_of_getElem? (i := 262) (by decide +kernel)) (by decide +kernel)
theorem tw_263 : (Jvm.Cond.selects "PositionDesk$PairAmounts" ({ cls := "PositionDesk$PairAmounts", name := "amountOf", desc := "(I)J" } : Jvm.MethodName) ({ cls := "PositionDesk$PairAmounts", name := "amountOf", desc := "(I)J" } : Jvm.MethodName)) ∈ lw_g := k_w (List.mem_of_getElem? (i := 263) (by decide +kernel)) (by decide +kernel)
theorem tw_264 : (Jvm.Cond.code ({ cls := "PositionDesk$PairAmounts", name := "amountOf", desc := "(I)J" } : Jvm.MethodName) prog_4_method_4_code (3 : Nat) (Option.some Jvm.ClassFile.FieldType.long)) ∈ lw_g := k_w (List.mem_of_getElem? (i := 264) (by decide +kernel)) (by decide +kernel)
theorem tw_265 : (Jvm.Cond.methodLink "PositionDesk$PairAmounts" (23 : Nat) ({ cls := "PositionDesk$PairAmounts", name := "indexOf", desc := "(I)I" } : Jvm.MethodName)) ∈ lw_g := k_w (List.mem_of_getElem? (i := 265) (by decide +kernel)) (by decide +kernel)
theorem tw_267 : (Jvm.Cond.instanceMethod ({ cls := "PositionDesk$PairAmounts", name := "indexOf", desc := "(I)I" } : Jvm.MethodName)) ∈ lw_g := k_w (List.mem_of_getElem? (i := 267) (by decide +kernel)) (by decide +kernel)
theorem tw_268 : (Jvm.Cond.code ({ cls := "PositionDesk$PairAmounts", name := "indexOf", desc := "(I)I" } : Jvm.MethodName) prog_4_method_2_code (3 : Nat) (Option.some Jvm.ClassFile.FieldType.int)) ∈ lw_g := k_w (List.mem_of_getElem? (i := 268) (by decide +kernel)) (by decide +kernel)
theorem tw_269 : (Jvm.Cond.methodLink "PositionDesk" (124 : Nat) ({ cls := "PositionDesk$PairAmounts", name := "put", desc := "(IJ)Z" } : Jvm.MethodName)) ∈ lw_g := k_w (List.mem_of_getElem? (i := 269) (by decide +kernel)) (by decide +kernel)
theorem tw_270 : (Jvm.Cond.instanceMethod ({ cls := "PositionDesk$PairAmounts", name := "put", desc := "(IJ)Z" } : Jvm.MethodName)) ∈ lw_g := k_w (List.mem_of_getElem? (i := 270) (by decide +kernel)) (by decide +kernel)
theorem tw_271 : (Jvm.Cond.selects "PositionDesk$PairAmounts" ({ cls := "PositionDesk$PairAmounts", name := "put", desc := "(IJ)Z" } : Jvm.MethodName) ({ cls := "PositionDesk$PairAmounts", name := "put", desc := "(IJ)Z" } : Jvm.MethodName)) ∈ lw_g := k_w (List.mem_of_getElem? (i := 271) (by decide +kernel)) (by decide +kernel)
theorem tw_272 : (Jvm.Cond.code ({ cls := "PositionDesk$PairAmounts", name := "put", desc := "(IJ)Z" } : Jvm.MethodName) prog_4_method_5_code (5 : Nat) (Option.some Jvm.ClassFile.FieldType.boolean)) ∈ lw_g := k_w (List.mem_of_getElem? (i := 272) (by decide +kernel)) (by decide +kernel)
theorem tw_273 : (Jvm.Cond.methodLink "PositionDeskLaw" (59 : Nat) ({ cls := "PositionDesk", name := "open", desc := "(II)I" } : Jvm.MethodName)) ∈ lw_g := k_w (List.mem_of_getElem? (i := 273) (by decide +kernel)) (by decide +kernel)
theorem tw_274 : (Jvm.Cond.instanceMethod ({ cls := "PositionDesk", name := "open", desc := "(II)I" } : Jvm.MethodName)) ∈ lw_g := k_w (List.mem_of_getElem? (i := 274) (by decide +kernel)) (by decide +kernel)
theorem tw_275 : (Jvm.Cond.selects "PositionDesk" ({ cls := "PositionDesk", name := "open", desc := "(II)I" } : Jvm.MethodName) ({ cls := "PositionDesk", name := "open", desc := "(II)I" } : Jvm.MethodName)) ∈ lw_g := k_w (List.mem_of_getElem? (i := 275) (by decide +kernel)) (by decide +kernel)
theorem tw_276 : (Jvm.Cond.code ({ cls := "PositionDesk", name := "open", desc := "(II)I" } : Jvm.MethodName) prog_1_method_10_code (3 : Nat) (Option.some Jvm.ClassFile.FieldType.int)) ∈ lw_g := k_w (List.mem_of_getElem? (i := 276) (by decide +kernel)) (by decide +kernel)
theorem tw_277 : (Jvm.Cond.methodLink "PositionDesk" (128 : Nat) ({ cls := "PositionDesk$PairAmounts", name := "remove", desc := "(I)Z" } : Jvm.MethodName)) ∈ lw_g := k_w (List.mem_of_getElem? (i := 277) (by decide +kernel)) (by decide +kernel)
theorem tw_278 : (Jvm.Cond.instanceMethod ({ cls := "PositionDesk$PairAmounts", name := "remove", desc := "(I)Z" } : Jvm.MethodName)) ∈ lw_g := k_w (List.mem_of_getElem? (i := 278) (by decide +kernel)) (by decide +kernel)
theorem tw_279 : (Jvm.Cond.selects "PositionDesk$PairAmounts" ({ cls := "PositionDesk$PairAmounts", name := "remove", desc := "(I)Z" } : Jvm.MethodName) ({ cls := "PositionDesk$PairAmounts", name := "remove", desc := "(I)Z" } : Jvm.MethodName)) ∈ lw_g := k_w (List.mem_of_getElem? (i := 279) (by decide +kernel)) (by decide +kernel)
theorem tw_280 : (Jvm.Cond.code ({ cls := "PositionDesk$PairAmounts", name := "remove", desc := "(I)Z" } : Jvm.MethodName) prog_4_method_6_code (3 : Nat) (Option.some Jvm.ClassFile.FieldType.boolean)) ∈ lw_g := k_w (List.mem_of_getElem? (i := 280) (by decide +kernel)) (by decide +kernel)
theorem tw_281 : (Jvm.Cond.methodLink "PositionDeskLaw" (104 : Nat) ({ cls := "PositionDesk", name := "day", desc := "()V" } : Jvm.MethodName)) ∈ lw_g := k_w (List.mem_of_getElem? (i := 281) (by decide +kernel)) (by decide +kernel)
theorem tw_282 : (Jvm.Cond.instanceMethod ({ cls := "PositionDesk", name := "day", desc := "()V" } : Jvm.MethodName)) ∈ lw_g := k_w (List.mem_of_getElem? (i := 282) (by decide +kernel)) (by decide +kernel)
theorem tw_283 : (Jvm.Cond.selects "PositionDesk" ({ cls := "PositionDesk", name := "day", desc := "()V" } : Jvm.MethodName) ({ cls := "PositionDesk", name := "day", desc := "()V" } : Jvm.MethodName)) ∈ lw_g := k_w (List.mem_of_getElem? (i := 283) (by decide +kernel)) (by decide +kernel)
theorem tw_284 : (Jvm.Cond.code ({ cls := "PositionDesk", name := "day", desc := "()V" } : Jvm.MethodName) prog_1_method_11_code (1 : Nat) (Option.none : Option Jvm.ClassFile.FieldType)) ∈ lw_g := k_w (List.mem_of_getElem? (i := 284) (by decide +kernel)) (by decide +kernel)
theorem tw_285 : (Jvm.Cond.methodLink "PositionDesk" (131 : Nat) ({ cls := "PositionDesk$PairAmounts", name := "clear", desc := "()V" } : Jvm.MethodName)) ∈ lw_g := k_w (List.mem_of_getElem? (i := 285) (by decide +kernel)) (by decide +kernel)
theorem tw_286 : (Jvm.Cond.instanceMethod ({ cls := "PositionDesk$PairAmounts", name := "clear", desc := "()V" } : Jvm.MethodName)) ∈ lw_g := k_w (List.mem_of_getElem? (i := 286) (by decide +kernel)) (by decide +kernel)
theorem tw_287 : (Jvm.Cond.selects "PositionDesk$PairAmounts" ({ cls := "PositionDesk$PairAmounts", name := "clear", desc := "()V" } : Jvm.MethodName) ({ cls := "PositionDesk$PairAmounts", name := "clear", desc := "()V" } : Jvm.MethodName)) ∈ lw_g := k_w (List.mem_of_getElem? (i := 287) (by decide +kernel)) (by decide +kernel)
theorem tw_288 : (Jvm.Cond.code ({ cls := "PositionDesk$PairAmounts", name := "clear", desc := "()V" } : Jvm.MethodName) prog_4_method_7_code (1 : Nat) (Option.none : Option Jvm.ClassFile.FieldType)) ∈ lw_g := k_w (List.mem_of_getElem? (i := 288) (by decide +kernel)) (by decide +kernel)
theorem tw_289 : (Jvm.Cond.methodLink "PositionDeskLaw" (64 : Nat) ({ cls := "PositionDesk", name := "leg", desc := "(IIIJ)I" } : Jvm.MethodName)) ∈ lw_g := k_w (List.mem_of_getElem? (i := 289) (by decide +kernel)) (by decide +kernel)
theorem tw_290 : (Jvm.Cond.instanceMethod ({ cls := "PositionDesk", name := "leg", desc := "(IIIJ)I" } : Jvm.MethodName)) ∈ lw_g := k_w (List.mem_of_getElem? (i := 290) (by decide +kernel)) (by decide +kernel)
theorem tw_291 : (Jvm.Cond.selects "PositionDesk" ({ cls := "PositionDesk", name := "leg", desc := "(IIIJ)I" } : Jvm.MethodName) ({ cls := "PositionDesk", name := "leg", desc := "(IIIJ)I" } : Jvm.MethodName)) ∈ lw_g := k_w (List.mem_of_getElem? (i := 291) (by decide +kernel)) (by decide +kernel)
theorem tw_292 : (Jvm.Cond.code ({ cls := "PositionDesk", name := "leg", desc := "(IIIJ)I" } : Jvm.MethodName) prog_1_method_12_code (6 : Nat) (Option.some Jvm.ClassFile.FieldType.int)) ∈ lw_g := k_w (List.mem_of_getElem? (i := 292) (by decide +kernel)) (by decide +kernel)
theorem tw_293 : (Jvm.Cond.methodLink "PositionDesk" (134 : Nat) ({ cls := "PositionDesk$Legs", name := "add", desc := "(IIIJ)Z" } : Jvm.MethodName)) ∈ lw_g := k_w (List.mem_of_getElem? (i := 293) (by decide +kernel)) (by decide +kernel)
theorem tw_294 : (Jvm.Cond.instanceMethod ({ cls := "PositionDesk$Legs", name := "add", desc := "(IIIJ)Z" } : Jvm.MethodName)) ∈ lw_g := k_w (List.mem_of_getElem? (i := 294) (by decide +kernel)) (by decide +kernel)
theorem tw_295 : (Jvm.Cond.selects "PositionDesk$Legs" ({ cls := "PositionDesk$Legs", name := "add", desc := "(IIIJ)Z" } : Jvm.MethodName) ({ cls := "PositionDesk$Legs", name := "add", desc := "(IIIJ)Z" } : Jvm.MethodName)) ∈ lw_g := k_w (List.mem_of_getElem? (i := 295) (by decide +kernel)) (by decide +kernel)
theorem tw_296 : (Jvm.Cond.code ({ cls := "PositionDesk$Legs", name := "add", desc := "(IIIJ)Z" } : Jvm.MethodName) prog_3_method_2_code (6 : Nat) (Option.some Jvm.ClassFile.FieldType.boolean)) ∈ lw_g := k_w (List.mem_of_getElem? (i := 296) (by decide +kernel)) (by decide +kernel)
theorem tw_297 : (Jvm.Cond.methodLink "PositionDeskLaw" (69 : Nat) ({ cls := "PositionDesk", name := "holds", desc := "()Z" } : Jvm.MethodName)) ∈ lw_g := k_w (List.mem_of_getElem? (i := 297) (by decide +kernel)) (by decide +kernel)
theorem tw_298 : (Jvm.Cond.instanceMethod ({ cls := "PositionDesk", name := "holds", desc := "()Z" } : Jvm.MethodName)) ∈ lw_g := k_w (List.mem_of_getElem? (i := 298) (by decide +kernel)) (by decide +kernel)
theorem tw_299 : (Jvm.Cond.selects "PositionDesk" ({ cls := "PositionDesk", name := "holds", desc := "()Z" } : Jvm.MethodName) ({ cls := "PositionDesk", name := "holds", desc := "()Z" } : Jvm.MethodName)) ∈ lw_g := k_w (List.mem_of_getElem? (i := 299) (by decide +kernel)) (by decide +kernel)
theorem tw_300 : (Jvm.Cond.code ({ cls := "PositionDesk", name := "holds", desc := "()Z" } : Jvm.MethodName) prog_1_method_13_code (2 : Nat) (Option.some Jvm.ClassFile.FieldType.boolean)) ∈ lw_g := k_w (List.mem_of_getElem? (i := 300) (by decide +kernel)) (by decide +kernel)
theorem tw_301 : (Jvm.Cond.methodLink "PositionDesk" (148 : Nat) ({ cls := "PositionDesk", name := "breaksFloor", desc := "(II)Z" } : Jvm.MethodName)) ∈ lw_g := k_w (List.mem_of_getElem? (i := 301) (by decide +kernel)) (by decide +kernel)
theorem tw_303 : (Jvm.Cond.instanceMethod ({ cls := "PositionDesk", name := "breaksFloor", desc := "(II)Z" } : Jvm.MethodName)) ∈ lw_g := k_w (List.mem_of_getElem? (i := 303) (by decide +kernel)) (by decide +kernel)
theorem tw_304 : (Jvm.Cond.code ({ cls := "PositionDesk", name := "breaksFloor", desc := "(II)Z" } : Jvm.MethodName) prog_1_method_43_code (6 : Nat) (Option.some Jvm.ClassFile.FieldType.boolean)) ∈ lw_g := k_w (List.mem_of_getElem? (i := 304) (by decide +kernel)) (by decide +kernel)
theorem tw_305 : (Jvm.Cond.methodLink "PositionDesk" (174 : Nat) ({ cls := "PositionDesk$Legs", name := "netOf", desc := "(II)J" } : Jvm.MethodName)) ∈ lw_g := k_w (List.mem_of_getElem? (i := 305) (by decide +kernel)) (by decide +kernel)
theorem tw_306 : (Jvm.Cond.instanceMethod ({ cls := "PositionDesk$Legs", name := "netOf", desc := "(II)J" } : Jvm.MethodName)) ∈ lw_g := k_w (List.mem_of_getElem? (i := 306) (by decide +kernel)) (by decide +kernel)
theorem tw_307 : (Jvm.Cond.selects "PositionDesk$Legs" ({ cls := "PositionDesk$Legs", name := "netOf", desc := "(II)J" } : Jvm.MethodName) ({ cls := "PositionDesk$Legs", name := "netOf", desc := "(II)J" } : Jvm.MethodName)) ∈ lw_g := k_w (List.mem_of_getElem? (i := 307) (by decide +kernel)) (by decide +kernel)
theorem tw_308 : (Jvm.Cond.code ({ cls := "PositionDesk$Legs", name := "netOf", desc := "(II)J" } : Jvm.MethodName) prog_3_method_3_code (6 : Nat) (Option.some Jvm.ClassFile.FieldType.long)) ∈ lw_g := k_w (List.mem_of_getElem? (i := 308) (by decide +kernel)) (by decide +kernel)
theorem tw_309 : (Jvm.Cond.methodLink "PositionDesk" (151 : Nat) ({ cls := "PositionDesk", name := "breaksRoom", desc := "(I)Z" } : Jvm.MethodName)) ∈ lw_g := k_w (List.mem_of_getElem? (i := 309) (by decide +kernel)) (by decide +kernel)
theorem tw_311 : (Jvm.Cond.instanceMethod ({ cls := "PositionDesk", name := "breaksRoom", desc := "(I)Z" } : Jvm.MethodName)) ∈ lw_g := k_w (List.mem_of_getElem? (i := 311) (by decide +kernel)) (by decide +kernel)
theorem tw_312 : (Jvm.Cond.code ({ cls := "PositionDesk", name := "breaksRoom", desc := "(I)Z" } : Jvm.MethodName) prog_1_method_44_code (5 : Nat) (Option.some Jvm.ClassFile.FieldType.boolean)) ∈ lw_g := k_w (List.mem_of_getElem? (i := 312) (by decide +kernel)) (by decide +kernel)
theorem tw_313 : (Jvm.Cond.methodLink "PositionDesk" (177 : Nat) ({ cls := "PositionDesk$Legs", name := "paidFrom", desc := "(III)J" } : Jvm.MethodName)) ∈ lw_g := k_w (List.mem_of_getElem? (i := 313) (by decide +kernel)) (by decide +kernel)
theorem tw_314 : (Jvm.Cond.instanceMethod ({ cls := "PositionDesk$Legs", name := "paidFrom", desc := "(III)J" } : Jvm.MethodName)) ∈ lw_g := k_w (List.mem_of_getElem? (i := 314) (by decide +kernel)) (by decide +kernel)
theorem tw_315 : (Jvm.Cond.selects "PositionDesk$Legs" ({ cls := "PositionDesk$Legs", name := "paidFrom", desc := "(III)J" } : Jvm.MethodName) ({ cls := "PositionDesk$Legs", name := "paidFrom", desc := "(III)J" } : Jvm.MethodName)) ∈ lw_g := k_w (List.mem_of_getElem? (i := 315) (by decide +kernel)) (by decide +kernel)
theorem tw_316 : (Jvm.Cond.code ({ cls := "PositionDesk$Legs", name := "paidFrom", desc := "(III)J" } : Jvm.MethodName) prog_3_method_4_code (7 : Nat) (Option.some Jvm.ClassFile.FieldType.long)) ∈ lw_g := k_w (List.mem_of_getElem? (i := 316) (by decide +kernel)) (by decide +kernel)
theorem tw_317 : (Jvm.Cond.methodLink "PositionDesk" (184 : Nat) ({ cls := "PositionDesk$PairAmounts", name := "has", desc := "(I)Z" } : Jvm.MethodName)) ∈ lw_g := k_w (List.mem_of_getElem? (i := 317) (by decide +kernel)) (by decide +kernel)
theorem tw_318 : (Jvm.Cond.instanceMethod ({ cls := "PositionDesk$PairAmounts", name := "has", desc := "(I)Z" } : Jvm.MethodName)) ∈ lw_g := k_w (List.mem_of_getElem? (i := 318) (by decide +kernel)) (by decide +kernel)
theorem tw_319 : (Jvm.Cond.selects "PositionDesk$PairAmounts" ({ cls := "PositionDesk$PairAmounts", name := "has", desc := "(I)Z" } : Jvm.MethodName) ({ cls := "PositionDesk$PairAmounts", name := "has", desc := "(I)Z" } : Jvm.MethodName)) ∈ lw_g := k_w (List.mem_of_getElem? (i := 319) (by decide +kernel)) (by decide +kernel)
theorem tw_320 : (Jvm.Cond.code ({ cls := "PositionDesk$PairAmounts", name := "has", desc := "(I)Z" } : Jvm.MethodName) prog_4_method_3_code (2 : Nat) (Option.some Jvm.ClassFile.FieldType.boolean)) ∈ lw_g := k_w (List.mem_of_getElem? (i := 320) (by decide +kernel)) (by decide +kernel)
theorem tw_321 : (Jvm.Cond.methodLink "PositionDesk" (180 : Nat) ({ cls := "PositionDesk", name := "roomOf", desc := "(I)J" } : Jvm.MethodName)) ∈ lw_g := k_w (List.mem_of_getElem? (i := 321) (by decide +kernel)) (by decide +kernel)
theorem tw_323 : (Jvm.Cond.instanceMethod ({ cls := "PositionDesk", name := "roomOf", desc := "(I)J" } : Jvm.MethodName)) ∈ lw_g := k_w (List.mem_of_getElem? (i := 323) (by decide +kernel)) (by decide +kernel)
theorem tw_324 : (Jvm.Cond.code ({ cls := "PositionDesk", name := "roomOf", desc := "(I)J" } : Jvm.MethodName) prog_1_method_42_code (2 : Nat) (Option.some Jvm.ClassFile.FieldType.long)) ∈ lw_g := k_w (List.mem_of_getElem? (i := 324) (by decide +kernel)) (by decide +kernel)
theorem tw_325 : (Jvm.Cond.methodLink "PositionDeskLaw" (74 : Nat) ({ cls := "PositionDesk", name := "post", desc := "()Z" } : Jvm.MethodName)) ∈ lw_g := k_w (List.mem_of_getElem? (i := 325) (by decide +kernel)) (by decide +kernel)
theorem tw_326 : (Jvm.Cond.instanceMethod ({ cls := "PositionDesk", name := "post", desc := "()Z" } : Jvm.MethodName)) ∈ lw_g := k_w (List.mem_of_getElem? (i := 326) (by decide +kernel)) (by decide +kernel)
theorem tw_327 : (Jvm.Cond.selects "PositionDesk" ({ cls := "PositionDesk", name := "post", desc := "()Z" } : Jvm.MethodName) ({ cls := "PositionDesk", name := "post", desc := "()Z" } : Jvm.MethodName)) ∈ lw_g := k_w (List.mem_of_getElem? (i := 327) (by decide +kernel)) (by decide +kernel)
theorem tw_328 : (Jvm.Cond.code ({ cls := "PositionDesk", name := "post", desc := "()Z" } : Jvm.MethodName) prog_1_method_14_code (2 : Nat) (Option.some Jvm.ClassFile.FieldType.boolean)) ∈ lw_g := k_w (List.mem_of_getElem? (i := 328) (by decide +kernel)) (by decide +kernel)
theorem tw_329 : (Jvm.Cond.methodLink "PositionDesk" (154 : Nat) ({ cls := "PositionDesk", name := "holds", desc := "()Z" } : Jvm.MethodName)) ∈ lw_g := k_w (List.mem_of_getElem? (i := 329) (by decide +kernel)) (by decide +kernel)
theorem tw_330 : (Jvm.Cond.methodLink "PositionDesk" (158 : Nat) ({ cls := "PositionDesk", name := "doLeg", desc := "(I)V" } : Jvm.MethodName)) ∈ lw_g := k_w (List.mem_of_getElem? (i := 330) (by decide +kernel)) (by decide +kernel)
theorem tw_332 : (Jvm.Cond.instanceMethod ({ cls := "PositionDesk", name := "doLeg", desc := "(I)V" } : Jvm.MethodName)) ∈ lw_g := k_w (List.mem_of_getElem? (i := 332) (by decide +kernel)) (by decide +kernel)
theorem tw_333 : (Jvm.Cond.code ({ cls := "PositionDesk", name := "doLeg", desc := "(I)V" } : Jvm.MethodName) prog_1_method_45_code (3 : Nat) (Option.none : Option Jvm.ClassFile.FieldType)) ∈ lw_g := k_w (List.mem_of_getElem? (i := 333) (by decide +kernel)) (by decide +kernel)
theorem tw_334 : (Jvm.Cond.methodLink "PositionDesk" (230 : Nat) ({ cls := "PositionDesk", name := "addPaid", desc := "(IIJ)V" } : Jvm.MethodName)) ∈ lw_g := k_w (List.mem_of_getElem? (i := 334) (by decide +kernel)) (by decide +kernel)
theorem tw_336 : (Jvm.Cond.instanceMethod ({ cls := "PositionDesk", name := "addPaid", desc := "(IIJ)V" } : Jvm.MethodName)) ∈ lw_g := k_w (List.mem_of_getElem? (i := 336) (by decide +kernel)) (by decide +kernel)
theorem tw_337 : (Jvm.Cond.code ({ cls := "PositionDesk", name := "addPaid", desc := "(IIJ)V" } : Jvm.MethodName) prog_1_method_41_code (6 : Nat) (Option.none : Option Jvm.ClassFile.FieldType)) ∈ lw_g := k_w (List.mem_of_getElem? (i := 337) (by decide +kernel)) (by decide +kernel)
theorem tw_338 : (Jvm.Cond.methodLink "PositionDeskLaw" (78 : Nat) ({ cls := "PositionDesk", name := "drop", desc := "()I" } : Jvm.MethodName)) ∈ lw_g := k_w (List.mem_of_getElem? (i := 338) (by decide +kernel)) (by decide +kernel)
theorem tw_339 : (Jvm.Cond.instanceMethod ({ cls := "PositionDesk", name := "drop", desc := "()I" } : Jvm.MethodName)) ∈ lw_g := k_w (List.mem_of_getElem? (i := 339) (by decide +kernel)) (by decide +kernel)
theorem tw_340 : (Jvm.Cond.selects "PositionDesk" ({ cls := "PositionDesk", name := "drop", desc := "()I" } : Jvm.MethodName) ({ cls := "PositionDesk", name := "drop", desc := "()I" } : Jvm.MethodName)) ∈ lw_g := k_w (List.mem_of_getElem? (i := 340) (by decide +kernel)) (by decide +kernel)
theorem tw_341 : (Jvm.Cond.code ({ cls := "PositionDesk", name := "drop", desc := "()I" } : Jvm.MethodName) prog_1_method_15_code (2 : Nat) (Option.some Jvm.ClassFile.FieldType.int)) ∈ lw_g := k_w (List.mem_of_getElem? (i := 341) (by decide +kernel)) (by decide +kernel)
theorem tw_342 : (Jvm.Cond.methodLink "PositionDeskLaw" (82 : Nat) ({ cls := "PositionDesk", name := "net", desc := "(I)J" } : Jvm.MethodName)) ∈ lw_g := k_w (List.mem_of_getElem? (i := 342) (by decide +kernel)) (by decide +kernel)
theorem tw_343 : (Jvm.Cond.instanceMethod ({ cls := "PositionDesk", name := "net", desc := "(I)J" } : Jvm.MethodName)) ∈ lw_g := k_w (List.mem_of_getElem? (i := 343) (by decide +kernel)) (by decide +kernel)
theorem tw_344 : (Jvm.Cond.selects "PositionDesk" ({ cls := "PositionDesk", name := "net", desc := "(I)J" } : Jvm.MethodName) ({ cls := "PositionDesk", name := "net", desc := "(I)J" } : Jvm.MethodName)) ∈ lw_g := k_w (List.mem_of_getElem? (i := 344) (by decide +kernel)) (by decide +kernel)
theorem tw_345 : (Jvm.Cond.code ({ cls := "PositionDesk", name := "net", desc := "(I)J" } : Jvm.MethodName) prog_1_method_16_code (3 : Nat) (Option.some Jvm.ClassFile.FieldType.long)) ∈ lw_g := k_w (List.mem_of_getElem? (i := 345) (by decide +kernel)) (by decide +kernel)
theorem tw_346 : (Jvm.Cond.methodLink "PositionDesk" (161 : Nat) ({ cls := "PositionDesk", name := "isThere", desc := "(I)Z" } : Jvm.MethodName)) ∈ lw_g := k_w (List.mem_of_getElem? (i := 346) (by decide +kernel)) (by decide +kernel)
theorem tw_347 : (Jvm.Cond.instanceMethod ({ cls := "PositionDesk", name := "isThere", desc := "(I)Z" } : Jvm.MethodName)) ∈ lw_g := k_w (List.mem_of_getElem? (i := 347) (by decide +kernel)) (by decide +kernel)
theorem tw_348 : (Jvm.Cond.selects "PositionDesk" ({ cls := "PositionDesk", name := "isThere", desc := "(I)Z" } : Jvm.MethodName) ({ cls := "PositionDesk", name := "isThere", desc := "(I)Z" } : Jvm.MethodName)) ∈ lw_g := k_w (List.mem_of_getElem? (i := 348) (by decide +kernel)) (by decide +kernel)
theorem tw_349 : (Jvm.Cond.code ({ cls := "PositionDesk", name := "isThere", desc := "(I)Z" } : Jvm.MethodName) prog_1_method_19_code (2 : Nat) (Option.some Jvm.ClassFile.FieldType.boolean)) ∈ lw_g := k_w (List.mem_of_getElem? (i := 349) (by decide +kernel)) (by decide +kernel)
theorem tw_350 : (Jvm.Cond.methodLink "PositionDesk" (164 : Nat) ({ cls := "PositionDesk", name := "isPosition", desc := "(I)Z" } : Jvm.MethodName)) ∈ lw_g := k_w (List.mem_of_getElem? (i := 350) (by decide +kernel)) (by decide +kernel)
theorem tw_352 : (Jvm.Cond.instanceMethod ({ cls := "PositionDesk", name := "isPosition", desc := "(I)Z" } : Jvm.MethodName)) ∈ lw_g := k_w (List.mem_of_getElem? (i := 352) (by decide +kernel)) (by decide +kernel)
theorem tw_353 : (Jvm.Cond.code ({ cls := "PositionDesk", name := "isPosition", desc := "(I)Z" } : Jvm.MethodName) prog_1_method_25_code (2 : Nat) (Option.some Jvm.ClassFile.FieldType.boolean)) ∈ lw_g := k_w (List.mem_of_getElem? (i := 353) (by decide +kernel)) (by decide +kernel)
theorem tw_354 : (Jvm.Cond.methodLink "PositionDesk" (171 : Nat) ({ cls := "PositionDesk", name := "assetOf", desc := "(I)I" } : Jvm.MethodName)) ∈ lw_g := k_w (List.mem_of_getElem? (i := 354) (by decide +kernel)) (by decide +kernel)
theorem tw_356 : (Jvm.Cond.instanceMethod ({ cls := "PositionDesk", name := "assetOf", desc := "(I)I" } : Jvm.MethodName)) ∈ lw_g := k_w (List.mem_of_getElem? (i := 356) (by decide +kernel)) (by decide +kernel)
theorem tw_357 : (Jvm.Cond.code ({ cls := "PositionDesk", name := "assetOf", desc := "(I)I" } : Jvm.MethodName) prog_1_method_27_code (2 : Nat) (Option.some Jvm.ClassFile.FieldType.int)) ∈ lw_g := k_w (List.mem_of_getElem? (i := 357) (by decide +kernel)) (by decide +kernel)
theorem tw_358 : (Jvm.Cond.methodLink "PositionDesk" (167 : Nat) ({ cls := "PositionDesk", name := "ownerOf", desc := "(I)I" } : Jvm.MethodName)) ∈ lw_g := k_w (List.mem_of_getElem? (i := 358) (by decide +kernel)) (by decide +kernel)
theorem tw_360 : (Jvm.Cond.instanceMethod ({ cls := "PositionDesk", name := "ownerOf", desc := "(I)I" } : Jvm.MethodName)) ∈ lw_g := k_w (List.mem_of_getElem? (i := 360) (by decide +kernel)) (by decide +kernel)
theorem tw_361 : (Jvm.Cond.code ({ cls := "PositionDesk", name := "ownerOf", desc := "(I)I" } : Jvm.MethodName) prog_1_method_26_code (2 : Nat) (Option.some Jvm.ClassFile.FieldType.int)) ∈ lw_g := k_w (List.mem_of_getElem? (i := 361) (by decide +kernel)) (by decide +kernel)
theorem tw_362 : (Jvm.Cond.methodLink "PositionDeskLaw" (87 : Nat) ({ cls := "PositionDesk", name := "value", desc := "(I)J" } : Jvm.MethodName)) ∈ lw_g := k_w (List.mem_of_getElem? (i := 362) (by decide +kernel)) (by decide +kernel)
theorem tw_363 : (Jvm.Cond.instanceMethod ({ cls := "PositionDesk", name := "value", desc := "(I)J" } : Jvm.MethodName)) ∈ lw_g := k_w (List.mem_of_getElem? (i := 363) (by decide +kernel)) (by decide +kernel)
theorem tw_364 : (Jvm.Cond.selects "PositionDesk" ({ cls := "PositionDesk", name := "value", desc := "(I)J" } : Jvm.MethodName) ({ cls := "PositionDesk", name := "value", desc := "(I)J" } : Jvm.MethodName)) ∈ lw_g := k_w (List.mem_of_getElem? (i := 364) (by decide +kernel)) (by decide +kernel)
theorem tw_365 : (Jvm.Cond.code ({ cls := "PositionDesk", name := "value", desc := "(I)J" } : Jvm.MethodName) prog_1_method_17_code (3 : Nat) (Option.some Jvm.ClassFile.FieldType.long)) ∈ lw_g := k_w (List.mem_of_getElem? (i := 365) (by decide +kernel)) (by decide +kernel)
theorem tw_366 : (Jvm.Cond.methodLink "PositionDeskLaw" (91 : Nat) ({ cls := "PositionDesk", name := "floor", desc := "(I)J" } : Jvm.MethodName)) ∈ lw_g := k_w (List.mem_of_getElem? (i := 366) (by decide +kernel)) (by decide +kernel)
theorem tw_367 : (Jvm.Cond.instanceMethod ({ cls := "PositionDesk", name := "floor", desc := "(I)J" } : Jvm.MethodName)) ∈ lw_g := k_w (List.mem_of_getElem? (i := 367) (by decide +kernel)) (by decide +kernel)
theorem tw_368 : (Jvm.Cond.selects "PositionDesk" ({ cls := "PositionDesk", name := "floor", desc := "(I)J" } : Jvm.MethodName) ({ cls := "PositionDesk", name := "floor", desc := "(I)J" } : Jvm.MethodName)) ∈ lw_g := k_w (List.mem_of_getElem? (i := 368) (by decide +kernel)) (by decide +kernel)
theorem tw_369 : (Jvm.Cond.code ({ cls := "PositionDesk", name := "floor", desc := "(I)J" } : Jvm.MethodName) prog_1_method_18_code (3 : Nat) (Option.some Jvm.ClassFile.FieldType.long)) ∈ lw_g := k_w (List.mem_of_getElem? (i := 369) (by decide +kernel)) (by decide +kernel)
theorem tw_370 : (Jvm.Cond.methodLink "PositionDeskLaw" (95 : Nat) ({ cls := "PositionDesk", name := "isThere", desc := "(I)Z" } : Jvm.MethodName)) ∈ lw_g := k_w (List.mem_of_getElem? (i := 370) (by decide +kernel)) (by decide +kernel)
theorem tw_371 : (Jvm.Cond.methodLink "PositionDeskLaw" (100 : Nat) ({ cls := "PositionDesk", name := "credit", desc := "(I)J" } : Jvm.MethodName)) ∈ lw_g := k_w (List.mem_of_getElem? (i := 371) (by decide +kernel)) (by decide +kernel)
theorem tw_372 : (Jvm.Cond.instanceMethod ({ cls := "PositionDesk", name := "credit", desc := "(I)J" } : Jvm.MethodName)) ∈ lw_g := k_w (List.mem_of_getElem? (i := 372) (by decide +kernel)) (by decide +kernel)
theorem tw_373 : (Jvm.Cond.selects "PositionDesk" ({ cls := "PositionDesk", name := "credit", desc := "(I)J" } : Jvm.MethodName) ({ cls := "PositionDesk", name := "credit", desc := "(I)J" } : Jvm.MethodName)) ∈ lw_g := k_w (List.mem_of_getElem? (i := 373) (by decide +kernel)) (by decide +kernel)
theorem tw_374 : (Jvm.Cond.code ({ cls := "PositionDesk", name := "credit", desc := "(I)J" } : Jvm.MethodName) prog_1_method_20_code (2 : Nat) (Option.some Jvm.ClassFile.FieldType.long)) ∈ lw_g := k_w (List.mem_of_getElem? (i := 374) (by decide +kernel)) (by decide +kernel)
theorem tw_375 : (Jvm.Cond.methodLink "PositionDeskLaw" (9 : Nat) ({ cls := "PositionDeskLaw", name := "cell", desc := "([II)I" } : Jvm.MethodName)) ∈ lw_g := k_w (List.mem_of_getElem? (i := 375) (by decide +kernel)) (by decide +kernel)
theorem tw_376 : (Jvm.Cond.static ({ cls := "PositionDeskLaw", name := "cell", desc := "([II)I" } : Jvm.MethodName)) ∈ lw_g := k_w (List.mem_of_getElem? (i := 376) (by decide +kernel)) (by decide +kernel)
theorem tw_377 : (Jvm.Cond.code ({ cls := "PositionDeskLaw", name := "cell", desc := "([II)I" } : Jvm.MethodName) method_2_code (2 : Nat) (Option.some Jvm.ClassFile.FieldType.int)) ∈ lw_g := k_w (List.mem_of_getElem? (i := 377) (by decide +kernel)) (by decide +kernel)
theorem tw_378 : (Jvm.Cond.classLink "PositionDeskLaw" (18 : Nat) "PositionDeskModel") ∈ lw_g := k_w (List.mem_of_getElem? (i := 378) (by decide +kernel)) (by decide +kernel)
theorem tw_379 : (Jvm.Cond.instantiable "PositionDeskModel" (26 : Nat)) ∈ lw_g := k_w (List.mem_of_getElem? (i := 379) (by decide +kernel)) (by decide +kernel)
theorem tw_380 : (Jvm.Cond.methodLink "PositionDeskLaw" (20 : Nat) ({ cls := "PositionDeskModel", name := "<init>", desc := "(II)V" } : Jvm.MethodName)) ∈ lw_g := k_w (List.mem_of_getElem? (i := 380) (by decide +kernel)) (by decide +kernel)
theorem tw_381 : (Jvm.Cond.instanceMethod ({ cls := "PositionDeskModel", name := "<init>", desc := "(II)V" } : Jvm.MethodName)) ∈ lw_g := k_w (List.mem_of_getElem? (i := 381) (by decide +kernel)) (by decide +kernel)
theorem tw_382 : (Jvm.Cond.code ({ cls := "PositionDeskModel", name := "<init>", desc := "(II)V" } : Jvm.MethodName) prog_6_method_1_code (5 : Nat) (Option.none : Option Jvm.ClassFile.FieldType)) ∈ lw_g := k_w (List.mem_of_getElem? (i := 382) (by decide +kernel)) (by decide +kernel)
theorem tw_383 : (Jvm.Cond.methodLink "PositionDeskModel" (1 : Nat) ({ cls := "java/lang/Object", name := "<init>", desc := "()V" } : Jvm.MethodName)) ∈ lw_g := k_w (List.mem_of_getElem? (i := 383) (by decide +kernel)) (by decide +kernel)
theorem tw_384 : (Jvm.Cond.fieldLink "PositionDeskModel" (66 : Nat) "PositionDeskModel" "participants" "I") ∈ lw_g := k_w (List.mem_of_getElem? (i := 384) (by decide +kernel)) (by decide +kernel)
theorem tw_385 : (Jvm.Cond.fieldLink "PositionDeskModel" (69 : Nat) "PositionDeskModel" "width" "I") ∈ lw_g := k_w (List.mem_of_getElem? (i := 385) (by decide +kernel)) (by decide +kernel)
theorem tw_386 : (Jvm.Cond.fieldLink "PositionDeskModel" (85 : Nat) "PositionDeskModel" "assets" "I") ∈ lw_g := k_w (List.mem_of_getElem? (i := 386) (by decide +kernel)) (by decide +kernel)
theorem tw_387 : (Jvm.Cond.fieldLink "PositionDeskModel" (7 : Nat) "PositionDeskModel" "money" "I") ∈ lw_g := k_w (List.mem_of_getElem? (i := 387) (by decide +kernel)) (by decide +kernel)
theorem tw_388 : (Jvm.Cond.fieldLink "PositionDeskModel" (13 : Nat) "PositionDeskModel" "sort" "[I") ∈ lw_g := k_w (List.mem_of_getElem? (i := 388) (by decide +kernel)) (by decide +kernel)
theorem tw_389 : (Jvm.Cond.fieldLink "PositionDeskModel" (17 : Nat) "PositionDeskModel" "price" "[J") ∈ lw_g := k_w (List.mem_of_getElem? (i := 389) (by decide +kernel)) (by decide +kernel)
theorem tw_390 : (Jvm.Cond.fieldLink "PositionDeskModel" (21 : Nat) "PositionDeskModel" "haircut" "[I") ∈ lw_g := k_w (List.mem_of_getElem? (i := 390) (by decide +kernel)) (by decide +kernel)
theorem tw_391 : (Jvm.Cond.fieldLink "PositionDeskModel" (72 : Nat) "PositionDeskModel" "moves" "I") ∈ lw_g := k_w (List.mem_of_getElem? (i := 391) (by decide +kernel)) (by decide +kernel)
theorem tw_392 : (Jvm.Cond.fieldLink "PositionDeskModel" (24 : Nat) "PositionDeskModel" "moveAt" "[I") ∈ lw_g := k_w (List.mem_of_getElem? (i := 392) (by decide +kernel)) (by decide +kernel)
theorem tw_393 : (Jvm.Cond.fieldLink "PositionDeskModel" (27 : Nat) "PositionDeskModel" "moveBy" "[J") ∈ lw_g := k_w (List.mem_of_getElem? (i := 393) (by decide +kernel)) (by decide +kernel)
theorem tw_394 : (Jvm.Cond.fieldLink "PositionDeskModel" (78 : Nat) "PositionDeskModel" "payments" "I") ∈ lw_g := k_w (List.mem_of_getElem? (i := 394) (by decide +kernel)) (by decide +kernel)
theorem tw_395 : (Jvm.Cond.fieldLink "PositionDeskModel" (30 : Nat) "PositionDeskModel" "payer" "[I") ∈ lw_g := k_w (List.mem_of_getElem? (i := 395) (by decide +kernel)) (by decide +kernel)
theorem tw_396 : (Jvm.Cond.fieldLink "PositionDeskModel" (33 : Nat) "PositionDeskModel" "payee" "[I") ∈ lw_g := k_w (List.mem_of_getElem? (i := 396) (by decide +kernel)) (by decide +kernel)
theorem tw_397 : (Jvm.Cond.fieldLink "PositionDeskModel" (36 : Nat) "PositionDeskModel" "paid" "[J") ∈ lw_g := k_w (List.mem_of_getElem? (i := 397) (by decide +kernel)) (by decide +kernel)
theorem tw_398 : (Jvm.Cond.fieldLink "PositionDeskModel" (75 : Nat) "PositionDeskModel" "pledges" "I") ∈ lw_g := k_w (List.mem_of_getElem? (i := 398) (by decide +kernel)) (by decide +kernel)
theorem tw_399 : (Jvm.Cond.fieldLink "PositionDeskModel" (39 : Nat) "PositionDeskModel" "pledgeAt" "[I") ∈ lw_g := k_w (List.mem_of_getElem? (i := 399) (by decide +kernel)) (by decide +kernel)
theorem tw_400 : (Jvm.Cond.fieldLink "PositionDeskModel" (42 : Nat) "PositionDeskModel" "pledgeBy" "[J") ∈ lw_g := k_w (List.mem_of_getElem? (i := 400) (by decide +kernel)) (by decide +kernel)
theorem tw_401 : (Jvm.Cond.fieldLink "PositionDeskModel" (109 : Nat) "PositionDeskModel" "limits" "I") ∈ lw_g := k_w (List.mem_of_getElem? (i := 401) (by decide +kernel)) (by decide +kernel)
theorem tw_402 : (Jvm.Cond.fieldLink "PositionDeskModel" (45 : Nat) "PositionDeskModel" "limitFrom" "[I") ∈ lw_g := k_w (List.mem_of_getElem? (i := 402) (by decide +kernel)) (by decide +kernel)
theorem tw_403 : (Jvm.Cond.fieldLink "PositionDeskModel" (48 : Nat) "PositionDeskModel" "limitTo" "[I") ∈ lw_g := k_w (List.mem_of_getElem? (i := 403) (by decide +kernel)) (by decide +kernel)
theorem tw_404 : (Jvm.Cond.fieldLink "PositionDeskModel" (51 : Nat) "PositionDeskModel" "limitOf" "[J") ∈ lw_g := k_w (List.mem_of_getElem? (i := 404) (by decide +kernel)) (by decide +kernel)
theorem tw_405 : (Jvm.Cond.fieldLink "PositionDeskModel" (160 : Nat) "PositionDeskModel" "legs" "I") ∈ lw_g := k_w (List.mem_of_getElem? (i := 405) (by decide +kernel)) (by decide +kernel)
theorem tw_406 : (Jvm.Cond.fieldLink "PositionDeskModel" (54 : Nat) "PositionDeskModel" "legFrom" "[I") ∈ lw_g := k_w (List.mem_of_getElem? (i := 406) (by decide +kernel)) (by decide +kernel)
theorem tw_407 : (Jvm.Cond.fieldLink "PositionDeskModel" (57 : Nat) "PositionDeskModel" "legTo" "[I") ∈ lw_g := k_w (List.mem_of_getElem? (i := 407) (by decide +kernel)) (by decide +kernel)
theorem tw_408 : (Jvm.Cond.fieldLink "PositionDeskModel" (60 : Nat) "PositionDeskModel" "legAsset" "[I") ∈ lw_g := k_w (List.mem_of_getElem? (i := 408) (by decide +kernel)) (by decide +kernel)
theorem tw_409 : (Jvm.Cond.fieldLink "PositionDeskModel" (63 : Nat) "PositionDeskModel" "legBy" "[J") ∈ lw_g := k_w (List.mem_of_getElem? (i := 409) (by decide +kernel)) (by decide +kernel)
theorem tw_463 : (Jvm.Cond.methodLink "PositionDeskLaw" (99 : Nat) ({ cls := "PositionDeskModel", name := "isThere", desc := "(I)Z" } : Jvm.MethodName)) ∈ lw_g := k_w (List.mem_of_getElem? (i := 463) (by decide +kernel)) (by decide +kernel)
theorem tw_464 : (Jvm.Cond.instanceMethod ({ cls := "PositionDeskModel", name := "isThere", desc := "(I)Z" } : Jvm.MethodName)) ∈ lw_g := k_w (List.mem_of_getElem? (i := 464) (by decide +kernel)) (by decide +kernel)
theorem tw_465 : (Jvm.Cond.selects "PositionDeskModel" ({ cls := "PositionDeskModel", name := "isThere", desc := "(I)Z" } : Jvm.MethodName) ({ cls := "PositionDeskModel", name := "isThere", desc := "(I)Z" } : Jvm.MethodName)) ∈ lw_g := k_w (List.mem_of_getElem? (i := 465) (by decide +kernel)) (by decide +kernel)
theorem tw_466 : (Jvm.Cond.code ({ cls := "PositionDeskModel", name := "isThere", desc := "(I)Z" } : Jvm.MethodName) prog_6_method_16_code (2 : Nat) (Option.some Jvm.ClassFile.FieldType.boolean)) ∈ lw_g := k_w (List.mem_of_getElem? (i := 466) (by decide +kernel)) (by decide +kernel)
theorem tw_467 : (Jvm.Cond.methodLink "PositionDeskModel" (120 : Nat) ({ cls := "PositionDeskModel", name := "isRoom", desc := "(I)Z" } : Jvm.MethodName)) ∈ lw_g := k_w (List.mem_of_getElem? (i := 467) (by decide +kernel)) (by decide +kernel)
theorem tw_469 : (Jvm.Cond.instanceMethod ({ cls := "PositionDeskModel", name := "isRoom", desc := "(I)Z" } : Jvm.MethodName)) ∈ lw_g := k_w (List.mem_of_getElem? (i := 469) (by decide +kernel)) (by decide +kernel)
theorem tw_470 : (Jvm.Cond.code ({ cls := "PositionDeskModel", name := "isRoom", desc := "(I)Z" } : Jvm.MethodName) prog_6_method_15_code (2 : Nat) (Option.some Jvm.ClassFile.FieldType.boolean)) ∈ lw_g := k_w (List.mem_of_getElem? (i := 470) (by decide +kernel)) (by decide +kernel)
theorem tw_471 : (Jvm.Cond.methodLink "PositionDeskModel" (112 : Nat) ({ cls := "PositionDeskModel", name := "pair", desc := "(I)I" } : Jvm.MethodName)) ∈ lw_g := k_w (List.mem_of_getElem? (i := 471) (by decide +kernel)) (by decide +kernel)
theorem tw_473 : (Jvm.Cond.instanceMethod ({ cls := "PositionDeskModel", name := "pair", desc := "(I)I" } : Jvm.MethodName)) ∈ lw_g := k_w (List.mem_of_getElem? (i := 473) (by decide +kernel)) (by decide +kernel)
theorem tw_474 : (Jvm.Cond.code ({ cls := "PositionDeskModel", name := "pair", desc := "(I)I" } : Jvm.MethodName) prog_6_method_14_code (2 : Nat) (Option.some Jvm.ClassFile.FieldType.int)) ∈ lw_g := k_w (List.mem_of_getElem? (i := 474) (by decide +kernel)) (by decide +kernel)
theorem tw_475 : (Jvm.Cond.methodLink "PositionDeskModel" (116 : Nat) ({ cls := "PositionDeskModel", name := "limitAt", desc := "(II)I" } : Jvm.MethodName)) ∈ lw_g := k_w (List.mem_of_getElem? (i := 475) (by decide +kernel)) (by decide +kernel)
theorem tw_477 : (Jvm.Cond.instanceMethod ({ cls := "PositionDeskModel", name := "limitAt", desc := "(II)I" } : Jvm.MethodName)) ∈ lw_g := k_w (List.mem_of_getElem? (i := 477) (by decide +kernel)) (by decide +kernel)
theorem tw_478 : (Jvm.Cond.code ({ cls := "PositionDeskModel", name := "limitAt", desc := "(II)I" } : Jvm.MethodName) prog_6_method_13_code (5 : Nat) (Option.some Jvm.ClassFile.FieldType.int)) ∈ lw_g := k_w (List.mem_of_getElem? (i := 478) (by decide +kernel)) (by decide +kernel)
theorem tw_479 : (Jvm.Cond.methodLink "PositionDeskLaw" (25 : Nat) ({ cls := "PositionDeskModel", name := "currency", desc := "()I" } : Jvm.MethodName)) ∈ lw_g := k_w (List.mem_of_getElem? (i := 479) (by decide +kernel)) (by decide +kernel)
theorem tw_480 : (Jvm.Cond.instanceMethod ({ cls := "PositionDeskModel", name := "currency", desc := "()I" } : Jvm.MethodName)) ∈ lw_g := k_w (List.mem_of_getElem? (i := 480) (by decide +kernel)) (by decide +kernel)
theorem tw_481 : (Jvm.Cond.selects "PositionDeskModel" ({ cls := "PositionDeskModel", name := "currency", desc := "()I" } : Jvm.MethodName) ({ cls := "PositionDeskModel", name := "currency", desc := "()I" } : Jvm.MethodName)) ∈ lw_g := k_w (List.mem_of_getElem? (i := 481) (by decide +kernel)) (by decide +kernel)
theorem tw_482 : (Jvm.Cond.code ({ cls := "PositionDeskModel", name := "currency", desc := "()I" } : Jvm.MethodName) prog_6_method_17_code (1 : Nat) (Option.some Jvm.ClassFile.FieldType.int)) ∈ lw_g := k_w (List.mem_of_getElem? (i := 482) (by decide +kernel)) (by decide +kernel)
theorem tw_483 : (Jvm.Cond.methodLink "PositionDeskLaw" (32 : Nat) ({ cls := "PositionDeskModel", name := "security", desc := "(JI)I" } : Jvm.MethodName)) ∈ lw_g := k_w (List.mem_of_getElem? (i := 483) (by decide +kernel)) (by decide +kernel)
theorem tw_484 : (Jvm.Cond.instanceMethod ({ cls := "PositionDeskModel", name := "security", desc := "(JI)I" } : Jvm.MethodName)) ∈ lw_g := k_w (List.mem_of_getElem? (i := 484) (by decide +kernel)) (by decide +kernel)
theorem tw_485 : (Jvm.Cond.selects "PositionDeskModel" ({ cls := "PositionDeskModel", name := "security", desc := "(JI)I" } : Jvm.MethodName) ({ cls := "PositionDeskModel", name := "security", desc := "(JI)I" } : Jvm.MethodName)) ∈ lw_g := k_w (List.mem_of_getElem? (i := 485) (by decide +kernel)) (by decide +kernel)
theorem tw_486 : (Jvm.Cond.code ({ cls := "PositionDeskModel", name := "security", desc := "(JI)I" } : Jvm.MethodName) prog_6_method_19_code (4 : Nat) (Option.some Jvm.ClassFile.FieldType.int)) ∈ lw_g := k_w (List.mem_of_getElem? (i := 486) (by decide +kernel)) (by decide +kernel)
theorem tw_487 : (Jvm.Cond.methodLink "PositionDeskModel" (124 : Nat) ({ cls := "PositionDeskModel", name := "isPrice", desc := "(JI)Z" } : Jvm.MethodName)) ∈ lw_g := k_w (List.mem_of_getElem? (i := 487) (by decide +kernel)) (by decide +kernel)
theorem tw_488 : (Jvm.Cond.static ({ cls := "PositionDeskModel", name := "isPrice", desc := "(JI)Z" } : Jvm.MethodName)) ∈ lw_g := k_w (List.mem_of_getElem? (i := 488) (by decide +kernel)) (by decide +kernel)
theorem tw_489 : (Jvm.Cond.code ({ cls := "PositionDeskModel", name := "isPrice", desc := "(JI)Z" } : Jvm.MethodName) prog_6_method_18_code (3 : Nat) (Option.some Jvm.ClassFile.FieldType.boolean)) ∈ lw_g := k_w (List.mem_of_getElem? (i := 489) (by decide +kernel)) (by decide +kernel)
theorem tw_490 : (Jvm.Cond.constantLong "PositionDeskModel" (107 : Nat) (999999999999999 : Int64)) ∈ lw_g := k_w (List.mem_of_getElem? (i := 490) (by decide +kernel)) (by decide +kernel)
theorem tw_491 : (Jvm.Cond.methodLink "PositionDeskLaw" (37 : Nat) ({ cls := "PositionDeskModel", name := "price", desc := "(IJI)I" } : Jvm.MethodName)) ∈ lw_g := k_w (List.mem_of_getElem? (i := 491) (by decide +kernel)) (by decide +kernel)
theorem tw_492 : (Jvm.Cond.instanceMethod ({ cls := "PositionDeskModel", name := "price", desc := "(IJI)I" } : Jvm.MethodName)) ∈ lw_g := k_w (List.mem_of_getElem? (i := 492) (by decide +kernel)) (by decide +kernel)
theorem tw_493 : (Jvm.Cond.selects "PositionDeskModel" ({ cls := "PositionDeskModel", name := "price", desc := "(IJI)I" } : Jvm.MethodName) ({ cls := "PositionDeskModel", name := "price", desc := "(IJI)I" } : Jvm.MethodName)) ∈ lw_g := k_w (List.mem_of_getElem? (i := 493) (by decide +kernel)) (by decide +kernel)
theorem tw_494 : (Jvm.Cond.code ({ cls := "PositionDeskModel", name := "price", desc := "(IJI)I" } : Jvm.MethodName) prog_6_method_20_code (10 : Nat) (Option.some Jvm.ClassFile.FieldType.int)) ∈ lw_g := k_w (List.mem_of_getElem? (i := 494) (by decide +kernel)) (by decide +kernel)
theorem tw_495 : (Jvm.Cond.methodLink "PositionDeskModel" (128 : Nat) ({ cls := "PositionDeskModel", name := "isAsset", desc := "(I)Z" } : Jvm.MethodName)) ∈ lw_g := k_w (List.mem_of_getElem? (i := 495) (by decide +kernel)) (by decide +kernel)
theorem tw_497 : (Jvm.Cond.instanceMethod ({ cls := "PositionDeskModel", name := "isAsset", desc := "(I)Z" } : Jvm.MethodName)) ∈ lw_g := k_w (List.mem_of_getElem? (i := 497) (by decide +kernel)) (by decide +kernel)
theorem tw_498 : (Jvm.Cond.code ({ cls := "PositionDeskModel", name := "isAsset", desc := "(I)Z" } : Jvm.MethodName) prog_6_method_11_code (2 : Nat) (Option.some Jvm.ClassFile.FieldType.boolean)) ∈ lw_g := k_w (List.mem_of_getElem? (i := 498) (by decide +kernel)) (by decide +kernel)
theorem tw_499 : (Jvm.Cond.methodLink "PositionDeskModel" (131 : Nat) ({ cls := "PositionDeskModel", name := "isShort", desc := "(I)Z" } : Jvm.MethodName)) ∈ lw_g := k_w (List.mem_of_getElem? (i := 499) (by decide +kernel)) (by decide +kernel)
theorem tw_501 : (Jvm.Cond.instanceMethod ({ cls := "PositionDeskModel", name := "isShort", desc := "(I)Z" } : Jvm.MethodName)) ∈ lw_g := k_w (List.mem_of_getElem? (i := 501) (by decide +kernel)) (by decide +kernel)
theorem tw_502 : (Jvm.Cond.code ({ cls := "PositionDeskModel", name := "isShort", desc := "(I)Z" } : Jvm.MethodName) prog_6_method_8_code (2 : Nat) (Option.some Jvm.ClassFile.FieldType.boolean)) ∈ lw_g := k_w (List.mem_of_getElem? (i := 502) (by decide +kernel)) (by decide +kernel)
theorem tw_503 : (Jvm.Cond.methodLink "PositionDeskModel" (102 : Nat) ({ cls := "PositionDeskModel", name := "position", desc := "(II)J" } : Jvm.MethodName)) ∈ lw_g := k_w (List.mem_of_getElem? (i := 503) (by decide +kernel)) (by decide +kernel)
theorem tw_505 : (Jvm.Cond.instanceMethod ({ cls := "PositionDeskModel", name := "position", desc := "(II)J" } : Jvm.MethodName)) ∈ lw_g := k_w (List.mem_of_getElem? (i := 505) (by decide +kernel)) (by decide +kernel)
theorem tw_506 : (Jvm.Cond.code ({ cls := "PositionDeskModel", name := "position", desc := "(II)J" } : Jvm.MethodName) prog_6_method_2_code (6 : Nat) (Option.some Jvm.ClassFile.FieldType.long)) ∈ lw_g := k_w (List.mem_of_getElem? (i := 506) (by decide +kernel)) (by decide +kernel)
theorem tw_507 : (Jvm.Cond.methodLink "PositionDeskModel" (96 : Nat) ({ cls := "PositionDeskModel", name := "creditOf", desc := "(I)J" } : Jvm.MethodName)) ∈ lw_g := k_w (List.mem_of_getElem? (i := 507) (by decide +kernel)) (by decide +kernel)
theorem tw_509 : (Jvm.Cond.instanceMethod ({ cls := "PositionDeskModel", name := "creditOf", desc := "(I)J" } : Jvm.MethodName)) ∈ lw_g := k_w (List.mem_of_getElem? (i := 509) (by decide +kernel)) (by decide +kernel)
theorem tw_510 : (Jvm.Cond.code ({ cls := "PositionDeskModel", name := "creditOf", desc := "(I)J" } : Jvm.MethodName) prog_6_method_6_code (5 : Nat) (Option.some Jvm.ClassFile.FieldType.long)) ∈ lw_g := k_w (List.mem_of_getElem? (i := 510) (by decide +kernel)) (by decide +kernel)
theorem tw_511 : (Jvm.Cond.methodLink "PositionDeskModel" (88 : Nat) ({ cls := "PositionDeskModel", name := "pledged", desc := "(II)J" } : Jvm.MethodName)) ∈ lw_g := k_w (List.mem_of_getElem? (i := 511) (by decide +kernel)) (by decide +kernel)
theorem tw_513 : (Jvm.Cond.instanceMethod ({ cls := "PositionDeskModel", name := "pledged", desc := "(II)J" } : Jvm.MethodName)) ∈ lw_g := k_w (List.mem_of_getElem? (i := 513) (by decide +kernel)) (by decide +kernel)
theorem tw_514 : (Jvm.Cond.code ({ cls := "PositionDeskModel", name := "pledged", desc := "(II)J" } : Jvm.MethodName) prog_6_method_3_code (6 : Nat) (Option.some Jvm.ClassFile.FieldType.long)) ∈ lw_g := k_w (List.mem_of_getElem? (i := 514) (by decide +kernel)) (by decide +kernel)
theorem tw_515 : (Jvm.Cond.methodLink "PositionDeskModel" (92 : Nat) ({ cls := "PositionDeskModel", name := "worth", desc := "(JJI)J" } : Jvm.MethodName)) ∈ lw_g := k_w (List.mem_of_getElem? (i := 515) (by decide +kernel)) (by decide +kernel)
theorem tw_516 : (Jvm.Cond.static ({ cls := "PositionDeskModel", name := "worth", desc := "(JJI)J" } : Jvm.MethodName)) ∈ lw_g := k_w (List.mem_of_getElem? (i := 516) (by decide +kernel)) (by decide +kernel)
theorem tw_517 : (Jvm.Cond.code ({ cls := "PositionDeskModel", name := "worth", desc := "(JJI)J" } : Jvm.MethodName) prog_6_method_5_code (13 : Nat) (Option.some Jvm.ClassFile.FieldType.long)) ∈ lw_g := k_w (List.mem_of_getElem? (i := 517) (by decide +kernel)) (by decide +kernel)
theorem tw_518 : (Jvm.Cond.constantLong "PositionDeskModel" (81 : Nat) (100 : Int64)) ∈ lw_g := k_w (List.mem_of_getElem? (i := 518) (by decide +kernel)) (by decide +kernel)
theorem tw_519 : (Jvm.Cond.constantLong "PositionDeskModel" (83 : Nat) (4100000000000000000 : Int64)) ∈ lw_g := k_w (List.mem_of_getElem? (i := 519) (by decide +kernel)) (by decide +kernel)
theorem tw_520 : (Jvm.Cond.methodLink "PositionDeskModel" (134 : Nat) ({ cls := "PositionDeskModel", name := "isOwed", desc := "()Z" } : Jvm.MethodName)) ∈ lw_g := k_w (List.mem_of_getElem? (i := 520) (by decide +kernel)) (by decide +kernel)
theorem tw_522 : (Jvm.Cond.instanceMethod ({ cls := "PositionDeskModel", name := "isOwed", desc := "()Z" } : Jvm.MethodName)) ∈ lw_g := k_w (List.mem_of_getElem? (i := 522) (by decide +kernel)) (by decide +kernel)
theorem tw_523 : (Jvm.Cond.code ({ cls := "PositionDeskModel", name := "isOwed", desc := "()Z" } : Jvm.MethodName) prog_6_method_7_code (4 : Nat) (Option.some Jvm.ClassFile.FieldType.boolean)) ∈ lw_g := k_w (List.mem_of_getElem? (i := 523) (by decide +kernel)) (by decide +kernel)
theorem tw_524 : (Jvm.Cond.constantLong "PositionDeskModel" (100 : Nat) (4000000000000000000 : Int64)) ∈ lw_g := k_w (List.mem_of_getElem? (i := 524) (by decide +kernel)) (by decide +kernel)
theorem tw_525 : (Jvm.Cond.methodLink "PositionDeskLaw" (42 : Nat) ({ cls := "PositionDeskModel", name := "give", desc := "(IIJ)I" } : Jvm.MethodName)) ∈ lw_g := k_w (List.mem_of_getElem? (i := 525) (by decide +kernel)) (by decide +kernel)
theorem tw_526 : (Jvm.Cond.instanceMethod ({ cls := "PositionDeskModel", name := "give", desc := "(IIJ)I" } : Jvm.MethodName)) ∈ lw_g := k_w (List.mem_of_getElem? (i := 526) (by decide +kernel)) (by decide +kernel)
theorem tw_527 : (Jvm.Cond.selects "PositionDeskModel" ({ cls := "PositionDeskModel", name := "give", desc := "(IIJ)I" } : Jvm.MethodName) ({ cls := "PositionDeskModel", name := "give", desc := "(IIJ)I" } : Jvm.MethodName)) ∈ lw_g := k_w (List.mem_of_getElem? (i := 527) (by decide +kernel)) (by decide +kernel)
theorem tw_528 : (Jvm.Cond.code ({ cls := "PositionDeskModel", name := "give", desc := "(IIJ)I" } : Jvm.MethodName) prog_6_method_22_code (5 : Nat) (Option.some Jvm.ClassFile.FieldType.int)) ∈ lw_g := k_w (List.mem_of_getElem? (i := 528) (by decide +kernel)) (by decide +kernel)
theorem tw_529 : (Jvm.Cond.methodLink "PositionDeskModel" (138 : Nat) ({ cls := "PositionDeskModel", name := "isParticipant", desc := "(I)Z" } : Jvm.MethodName)) ∈ lw_g := k_w (List.mem_of_getElem? (i := 529) (by decide +kernel)) (by decide +kernel)
theorem tw_531 : (Jvm.Cond.instanceMethod ({ cls := "PositionDeskModel", name := "isParticipant", desc := "(I)Z" } : Jvm.MethodName)) ∈ lw_g := k_w (List.mem_of_getElem? (i := 531) (by decide +kernel)) (by decide +kernel)
theorem tw_532 : (Jvm.Cond.code ({ cls := "PositionDeskModel", name := "isParticipant", desc := "(I)Z" } : Jvm.MethodName) prog_6_method_10_code (2 : Nat) (Option.some Jvm.ClassFile.FieldType.boolean)) ∈ lw_g := k_w (List.mem_of_getElem? (i := 532) (by decide +kernel)) (by decide +kernel)
theorem tw_533 : (Jvm.Cond.methodLink "PositionDeskModel" (141 : Nat) ({ cls := "PositionDeskModel", name := "isAmount", desc := "(J)Z" } : Jvm.MethodName)) ∈ lw_g := k_w (List.mem_of_getElem? (i := 533) (by decide +kernel)) (by decide +kernel)
theorem tw_534 : (Jvm.Cond.static ({ cls := "PositionDeskModel", name := "isAmount", desc := "(J)Z" } : Jvm.MethodName)) ∈ lw_g := k_w (List.mem_of_getElem? (i := 534) (by decide +kernel)) (by decide +kernel)
theorem tw_535 : (Jvm.Cond.code ({ cls := "PositionDeskModel", name := "isAmount", desc := "(J)Z" } : Jvm.MethodName) prog_6_method_12_code (2 : Nat) (Option.some Jvm.ClassFile.FieldType.boolean)) ∈ lw_g := k_w (List.mem_of_getElem? (i := 535) (by decide +kernel)) (by decide +kernel)
theorem tw_536 : (Jvm.Cond.constantLong "PositionDeskModel" (145 : Nat) (-4000000000000000000 : Int64)) ∈ lw_g := k_w (List.mem_of_getElem? (i := 536) (by decide +kernel)) (by decide +kernel)
theorem tw_537 : (Jvm.Cond.methodLink "PositionDeskModel" (147 : Nat) ({ cls := "PositionDeskModel", name := "move", desc := "(IIJ)V" } : Jvm.MethodName)) ∈ lw_g := k_w (List.mem_of_getElem? (i := 537) (by decide +kernel)) (by decide +kernel)
theorem tw_539 : (Jvm.Cond.instanceMethod ({ cls := "PositionDeskModel", name := "move", desc := "(IIJ)V" } : Jvm.MethodName)) ∈ lw_g := k_w (List.mem_of_getElem? (i := 539) (by decide +kernel)) (by decide +kernel)
theorem tw_540 : (Jvm.Cond.code ({ cls := "PositionDeskModel", name := "move", desc := "(IIJ)V" } : Jvm.MethodName) prog_6_method_21_code (5 : Nat) (Option.none : Option Jvm.ClassFile.FieldType)) ∈ lw_g := k_w (List.mem_of_getElem? (i := 540) (by decide +kernel)) (by decide +kernel)
theorem tw_541 : (Jvm.Cond.methodLink "PositionDeskLaw" (46 : Nat) ({ cls := "PositionDeskModel", name := "back", desc := "(IIJ)I" } : Jvm.MethodName)) ∈ lw_g := k_w (List.mem_of_getElem? (i := 541) (by decide +kernel)) (by decide +kernel)
theorem tw_542 : (Jvm.Cond.instanceMethod ({ cls := "PositionDeskModel", name := "back", desc := "(IIJ)I" } : Jvm.MethodName)) ∈ lw_g := k_w (List.mem_of_getElem? (i := 542) (by decide +kernel)) (by decide +kernel)
theorem tw_543 : (Jvm.Cond.selects "PositionDeskModel" ({ cls := "PositionDeskModel", name := "back", desc := "(IIJ)I" } : Jvm.MethodName) ({ cls := "PositionDeskModel", name := "back", desc := "(IIJ)I" } : Jvm.MethodName)) ∈ lw_g := k_w (List.mem_of_getElem? (i := 543) (by decide +kernel)) (by decide +kernel)
theorem tw_544 : (Jvm.Cond.code ({ cls := "PositionDeskModel", name := "back", desc := "(IIJ)I" } : Jvm.MethodName) prog_6_method_23_code (5 : Nat) (Option.some Jvm.ClassFile.FieldType.int)) ∈ lw_g := k_w (List.mem_of_getElem? (i := 544) (by decide +kernel)) (by decide +kernel)
theorem tw_545 : (Jvm.Cond.methodLink "PositionDeskModel" (151 : Nat) ({ cls := "PositionDeskModel", name := "floorOf", desc := "(II)J" } : Jvm.MethodName)) ∈ lw_g := k_w (List.mem_of_getElem? (i := 545) (by decide +kernel)) (by decide +kernel)
theorem tw_547 : (Jvm.Cond.instanceMethod ({ cls := "PositionDeskModel", name := "floorOf", desc := "(II)J" } : Jvm.MethodName)) ∈ lw_g := k_w (List.mem_of_getElem? (i := 547) (by decide +kernel)) (by decide +kernel)
theorem tw_548 : (Jvm.Cond.code ({ cls := "PositionDeskModel", name := "floorOf", desc := "(II)J" } : Jvm.MethodName) prog_6_method_9_code (3 : Nat) (Option.some Jvm.ClassFile.FieldType.long)) ∈ lw_g := k_w (List.mem_of_getElem? (i := 548) (by decide +kernel)) (by decide +kernel)
theorem tw_549 : (Jvm.Cond.constantLong "PositionDeskModel" (105 : Nat) (-9223372036854775808 : Int64)) ∈ lw_g := k_w (List.mem_of_getElem? (i := 549) (by decide +kernel)) (by decide +kernel)
theorem tw_550 : (Jvm.Cond.methodLink "PositionDeskLaw" (50 : Nat) ({ cls := "PositionDeskModel", name := "pledge", desc := "(IIJ)I" } : Jvm.MethodName)) ∈ lw_g := k_w (List.mem_of_getElem? (i := 550) (by decide +kernel)) (by decide +kernel)
theorem tw_551 : (Jvm.Cond.instanceMethod ({ cls := "PositionDeskModel", name := "pledge", desc := "(IIJ)I" } : Jvm.MethodName)) ∈ lw_g := k_w (List.mem_of_getElem? (i := 551) (by decide +kernel)) (by decide +kernel)
theorem tw_552 : (Jvm.Cond.selects "PositionDeskModel" ({ cls := "PositionDeskModel", name := "pledge", desc := "(IIJ)I" } : Jvm.MethodName) ({ cls := "PositionDeskModel", name := "pledge", desc := "(IIJ)I" } : Jvm.MethodName)) ∈ lw_g := k_w (List.mem_of_getElem? (i := 552) (by decide +kernel)) (by decide +kernel)
theorem tw_553 : (Jvm.Cond.code ({ cls := "PositionDeskModel", name := "pledge", desc := "(IIJ)I" } : Jvm.MethodName) prog_6_method_25_code (6 : Nat) (Option.some Jvm.ClassFile.FieldType.int)) ∈ lw_g := k_w (List.mem_of_getElem? (i := 553) (by decide +kernel)) (by decide +kernel)
theorem tw_554 : (Jvm.Cond.methodLink "PositionDeskModel" (154 : Nat) ({ cls := "PositionDeskModel", name := "pledgeMore", desc := "(IIJ)V" } : Jvm.MethodName)) ∈ lw_g := k_w (List.mem_of_getElem? (i := 554) (by decide +kernel)) (by decide +kernel)
theorem tw_556 : (Jvm.Cond.instanceMethod ({ cls := "PositionDeskModel", name := "pledgeMore", desc := "(IIJ)V" } : Jvm.MethodName)) ∈ lw_g := k_w (List.mem_of_getElem? (i := 556) (by decide +kernel)) (by decide +kernel)
theorem tw_557 : (Jvm.Cond.code ({ cls := "PositionDeskModel", name := "pledgeMore", desc := "(IIJ)V" } : Jvm.MethodName) prog_6_method_24_code (5 : Nat) (Option.none : Option Jvm.ClassFile.FieldType)) ∈ lw_g := k_w (List.mem_of_getElem? (i := 557) (by decide +kernel)) (by decide +kernel)
theorem tw_558 : (Jvm.Cond.methodLink "PositionDeskLaw" (54 : Nat) ({ cls := "PositionDeskModel", name := "free", desc := "(IIJ)I" } : Jvm.MethodName)) ∈ lw_g := k_w (List.mem_of_getElem? (i := 558) (by decide +kernel)) (by decide +kernel)
theorem tw_559 : (Jvm.Cond.instanceMethod ({ cls := "PositionDeskModel", name := "free", desc := "(IIJ)I" } : Jvm.MethodName)) ∈ lw_g := k_w (List.mem_of_getElem? (i := 559) (by decide +kernel)) (by decide +kernel)
theorem tw_560 : (Jvm.Cond.selects "PositionDeskModel" ({ cls := "PositionDeskModel", name := "free", desc := "(IIJ)I" } : Jvm.MethodName) ({ cls := "PositionDeskModel", name := "free", desc := "(IIJ)I" } : Jvm.MethodName)) ∈ lw_g := k_w (List.mem_of_getElem? (i := 560) (by decide +kernel)) (by decide +kernel)
theorem tw_561 : (Jvm.Cond.code ({ cls := "PositionDeskModel", name := "free", desc := "(IIJ)I" } : Jvm.MethodName) prog_6_method_26_code (6 : Nat) (Option.some Jvm.ClassFile.FieldType.int)) ∈ lw_g := k_w (List.mem_of_getElem? (i := 561) (by decide +kernel)) (by decide +kernel)
theorem tw_562 : (Jvm.Cond.methodLink "PositionDeskLaw" (58 : Nat) ({ cls := "PositionDeskModel", name := "limit", desc := "(IIJ)I" } : Jvm.MethodName)) ∈ lw_g := k_w (List.mem_of_getElem? (i := 562) (by decide +kernel)) (by decide +kernel)
theorem tw_563 : (Jvm.Cond.instanceMethod ({ cls := "PositionDeskModel", name := "limit", desc := "(IIJ)I" } : Jvm.MethodName)) ∈ lw_g := k_w (List.mem_of_getElem? (i := 563) (by decide +kernel)) (by decide +kernel)
theorem tw_564 : (Jvm.Cond.selects "PositionDeskModel" ({ cls := "PositionDeskModel", name := "limit", desc := "(IIJ)I" } : Jvm.MethodName) ({ cls := "PositionDeskModel", name := "limit", desc := "(IIJ)I" } : Jvm.MethodName)) ∈ lw_g := k_w (List.mem_of_getElem? (i := 564) (by decide +kernel)) (by decide +kernel)
theorem tw_565 : (Jvm.Cond.code ({ cls := "PositionDeskModel", name := "limit", desc := "(IIJ)I" } : Jvm.MethodName) prog_6_method_27_code (6 : Nat) (Option.some Jvm.ClassFile.FieldType.int)) ∈ lw_g := k_w (List.mem_of_getElem? (i := 565) (by decide +kernel)) (by decide +kernel)
theorem tw_566 : (Jvm.Cond.methodLink "PositionDeskModel" (157 : Nat) ({ cls := "PositionDeskModel", name := "netPaid", desc := "(II)J" } : Jvm.MethodName)) ∈ lw_g := k_w (List.mem_of_getElem? (i := 566) (by decide +kernel)) (by decide +kernel)
theorem tw_568 : (Jvm.Cond.instanceMethod ({ cls := "PositionDeskModel", name := "netPaid", desc := "(II)J" } : Jvm.MethodName)) ∈ lw_g := k_w (List.mem_of_getElem? (i := 568) (by decide +kernel)) (by decide +kernel)
theorem tw_569 : (Jvm.Cond.code ({ cls := "PositionDeskModel", name := "netPaid", desc := "(II)J" } : Jvm.MethodName) prog_6_method_4_code (6 : Nat) (Option.some Jvm.ClassFile.FieldType.long)) ∈ lw_g := k_w (List.mem_of_getElem? (i := 569) (by decide +kernel)) (by decide +kernel)
theorem tw_570 : (Jvm.Cond.methodLink "PositionDeskLaw" (63 : Nat) ({ cls := "PositionDeskModel", name := "open", desc := "(II)I" } : Jvm.MethodName)) ∈ lw_g := k_w (List.mem_of_getElem? (i := 570) (by decide +kernel)) (by decide +kernel)
theorem tw_571 : (Jvm.Cond.instanceMethod ({ cls := "PositionDeskModel", name := "open", desc := "(II)I" } : Jvm.MethodName)) ∈ lw_g := k_w (List.mem_of_getElem? (i := 571) (by decide +kernel)) (by decide +kernel)
theorem tw_572 : (Jvm.Cond.selects "PositionDeskModel" ({ cls := "PositionDeskModel", name := "open", desc := "(II)I" } : Jvm.MethodName) ({ cls := "PositionDeskModel", name := "open", desc := "(II)I" } : Jvm.MethodName)) ∈ lw_g := k_w (List.mem_of_getElem? (i := 572) (by decide +kernel)) (by decide +kernel)
theorem tw_573 : (Jvm.Cond.code ({ cls := "PositionDeskModel", name := "open", desc := "(II)I" } : Jvm.MethodName) prog_6_method_28_code (4 : Nat) (Option.some Jvm.ClassFile.FieldType.int)) ∈ lw_g := k_w (List.mem_of_getElem? (i := 573) (by decide +kernel)) (by decide +kernel)
theorem tw_574 : (Jvm.Cond.methodLink "PositionDeskLaw" (107 : Nat) ({ cls := "PositionDeskModel", name := "day", desc := "()V" } : Jvm.MethodName)) ∈ lw_g := k_w (List.mem_of_getElem? (i := 574) (by decide +kernel)) (by decide +kernel)
theorem tw_575 : (Jvm.Cond.instanceMethod ({ cls := "PositionDeskModel", name := "day", desc := "()V" } : Jvm.MethodName)) ∈ lw_g := k_w (List.mem_of_getElem? (i := 575) (by decide +kernel)) (by decide +kernel)
theorem tw_576 : (Jvm.Cond.selects "PositionDeskModel" ({ cls := "PositionDeskModel", name := "day", desc := "()V" } : Jvm.MethodName) ({ cls := "PositionDeskModel", name := "day", desc := "()V" } : Jvm.MethodName)) ∈ lw_g := k_w (List.mem_of_getElem? (i := 576) (by decide +kernel)) (by decide +kernel)
theorem tw_577 : (Jvm.Cond.code ({ cls := "PositionDeskModel", name := "day", desc := "()V" } : Jvm.MethodName) prog_6_method_29_code (1 : Nat) (Option.none : Option Jvm.ClassFile.FieldType)) ∈ lw_g := k_w (List.mem_of_getElem? (i := 577) (by decide +kernel)) (by decide +kernel)
theorem tw_578 : (Jvm.Cond.methodLink "PositionDeskLaw" (68 : Nat) ({ cls := "PositionDeskModel", name := "leg", desc := "(IIIJ)I" } : Jvm.MethodName)) ∈ lw_g := k_w (List.mem_of_getElem? (i := 578) (by decide +kernel)) (by decide +kernel)
theorem tw_579 : (Jvm.Cond.instanceMethod ({ cls := "PositionDeskModel", name := "leg", desc := "(IIIJ)I" } : Jvm.MethodName)) ∈ lw_g := k_w (List.mem_of_getElem? (i := 579) (by decide +kernel)) (by decide +kernel)
theorem tw_580 : (Jvm.Cond.selects "PositionDeskModel" ({ cls := "PositionDeskModel", name := "leg", desc := "(IIIJ)I" } : Jvm.MethodName) ({ cls := "PositionDeskModel", name := "leg", desc := "(IIIJ)I" } : Jvm.MethodName)) ∈ lw_g := k_w (List.mem_of_getElem? (i := 580) (by decide +kernel)) (by decide +kernel)
theorem tw_581 : (Jvm.Cond.code ({ cls := "PositionDeskModel", name := "leg", desc := "(IIIJ)I" } : Jvm.MethodName) prog_6_method_30_code (6 : Nat) (Option.some Jvm.ClassFile.FieldType.int)) ∈ lw_g := k_w (List.mem_of_getElem? (i := 581) (by decide +kernel)) (by decide +kernel)
theorem tw_582 : (Jvm.Cond.methodLink "PositionDeskLaw" (81 : Nat) ({ cls := "PositionDeskModel", name := "drop", desc := "()I" } : Jvm.MethodName)) ∈ lw_g := k_w (List.mem_of_getElem? (i := 582) (by decide +kernel)) (by decide +kernel)
theorem tw_583 : (Jvm.Cond.instanceMethod ({ cls := "PositionDeskModel", name := "drop", desc := "()I" } : Jvm.MethodName)) ∈ lw_g := k_w (List.mem_of_getElem? (i := 583) (by decide +kernel)) (by decide +kernel)
theorem tw_584 : (Jvm.Cond.selects "PositionDeskModel" ({ cls := "PositionDeskModel", name := "drop", desc := "()I" } : Jvm.MethodName) ({ cls := "PositionDeskModel", name := "drop", desc := "()I" } : Jvm.MethodName)) ∈ lw_g := k_w (List.mem_of_getElem? (i := 584) (by decide +kernel)) (by decide +kernel)
theorem tw_585 : (Jvm.Cond.code ({ cls := "PositionDeskModel", name := "drop", desc := "()I" } : Jvm.MethodName) prog_6_method_31_code (2 : Nat) (Option.some Jvm.ClassFile.FieldType.int)) ∈ lw_g := k_w (List.mem_of_getElem? (i := 585) (by decide +kernel)) (by decide +kernel)
theorem tw_586 : (Jvm.Cond.methodLink "PositionDeskLaw" (86 : Nat) ({ cls := "PositionDeskModel", name := "net", desc := "(I)J" } : Jvm.MethodName)) ∈ lw_g := k_w (List.mem_of_getElem? (i := 586) (by decide +kernel)) (by decide +kernel)
theorem tw_587 : (Jvm.Cond.instanceMethod ({ cls := "PositionDeskModel", name := "net", desc := "(I)J" } : Jvm.MethodName)) ∈ lw_g := k_w (List.mem_of_getElem? (i := 587) (by decide +kernel)) (by decide +kernel)
theorem tw_588 : (Jvm.Cond.selects "PositionDeskModel" ({ cls := "PositionDeskModel", name := "net", desc := "(I)J" } : Jvm.MethodName) ({ cls := "PositionDeskModel", name := "net", desc := "(I)J" } : Jvm.MethodName)) ∈ lw_g := k_w (List.mem_of_getElem? (i := 588) (by decide +kernel)) (by decide +kernel)
theorem tw_589 : (Jvm.Cond.code ({ cls := "PositionDeskModel", name := "net", desc := "(I)J" } : Jvm.MethodName) prog_6_method_32_code (9 : Nat) (Option.some Jvm.ClassFile.FieldType.long)) ∈ lw_g := k_w (List.mem_of_getElem? (i := 589) (by decide +kernel)) (by decide +kernel)
theorem tw_590 : (Jvm.Cond.methodLink "PositionDeskModel" (163 : Nat) ({ cls := "PositionDeskModel", name := "isThere", desc := "(I)Z" } : Jvm.MethodName)) ∈ lw_g := k_w (List.mem_of_getElem? (i := 590) (by decide +kernel)) (by decide +kernel)
theorem tw_591 : (Jvm.Cond.methodLink "PositionDeskLaw" (73 : Nat) ({ cls := "PositionDeskModel", name := "holds", desc := "()Z" } : Jvm.MethodName)) ∈ lw_g := k_w (List.mem_of_getElem? (i := 591) (by decide +kernel)) (by decide +kernel)
theorem tw_592 : (Jvm.Cond.instanceMethod ({ cls := "PositionDeskModel", name := "holds", desc := "()Z" } : Jvm.MethodName)) ∈ lw_g := k_w (List.mem_of_getElem? (i := 592) (by decide +kernel)) (by decide +kernel)
theorem tw_593 : (Jvm.Cond.selects "PositionDeskModel" ({ cls := "PositionDeskModel", name := "holds", desc := "()Z" } : Jvm.MethodName) ({ cls := "PositionDeskModel", name := "holds", desc := "()Z" } : Jvm.MethodName)) ∈ lw_g := k_w (List.mem_of_getElem? (i := 593) (by decide +kernel)) (by decide +kernel)
theorem tw_594 : (Jvm.Cond.code ({ cls := "PositionDeskModel", name := "holds", desc := "()Z" } : Jvm.MethodName) prog_6_method_34_code (4 : Nat) (Option.some Jvm.ClassFile.FieldType.boolean)) ∈ lw_g := k_w (List.mem_of_getElem? (i := 594) (by decide +kernel)) (by decide +kernel)
theorem tw_595 : (Jvm.Cond.methodLink "PositionDeskModel" (175 : Nat) ({ cls := "PositionDeskModel", name := "fits", desc := "(I)Z" } : Jvm.MethodName)) ∈ lw_g := k_w (List.mem_of_getElem? (i := 595) (by decide +kernel)) (by decide +kernel)
theorem tw_597 : (Jvm.Cond.instanceMethod ({ cls := "PositionDeskModel", name := "fits", desc := "(I)Z" } : Jvm.MethodName)) ∈ lw_g := k_w (List.mem_of_getElem? (i := 597) (by decide +kernel)) (by decide +kernel)
theorem tw_598 : (Jvm.Cond.code ({ cls := "PositionDeskModel", name := "fits", desc := "(I)Z" } : Jvm.MethodName) prog_6_method_33_code (2 : Nat) (Option.some Jvm.ClassFile.FieldType.boolean)) ∈ lw_g := k_w (List.mem_of_getElem? (i := 598) (by decide +kernel)) (by decide +kernel)
theorem tw_599 : (Jvm.Cond.methodLink "PositionDeskModel" (166 : Nat) ({ cls := "PositionDeskModel", name := "net", desc := "(I)J" } : Jvm.MethodName)) ∈ lw_g := k_w (List.mem_of_getElem? (i := 599) (by decide +kernel)) (by decide +kernel)
theorem tw_600 : (Jvm.Cond.methodLink "PositionDeskModel" (169 : Nat) ({ cls := "PositionDeskModel", name := "value", desc := "(I)J" } : Jvm.MethodName)) ∈ lw_g := k_w (List.mem_of_getElem? (i := 600) (by decide +kernel)) (by decide +kernel)
theorem tw_601 : (Jvm.Cond.instanceMethod ({ cls := "PositionDeskModel", name := "value", desc := "(I)J" } : Jvm.MethodName)) ∈ lw_g := k_w (List.mem_of_getElem? (i := 601) (by decide +kernel)) (by decide +kernel)
theorem tw_602 : (Jvm.Cond.selects "PositionDeskModel" ({ cls := "PositionDeskModel", name := "value", desc := "(I)J" } : Jvm.MethodName) ({ cls := "PositionDeskModel", name := "value", desc := "(I)J" } : Jvm.MethodName)) ∈ lw_g := k_w (List.mem_of_getElem? (i := 602) (by decide +kernel)) (by decide +kernel)
theorem tw_603 : (Jvm.Cond.code ({ cls := "PositionDeskModel", name := "value", desc := "(I)J" } : Jvm.MethodName) prog_6_method_36_code (4 : Nat) (Option.some Jvm.ClassFile.FieldType.long)) ∈ lw_g := k_w (List.mem_of_getElem? (i := 603) (by decide +kernel)) (by decide +kernel)
theorem tw_604 : (Jvm.Cond.methodLink "PositionDeskModel" (172 : Nat) ({ cls := "PositionDeskModel", name := "floor", desc := "(I)J" } : Jvm.MethodName)) ∈ lw_g := k_w (List.mem_of_getElem? (i := 604) (by decide +kernel)) (by decide +kernel)
theorem tw_605 : (Jvm.Cond.instanceMethod ({ cls := "PositionDeskModel", name := "floor", desc := "(I)J" } : Jvm.MethodName)) ∈ lw_g := k_w (List.mem_of_getElem? (i := 605) (by decide +kernel)) (by decide +kernel)
theorem tw_606 : (Jvm.Cond.selects "PositionDeskModel" ({ cls := "PositionDeskModel", name := "floor", desc := "(I)J" } : Jvm.MethodName) ({ cls := "PositionDeskModel", name := "floor", desc := "(I)J" } : Jvm.MethodName)) ∈ lw_g := k_w (List.mem_of_getElem? (i := 606) (by decide +kernel)) (by decide +kernel)
theorem tw_607 : (Jvm.Cond.code ({ cls := "PositionDeskModel", name := "floor", desc := "(I)J" } : Jvm.MethodName) prog_6_method_37_code (2 : Nat) (Option.some Jvm.ClassFile.FieldType.long)) ∈ lw_g := k_w (List.mem_of_getElem? (i := 607) (by decide +kernel)) (by decide +kernel)
theorem tw_608 : (Jvm.Cond.methodLink "PositionDeskLaw" (77 : Nat) ({ cls := "PositionDeskModel", name := "post", desc := "()Z" } : Jvm.MethodName)) ∈ lw_g := k_w (List.mem_of_getElem? (i := 608) (by decide +kernel)) (by decide +kernel)
theorem tw_609 : (Jvm.Cond.instanceMethod ({ cls := "PositionDeskModel", name := "post", desc := "()Z" } : Jvm.MethodName)) ∈ lw_g := k_w (List.mem_of_getElem? (i := 609) (by decide +kernel)) (by decide +kernel)
theorem tw_610 : (Jvm.Cond.selects "PositionDeskModel" ({ cls := "PositionDeskModel", name := "post", desc := "()Z" } : Jvm.MethodName) ({ cls := "PositionDeskModel", name := "post", desc := "()Z" } : Jvm.MethodName)) ∈ lw_g := k_w (List.mem_of_getElem? (i := 610) (by decide +kernel)) (by decide +kernel)
theorem tw_611 : (Jvm.Cond.code ({ cls := "PositionDeskModel", name := "post", desc := "()Z" } : Jvm.MethodName) prog_6_method_35_code (2 : Nat) (Option.some Jvm.ClassFile.FieldType.boolean)) ∈ lw_g := k_w (List.mem_of_getElem? (i := 611) (by decide +kernel)) (by decide +kernel)
theorem tw_612 : (Jvm.Cond.methodLink "PositionDeskModel" (178 : Nat) ({ cls := "PositionDeskModel", name := "holds", desc := "()Z" } : Jvm.MethodName)) ∈ lw_g := k_w (List.mem_of_getElem? (i := 612) (by decide +kernel)) (by decide +kernel)
theorem tw_613 : (Jvm.Cond.methodLink "PositionDeskLaw" (90 : Nat) ({ cls := "PositionDeskModel", name := "value", desc := "(I)J" } : Jvm.MethodName)) ∈ lw_g := k_w (List.mem_of_getElem? (i := 613) (by decide +kernel)) (by decide +kernel)
theorem tw_614 : (Jvm.Cond.methodLink "PositionDeskLaw" (94 : Nat) ({ cls := "PositionDeskModel", name := "floor", desc := "(I)J" } : Jvm.MethodName)) ∈ lw_g := k_w (List.mem_of_getElem? (i := 614) (by decide +kernel)) (by decide +kernel)
theorem tw_615 : (Jvm.Cond.methodLink "PositionDeskLaw" (103 : Nat) ({ cls := "PositionDeskModel", name := "credit", desc := "(I)J" } : Jvm.MethodName)) ∈ lw_g := k_w (List.mem_of_getElem? (i := 615) (by decide +kernel)) (by decide +kernel)
theorem tw_616 : (Jvm.Cond.instanceMethod ({ cls := "PositionDeskModel", name := "credit", desc := "(I)J" } : Jvm.MethodName)) ∈ lw_g := k_w (List.mem_of_getElem? (i := 616) (by decide +kernel)) (by decide +kernel)
theorem tw_617 : (Jvm.Cond.selects "PositionDeskModel" ({ cls := "PositionDeskModel", name := "credit", desc := "(I)J" } : Jvm.MethodName) ({ cls := "PositionDeskModel", name := "credit", desc := "(I)J" } : Jvm.MethodName)) ∈ lw_g := k_w (List.mem_of_getElem? (i := 617) (by decide +kernel)) (by decide +kernel)
theorem tw_618 : (Jvm.Cond.code ({ cls := "PositionDeskModel", name := "credit", desc := "(I)J" } : Jvm.MethodName) prog_6_method_38_code (2 : Nat) (Option.some Jvm.ClassFile.FieldType.long)) ∈ lw_g := k_w (List.mem_of_getElem? (i := 618) (by decide +kernel)) (by decide +kernel)
theorem tw_619 : (Jvm.Cond.constantLong "PositionDeskLaw" (26 : Nat) (4294967295 : Int64)) ∈ lw_g := k_w (List.mem_of_getElem? (i := 619) (by decide +kernel)) (by decide +kernel)
theorem tw_0 : (Cond.selects "PositionDesk" ⟨"PositionDesk", "addAsset", "(ZJ)I"⟩ ⟨"PositionDesk", "addAsset", "(ZJ)I"⟩) ∈ lw_g := k_w (List.mem_of_getElem? (i := 0) (by decide +kernel)) (by decide +kernel)
theorem tw_1 : (Cond.selects "PositionDesk" ⟨"PositionDesk", "securityAt", "(I)LPositionDesk$Asset;"⟩ ⟨"PositionDesk", "securityAt", "(I)LPositionDesk$Asset;"⟩) ∈ lw_g := k_w (List.mem_of_getElem? (i := 1) (by decide +kernel)) (by decide +kernel)
theorem tw_2 : (Cond.selects "PositionDesk" ⟨"PositionDesk", "assetAt", "(I)LPositionDesk$Asset;"⟩ ⟨"PositionDesk", "assetAt", "(I)LPositionDesk$Asset;"⟩) ∈ lw_g := k_w (List.mem_of_getElem? (i := 2) (by decide +kernel)) (by decide +kernel)
theorem tw_3 : (Cond.selects "PositionDesk" ⟨"PositionDesk", "faultOfRate", "(LPositionDesk$Asset;J)I"⟩ ⟨"PositionDesk", "faultOfRate", "(LPositionDesk$Asset;J)I"⟩) ∈ lw_g := k_w (List.mem_of_getElem? (i := 3) (by decide +kernel)) (by decide +kernel)
theorem tw_4 : (Cond.selects "PositionDesk" ⟨"PositionDesk", "creditWith", "(LPositionDesk$Asset;IJJ)J"⟩ ⟨"PositionDesk", "creditWith", "(LPositionDesk$Asset;IJJ)J"⟩) ∈ lw_g := k_w (List.mem_of_getElem? (i := 4) (by decide +kernel)) (by decide +kernel)
theorem tw_5 : (Cond.selects "PositionDesk" ⟨"PositionDesk", "isOverdrawn", "(IJ)Z"⟩ ⟨"PositionDesk", "isOverdrawn", "(IJ)Z"⟩) ∈ lw_g := k_w (List.mem_of_getElem? (i := 5) (by decide +kernel)) (by decide +kernel)
theorem tw_6 : (Cond.selects "PositionDesk" ⟨"PositionDesk", "setRate", "(LPositionDesk$Asset;J)V"⟩ ⟨"PositionDesk", "setRate", "(LPositionDesk$Asset;J)V"⟩) ∈ lw_g := k_w (List.mem_of_getElem? (i := 6) (by decide +kernel)) (by decide +kernel)
theorem tw_7 : (Cond.selects "PositionDesk" ⟨"PositionDesk", "isClient", "(I)Z"⟩ ⟨"PositionDesk", "isClient", "(I)Z"⟩) ∈ lw_g := k_w (List.mem_of_getElem? (i := 7) (by decide +kernel)) (by decide +kernel)
theorem tw_8 : (Cond.selects "PositionDesk" ⟨"PositionDesk", "lowest", "(LPositionDesk$Asset;I)J"⟩ ⟨"PositionDesk", "lowest", "(LPositionDesk$Asset;I)J"⟩) ∈ lw_g := k_w (List.mem_of_getElem? (i := 8) (by decide +kernel)) (by decide +kernel)
theorem tw_9 : (Cond.selects "PositionDesk" ⟨"PositionDesk", "setPledged", "(LPositionDesk$Asset;IJ)I"⟩ ⟨"PositionDesk", "setPledged", "(LPositionDesk$Asset;IJ)I"⟩) ∈ lw_g := k_w (List.mem_of_getElem? (i := 9) (by decide +kernel)) (by decide +kernel)
theorem tw_10 : (Cond.selects "PositionDesk" ⟨"PositionDesk", "areTwoClients", "(II)Z"⟩ ⟨"PositionDesk", "areTwoClients", "(II)Z"⟩) ∈ lw_g := k_w (List.mem_of_getElem? (i := 10) (by decide +kernel)) (by decide +kernel)
theorem tw_11 : (Cond.selects "PositionDesk" ⟨"PositionDesk", "paidFrom", "(II)J"⟩ ⟨"PositionDesk", "paidFrom", "(II)J"⟩) ∈ lw_g := k_w (List.mem_of_getElem? (i := 11) (by decide +kernel)) (by decide +kernel)
theorem tw_12 : (Cond.selects "PositionDesk" ⟨"PositionDesk", "pairOf", "(II)I"⟩ ⟨"PositionDesk", "pairOf", "(II)I"⟩) ∈ lw_g := k_w (List.mem_of_getElem? (i := 12) (by decide +kernel)) (by decide +kernel)
theorem tw_13 : (Cond.selects "PositionDesk$PairAmounts" ⟨"PositionDesk$PairAmounts", "indexOf", "(I)I"⟩ ⟨"PositionDesk$PairAmounts", "indexOf", "(I)I"⟩) ∈ lw_g := k_w (List.mem_of_getElem? (i := 13) (by decide +kernel)) (by decide +kernel)
theorem tw_14 : (Cond.selects "PositionDesk" ⟨"PositionDesk", "breaksFloor", "(II)Z"⟩ ⟨"PositionDesk", "breaksFloor", "(II)Z"⟩) ∈ lw_g := k_w (List.mem_of_getElem? (i := 14) (by decide +kernel)) (by decide +kernel)
theorem tw_15 : (Cond.selects "PositionDesk" ⟨"PositionDesk", "breaksRoom", "(I)Z"⟩ ⟨"PositionDesk", "breaksRoom", "(I)Z"⟩) ∈ lw_g := k_w (List.mem_of_getElem? (i := 15) (by decide +kernel)) (by decide +kernel)
theorem tw_16 : (Cond.selects "PositionDesk" ⟨"PositionDesk", "roomOf", "(I)J"⟩ ⟨"PositionDesk", "roomOf", "(I)J"⟩) ∈ lw_g := k_w (List.mem_of_getElem? (i := 16) (by decide +kernel)) (by decide +kernel)
theorem tw_17 : (Cond.selects "PositionDesk" ⟨"PositionDesk", "doLeg", "(I)V"⟩ ⟨"PositionDesk", "doLeg", "(I)V"⟩) ∈ lw_g := k_w (List.mem_of_getElem? (i := 17) (by decide +kernel)) (by decide +kernel)
theorem tw_18 : (Cond.selects "PositionDesk" ⟨"PositionDesk", "addPaid", "(IIJ)V"⟩ ⟨"PositionDesk", "addPaid", "(IIJ)V"⟩) ∈ lw_g := k_w (List.mem_of_getElem? (i := 18) (by decide +kernel)) (by decide +kernel)
theorem tw_19 : (Cond.selects "PositionDesk" ⟨"PositionDesk", "isPosition", "(I)Z"⟩ ⟨"PositionDesk", "isPosition", "(I)Z"⟩) ∈ lw_g := k_w (List.mem_of_getElem? (i := 19) (by decide +kernel)) (by decide +kernel)
theorem tw_20 : (Cond.selects "PositionDesk" ⟨"PositionDesk", "assetOf", "(I)I"⟩ ⟨"PositionDesk", "assetOf", "(I)I"⟩) ∈ lw_g := k_w (List.mem_of_getElem? (i := 20) (by decide +kernel)) (by decide +kernel)
theorem tw_21 : (Cond.selects "PositionDesk" ⟨"PositionDesk", "ownerOf", "(I)I"⟩ ⟨"PositionDesk", "ownerOf", "(I)I"⟩) ∈ lw_g := k_w (List.mem_of_getElem? (i := 21) (by decide +kernel)) (by decide +kernel)
theorem tw_22 : (Cond.selects "PositionDeskModel" ⟨"PositionDeskModel", "isRoom", "(I)Z"⟩ ⟨"PositionDeskModel", "isRoom", "(I)Z"⟩) ∈ lw_g := k_w (List.mem_of_getElem? (i := 22) (by decide +kernel)) (by decide +kernel)
theorem tw_23 : (Cond.selects "PositionDeskModel" ⟨"PositionDeskModel", "pair", "(I)I"⟩ ⟨"PositionDeskModel", "pair", "(I)I"⟩) ∈ lw_g := k_w (List.mem_of_getElem? (i := 23) (by decide +kernel)) (by decide +kernel)
theorem tw_24 : (Cond.selects "PositionDeskModel" ⟨"PositionDeskModel", "limitAt", "(II)I"⟩ ⟨"PositionDeskModel", "limitAt", "(II)I"⟩) ∈ lw_g := k_w (List.mem_of_getElem? (i := 24) (by decide +kernel)) (by decide +kernel)
theorem tw_25 : (Cond.selects "PositionDeskModel" ⟨"PositionDeskModel", "isAsset", "(I)Z"⟩ ⟨"PositionDeskModel", "isAsset", "(I)Z"⟩) ∈ lw_g := k_w (List.mem_of_getElem? (i := 25) (by decide +kernel)) (by decide +kernel)
theorem tw_26 : (Cond.selects "PositionDeskModel" ⟨"PositionDeskModel", "isShort", "(I)Z"⟩ ⟨"PositionDeskModel", "isShort", "(I)Z"⟩) ∈ lw_g := k_w (List.mem_of_getElem? (i := 26) (by decide +kernel)) (by decide +kernel)
theorem tw_27 : (Cond.selects "PositionDeskModel" ⟨"PositionDeskModel", "position", "(II)J"⟩ ⟨"PositionDeskModel", "position", "(II)J"⟩) ∈ lw_g := k_w (List.mem_of_getElem? (i := 27) (by decide +kernel)) (by decide +kernel)
theorem tw_28 : (Cond.selects "PositionDeskModel" ⟨"PositionDeskModel", "creditOf", "(I)J"⟩ ⟨"PositionDeskModel", "creditOf", "(I)J"⟩) ∈ lw_g := k_w (List.mem_of_getElem? (i := 28) (by decide +kernel)) (by decide +kernel)
theorem tw_29 : (Cond.selects "PositionDeskModel" ⟨"PositionDeskModel", "pledged", "(II)J"⟩ ⟨"PositionDeskModel", "pledged", "(II)J"⟩) ∈ lw_g := k_w (List.mem_of_getElem? (i := 29) (by decide +kernel)) (by decide +kernel)
theorem tw_30 : (Cond.selects "PositionDeskModel" ⟨"PositionDeskModel", "isOwed", "()Z"⟩ ⟨"PositionDeskModel", "isOwed", "()Z"⟩) ∈ lw_g := k_w (List.mem_of_getElem? (i := 30) (by decide +kernel)) (by decide +kernel)
theorem tw_31 : (Cond.selects "PositionDeskModel" ⟨"PositionDeskModel", "isParticipant", "(I)Z"⟩ ⟨"PositionDeskModel", "isParticipant", "(I)Z"⟩) ∈ lw_g := k_w (List.mem_of_getElem? (i := 31) (by decide +kernel)) (by decide +kernel)
theorem tw_32 : (Cond.selects "PositionDeskModel" ⟨"PositionDeskModel", "move", "(IIJ)V"⟩ ⟨"PositionDeskModel", "move", "(IIJ)V"⟩) ∈ lw_g := k_w (List.mem_of_getElem? (i := 32) (by decide +kernel)) (by decide +kernel)
theorem tw_33 : (Cond.selects "PositionDeskModel" ⟨"PositionDeskModel", "floorOf", "(II)J"⟩ ⟨"PositionDeskModel", "floorOf", "(II)J"⟩) ∈ lw_g := k_w (List.mem_of_getElem? (i := 33) (by decide +kernel)) (by decide +kernel)
theorem tw_34 : (Cond.selects "PositionDeskModel" ⟨"PositionDeskModel", "pledgeMore", "(IIJ)V"⟩ ⟨"PositionDeskModel", "pledgeMore", "(IIJ)V"⟩) ∈ lw_g := k_w (List.mem_of_getElem? (i := 34) (by decide +kernel)) (by decide +kernel)
theorem tw_35 : (Cond.selects "PositionDeskModel" ⟨"PositionDeskModel", "netPaid", "(II)J"⟩ ⟨"PositionDeskModel", "netPaid", "(II)J"⟩) ∈ lw_g := k_w (List.mem_of_getElem? (i := 35) (by decide +kernel)) (by decide +kernel)
theorem tw_36 : (Cond.selects "PositionDeskModel" ⟨"PositionDeskModel", "fits", "(I)Z"⟩ ⟨"PositionDeskModel", "fits", "(I)Z"⟩) ∈ lw_g := k_w (List.mem_of_getElem? (i := 36) (by decide +kernel)) (by decide +kernel)
abbrev yX_init : MethodName := ⟨"PositionDesk", "<init>", "(II)V"⟩
abbrev wX_init : List Cond := Cond.code yX_init prog_1_method_1_code 5 ((Option.none : Option Jvm.ClassFile.FieldType)) :: lw_g
abbrev yX_currency : MethodName := ⟨"PositionDesk", "currency", "()I"⟩
abbrev wX_currency : List Cond := Cond.code yX_currency prog_1_method_2_code 2 (Option.some Jvm.ClassFile.FieldType.int) :: lw_g
abbrev yX_security : MethodName := ⟨"PositionDesk", "security", "(JI)I"⟩
abbrev wX_security : List Cond := Cond.code yX_security prog_1_method_3_code 4 (Option.some Jvm.ClassFile.FieldType.int) :: lw_g
abbrev yX_price : MethodName := ⟨"PositionDesk", "price", "(IJI)I"⟩
abbrev wX_price : List Cond := Cond.code yX_price prog_1_method_4_code 9 (Option.some Jvm.ClassFile.FieldType.int) :: lw_g
abbrev yX_give : MethodName := ⟨"PositionDesk", "give", "(IIJ)I"⟩
abbrev wX_give : List Cond := Cond.code yX_give prog_1_method_5_code 6 (Option.some Jvm.ClassFile.FieldType.int) :: lw_g
abbrev yX_back : MethodName := ⟨"PositionDesk", "back", "(IIJ)I"⟩
abbrev wX_back : List Cond := Cond.code yX_back prog_1_method_6_code 6 (Option.some Jvm.ClassFile.FieldType.int) :: lw_g
abbrev yX_pledge : MethodName := ⟨"PositionDesk", "pledge", "(IIJ)I"⟩
abbrev wX_pledge : List Cond := Cond.code yX_pledge prog_1_method_7_code 6 (Option.some Jvm.ClassFile.FieldType.int) :: lw_g
abbrev yX_free : MethodName := ⟨"PositionDesk", "free", "(IIJ)I"⟩
abbrev wX_free : List Cond := Cond.code yX_free prog_1_method_8_code 6 (Option.some Jvm.ClassFile.FieldType.int) :: lw_g
abbrev yX_limit : MethodName := ⟨"PositionDesk", "limit", "(IIJ)I"⟩
abbrev wX_limit : List Cond := Cond.code yX_limit prog_1_method_9_code 5 (Option.some Jvm.ClassFile.FieldType.int) :: lw_g
abbrev yX_open : MethodName := ⟨"PositionDesk", "open", "(II)I"⟩
abbrev wX_open : List Cond := Cond.code yX_open prog_1_method_10_code 3 (Option.some Jvm.ClassFile.FieldType.int) :: lw_g
abbrev yX_day : MethodName := ⟨"PositionDesk", "day", "()V"⟩
abbrev wX_day : List Cond := Cond.code yX_day prog_1_method_11_code 1 ((Option.none : Option Jvm.ClassFile.FieldType)) :: lw_g
abbrev yX_leg : MethodName := ⟨"PositionDesk", "leg", "(IIIJ)I"⟩
abbrev wX_leg : List Cond := Cond.code yX_leg prog_1_method_12_code 6 (Option.some Jvm.ClassFile.FieldType.int) :: lw_g
abbrev yX_holds : MethodName := ⟨"PositionDesk", "holds", "()Z"⟩
abbrev wX_holds : List Cond := Cond.code yX_holds prog_1_method_13_code 2 (Option.some Jvm.ClassFile.FieldType.boolean) :: lw_g
abbrev yX_post : MethodName := ⟨"PositionDesk", "post", "()Z"⟩
abbrev wX_post : List Cond := Cond.code yX_post prog_1_method_14_code 2 (Option.some Jvm.ClassFile.FieldType.boolean) :: lw_g
abbrev yX_drop : MethodName := ⟨"PositionDesk", "drop", "()I"⟩
abbrev wX_drop : List Cond := Cond.code yX_drop prog_1_method_15_code 2 (Option.some Jvm.ClassFile.FieldType.int) :: lw_g
abbrev yX_net : MethodName := ⟨"PositionDesk", "net", "(I)J"⟩
abbrev wX_net : List Cond := Cond.code yX_net prog_1_method_16_code 3 (Option.some Jvm.ClassFile.FieldType.long) :: lw_g
abbrev yX_value : MethodName := ⟨"PositionDesk", "value", "(I)J"⟩
abbrev wX_value : List Cond := Cond.code yX_value prog_1_method_17_code 3 (Option.some Jvm.ClassFile.FieldType.long) :: lw_g
abbrev yX_floor : MethodName := ⟨"PositionDesk", "floor", "(I)J"⟩
abbrev wX_floor : List Cond := Cond.code yX_floor prog_1_method_18_code 3 (Option.some Jvm.ClassFile.FieldType.long) :: lw_g
abbrev yX_isThere : MethodName := ⟨"PositionDesk", "isThere", "(I)Z"⟩
abbrev wX_isThere : List Cond := Cond.code yX_isThere prog_1_method_19_code 2 (Option.some Jvm.ClassFile.FieldType.boolean) :: lw_g
abbrev yX_credit : MethodName := ⟨"PositionDesk", "credit", "(I)J"⟩
abbrev wX_credit : List Cond := Cond.code yX_credit prog_1_method_20_code 2 (Option.some Jvm.ClassFile.FieldType.long) :: lw_g
abbrev yX_isClient : MethodName := ⟨"PositionDesk", "isClient", "(I)Z"⟩
abbrev wX_isClient : List Cond := Cond.code yX_isClient prog_1_method_21_code 2 (Option.some Jvm.ClassFile.FieldType.boolean) :: lw_g
abbrev yX_areTwoClients : MethodName := ⟨"PositionDesk", "areTwoClients", "(II)Z"⟩
abbrev wX_areTwoClients : List Cond := Cond.code yX_areTwoClients prog_1_method_22_code 3 (Option.some Jvm.ClassFile.FieldType.boolean) :: lw_g
abbrev yX_isAmount : MethodName := ⟨"PositionDesk", "isAmount", "(J)Z"⟩
abbrev wX_isAmount : List Cond := Cond.code yX_isAmount prog_1_method_23_code 2 (Option.some Jvm.ClassFile.FieldType.boolean) :: lw_g
abbrev yX_isPriced : MethodName := ⟨"PositionDesk", "isPriced", "(JI)Z"⟩
abbrev wX_isPriced : List Cond := Cond.code yX_isPriced prog_1_method_24_code 3 (Option.some Jvm.ClassFile.FieldType.boolean) :: lw_g
abbrev yX_isPosition : MethodName := ⟨"PositionDesk", "isPosition", "(I)Z"⟩
abbrev wX_isPosition : List Cond := Cond.code yX_isPosition prog_1_method_25_code 2 (Option.some Jvm.ClassFile.FieldType.boolean) :: lw_g
abbrev yX_ownerOf : MethodName := ⟨"PositionDesk", "ownerOf", "(I)I"⟩
abbrev wX_ownerOf : List Cond := Cond.code yX_ownerOf prog_1_method_26_code 2 (Option.some Jvm.ClassFile.FieldType.int) :: lw_g
abbrev yX_assetOf : MethodName := ⟨"PositionDesk", "assetOf", "(I)I"⟩
abbrev wX_assetOf : List Cond := Cond.code yX_assetOf prog_1_method_27_code 2 (Option.some Jvm.ClassFile.FieldType.int) :: lw_g
abbrev yX_pairOf : MethodName := ⟨"PositionDesk", "pairOf", "(II)I"⟩
abbrev wX_pairOf : List Cond := Cond.code yX_pairOf prog_1_method_28_code 3 (Option.some Jvm.ClassFile.FieldType.int) :: lw_g
abbrev yX_assetAt : MethodName := ⟨"PositionDesk", "assetAt", "(I)LPositionDesk$Asset;"⟩
abbrev wX_assetAt : List Cond := Cond.code yX_assetAt prog_1_method_29_code 2 (Option.some (Jvm.ClassFile.FieldType.object "PositionDesk$Asset")) :: lw_g
abbrev yX_securityAt : MethodName := ⟨"PositionDesk", "securityAt", "(I)LPositionDesk$Asset;"⟩
abbrev wX_securityAt : List Cond := Cond.code yX_securityAt prog_1_method_30_code 3 (Option.some (Jvm.ClassFile.FieldType.object "PositionDesk$Asset")) :: lw_g
abbrev yX_addAsset : MethodName := ⟨"PositionDesk", "addAsset", "(ZJ)I"⟩
abbrev wX_addAsset : List Cond := Cond.code yX_addAsset prog_1_method_31_code 5 (Option.some Jvm.ClassFile.FieldType.int) :: lw_g
abbrev yX_rateOf : MethodName := ⟨"PositionDesk", "rateOf", "(JI)J"⟩
abbrev wX_rateOf : List Cond := Cond.code yX_rateOf prog_1_method_32_code 3 (Option.some Jvm.ClassFile.FieldType.long) :: lw_g
abbrev yX_lowest : MethodName := ⟨"PositionDesk", "lowest", "(LPositionDesk$Asset;I)J"⟩
abbrev wX_lowest : List Cond := Cond.code yX_lowest prog_1_method_33_code 3 (Option.some Jvm.ClassFile.FieldType.long) :: lw_g
abbrev yX_creditWith : MethodName := ⟨"PositionDesk", "creditWith", "(LPositionDesk$Asset;IJJ)J"⟩
abbrev wX_creditWith : List Cond := Cond.code yX_creditWith prog_1_method_34_code 9 (Option.some Jvm.ClassFile.FieldType.long) :: lw_g
abbrev yX_worth : MethodName := ⟨"PositionDesk", "worth", "(JJ)J"⟩
abbrev wX_worth : List Cond := Cond.code yX_worth prog_1_method_35_code 10 (Option.some Jvm.ClassFile.FieldType.long) :: lw_g
abbrev yX_isOverdrawn : MethodName := ⟨"PositionDesk", "isOverdrawn", "(IJ)Z"⟩
abbrev wX_isOverdrawn : List Cond := Cond.code yX_isOverdrawn prog_1_method_36_code 5 (Option.some Jvm.ClassFile.FieldType.boolean) :: lw_g
abbrev yX_setPledged : MethodName := ⟨"PositionDesk", "setPledged", "(LPositionDesk$Asset;IJ)I"⟩
abbrev wX_setPledged : List Cond := Cond.code yX_setPledged prog_1_method_37_code 9 (Option.some Jvm.ClassFile.FieldType.int) :: lw_g
abbrev yX_faultOfRate : MethodName := ⟨"PositionDesk", "faultOfRate", "(LPositionDesk$Asset;J)I"⟩
abbrev wX_faultOfRate : List Cond := Cond.code yX_faultOfRate prog_1_method_38_code 9 (Option.some Jvm.ClassFile.FieldType.int) :: lw_g
abbrev yX_setRate : MethodName := ⟨"PositionDesk", "setRate", "(LPositionDesk$Asset;J)V"⟩
abbrev wX_setRate : List Cond := Cond.code yX_setRate prog_1_method_39_code 7 ((Option.none : Option Jvm.ClassFile.FieldType)) :: lw_g
abbrev yX_paidFrom : MethodName := ⟨"PositionDesk", "paidFrom", "(II)J"⟩
abbrev wX_paidFrom : List Cond := Cond.code yX_paidFrom prog_1_method_40_code 3 (Option.some Jvm.ClassFile.FieldType.long) :: lw_g
abbrev yX_addPaid : MethodName := ⟨"PositionDesk", "addPaid", "(IIJ)V"⟩
abbrev wX_addPaid : List Cond := Cond.code yX_addPaid prog_1_method_41_code 6 ((Option.none : Option Jvm.ClassFile.FieldType)) :: lw_g
abbrev yX_roomOf : MethodName := ⟨"PositionDesk", "roomOf", "(I)J"⟩
abbrev wX_roomOf : List Cond := Cond.code yX_roomOf prog_1_method_42_code 2 (Option.some Jvm.ClassFile.FieldType.long) :: lw_g
abbrev yX_breaksFloor : MethodName := ⟨"PositionDesk", "breaksFloor", "(II)Z"⟩
abbrev wX_breaksFloor : List Cond := Cond.code yX_breaksFloor prog_1_method_43_code 6 (Option.some Jvm.ClassFile.FieldType.boolean) :: lw_g
abbrev yX_breaksRoom : MethodName := ⟨"PositionDesk", "breaksRoom", "(I)Z"⟩
abbrev wX_breaksRoom : List Cond := Cond.code yX_breaksRoom prog_1_method_44_code 5 (Option.some Jvm.ClassFile.FieldType.boolean) :: lw_g
abbrev yX_doLeg : MethodName := ⟨"PositionDesk", "doLeg", "(I)V"⟩
abbrev wX_doLeg : List Cond := Cond.code yX_doLeg prog_1_method_45_code 3 ((Option.none : Option Jvm.ClassFile.FieldType)) :: lw_g
abbrev yA_init : MethodName := ⟨"PositionDesk$Asset", "<init>", "(ZJI)V"⟩
abbrev wA_init : List Cond := Cond.code yA_init prog_2_method_1_code 5 ((Option.none : Option Jvm.ClassFile.FieldType)) :: lw_g
abbrev yA_move : MethodName := ⟨"PositionDesk$Asset", "move", "(IIJ)V"⟩
abbrev wA_move : List Cond := Cond.code yA_move prog_2_method_2_code 5 ((Option.none : Option Jvm.ClassFile.FieldType)) :: lw_g
abbrev yG_init : MethodName := ⟨"PositionDesk$Legs", "<init>", "()V"⟩
abbrev wG_init : List Cond := Cond.code yG_init prog_3_method_1_code 1 ((Option.none : Option Jvm.ClassFile.FieldType)) :: lw_g
abbrev yG_add : MethodName := ⟨"PositionDesk$Legs", "add", "(IIIJ)Z"⟩
abbrev wG_add : List Cond := Cond.code yG_add prog_3_method_2_code 6 (Option.some Jvm.ClassFile.FieldType.boolean) :: lw_g
abbrev yG_netOf : MethodName := ⟨"PositionDesk$Legs", "netOf", "(II)J"⟩
abbrev wG_netOf : List Cond := Cond.code yG_netOf prog_3_method_3_code 6 (Option.some Jvm.ClassFile.FieldType.long) :: lw_g
abbrev yG_paidFrom : MethodName := ⟨"PositionDesk$Legs", "paidFrom", "(III)J"⟩
abbrev wG_paidFrom : List Cond := Cond.code yG_paidFrom prog_3_method_4_code 7 (Option.some Jvm.ClassFile.FieldType.long) :: lw_g
abbrev yP_init : MethodName := ⟨"PositionDesk$PairAmounts", "<init>", "(I)V"⟩
abbrev wP_init : List Cond := Cond.code yP_init prog_4_method_1_code 2 ((Option.none : Option Jvm.ClassFile.FieldType)) :: lw_g
abbrev yP_indexOf : MethodName := ⟨"PositionDesk$PairAmounts", "indexOf", "(I)I"⟩
abbrev wP_indexOf : List Cond := Cond.code yP_indexOf prog_4_method_2_code 3 (Option.some Jvm.ClassFile.FieldType.int) :: lw_g
abbrev yP_has : MethodName := ⟨"PositionDesk$PairAmounts", "has", "(I)Z"⟩
abbrev wP_has : List Cond := Cond.code yP_has prog_4_method_3_code 2 (Option.some Jvm.ClassFile.FieldType.boolean) :: lw_g
abbrev yP_amountOf : MethodName := ⟨"PositionDesk$PairAmounts", "amountOf", "(I)J"⟩
abbrev wP_amountOf : List Cond := Cond.code yP_amountOf prog_4_method_4_code 3 (Option.some Jvm.ClassFile.FieldType.long) :: lw_g
abbrev yP_put : MethodName := ⟨"PositionDesk$PairAmounts", "put", "(IJ)Z"⟩
abbrev wP_put : List Cond := Cond.code yP_put prog_4_method_5_code 5 (Option.some Jvm.ClassFile.FieldType.boolean) :: lw_g
abbrev yP_remove : MethodName := ⟨"PositionDesk$PairAmounts", "remove", "(I)Z"⟩
abbrev wP_remove : List Cond := Cond.code yP_remove prog_4_method_6_code 3 (Option.some Jvm.ClassFile.FieldType.boolean) :: lw_g
abbrev yP_clear : MethodName := ⟨"PositionDesk$PairAmounts", "clear", "()V"⟩
abbrev wP_clear : List Cond := Cond.code yP_clear prog_4_method_7_code 1 ((Option.none : Option Jvm.ClassFile.FieldType)) :: lw_g
abbrev yM_init : MethodName := ⟨"PositionDeskModel", "<init>", "(II)V"⟩
abbrev wM_init : List Cond := Cond.code yM_init prog_6_method_1_code 5 ((Option.none : Option Jvm.ClassFile.FieldType)) :: lw_g
abbrev yM_position : MethodName := ⟨"PositionDeskModel", "position", "(II)J"⟩
abbrev wM_position : List Cond := Cond.code yM_position prog_6_method_2_code 6 (Option.some Jvm.ClassFile.FieldType.long) :: lw_g
abbrev yM_pledged : MethodName := ⟨"PositionDeskModel", "pledged", "(II)J"⟩
abbrev wM_pledged : List Cond := Cond.code yM_pledged prog_6_method_3_code 6 (Option.some Jvm.ClassFile.FieldType.long) :: lw_g
abbrev yM_netPaid : MethodName := ⟨"PositionDeskModel", "netPaid", "(II)J"⟩
abbrev wM_netPaid : List Cond := Cond.code yM_netPaid prog_6_method_4_code 6 (Option.some Jvm.ClassFile.FieldType.long) :: lw_g
abbrev yM_worth : MethodName := ⟨"PositionDeskModel", "worth", "(JJI)J"⟩
abbrev wM_worth : List Cond := Cond.code yM_worth prog_6_method_5_code 13 (Option.some Jvm.ClassFile.FieldType.long) :: lw_g
abbrev yM_creditOf : MethodName := ⟨"PositionDeskModel", "creditOf", "(I)J"⟩
abbrev wM_creditOf : List Cond := Cond.code yM_creditOf prog_6_method_6_code 5 (Option.some Jvm.ClassFile.FieldType.long) :: lw_g
abbrev yM_isOwed : MethodName := ⟨"PositionDeskModel", "isOwed", "()Z"⟩
abbrev wM_isOwed : List Cond := Cond.code yM_isOwed prog_6_method_7_code 4 (Option.some Jvm.ClassFile.FieldType.boolean) :: lw_g
abbrev yM_isShort : MethodName := ⟨"PositionDeskModel", "isShort", "(I)Z"⟩
abbrev wM_isShort : List Cond := Cond.code yM_isShort prog_6_method_8_code 2 (Option.some Jvm.ClassFile.FieldType.boolean) :: lw_g
abbrev yM_floorOf : MethodName := ⟨"PositionDeskModel", "floorOf", "(II)J"⟩
abbrev wM_floorOf : List Cond := Cond.code yM_floorOf prog_6_method_9_code 3 (Option.some Jvm.ClassFile.FieldType.long) :: lw_g
abbrev yM_isParticipant : MethodName := ⟨"PositionDeskModel", "isParticipant", "(I)Z"⟩
abbrev wM_isParticipant : List Cond := Cond.code yM_isParticipant prog_6_method_10_code 2 (Option.some Jvm.ClassFile.FieldType.boolean) :: lw_g
abbrev yM_isAsset : MethodName := ⟨"PositionDeskModel", "isAsset", "(I)Z"⟩
abbrev wM_isAsset : List Cond := Cond.code yM_isAsset prog_6_method_11_code 2 (Option.some Jvm.ClassFile.FieldType.boolean) :: lw_g
abbrev yM_isAmount : MethodName := ⟨"PositionDeskModel", "isAmount", "(J)Z"⟩
abbrev wM_isAmount : List Cond := Cond.code yM_isAmount prog_6_method_12_code 2 (Option.some Jvm.ClassFile.FieldType.boolean) :: lw_g
abbrev yM_limitAt : MethodName := ⟨"PositionDeskModel", "limitAt", "(II)I"⟩
abbrev wM_limitAt : List Cond := Cond.code yM_limitAt prog_6_method_13_code 5 (Option.some Jvm.ClassFile.FieldType.int) :: lw_g
abbrev yM_pair : MethodName := ⟨"PositionDeskModel", "pair", "(I)I"⟩
abbrev wM_pair : List Cond := Cond.code yM_pair prog_6_method_14_code 2 (Option.some Jvm.ClassFile.FieldType.int) :: lw_g
abbrev yM_isRoom : MethodName := ⟨"PositionDeskModel", "isRoom", "(I)Z"⟩
abbrev wM_isRoom : List Cond := Cond.code yM_isRoom prog_6_method_15_code 2 (Option.some Jvm.ClassFile.FieldType.boolean) :: lw_g
abbrev yM_isThere : MethodName := ⟨"PositionDeskModel", "isThere", "(I)Z"⟩
abbrev wM_isThere : List Cond := Cond.code yM_isThere prog_6_method_16_code 2 (Option.some Jvm.ClassFile.FieldType.boolean) :: lw_g
abbrev yM_currency : MethodName := ⟨"PositionDeskModel", "currency", "()I"⟩
abbrev wM_currency : List Cond := Cond.code yM_currency prog_6_method_17_code 1 (Option.some Jvm.ClassFile.FieldType.int) :: lw_g
abbrev yM_isPrice : MethodName := ⟨"PositionDeskModel", "isPrice", "(JI)Z"⟩
abbrev wM_isPrice : List Cond := Cond.code yM_isPrice prog_6_method_18_code 3 (Option.some Jvm.ClassFile.FieldType.boolean) :: lw_g
abbrev yM_security : MethodName := ⟨"PositionDeskModel", "security", "(JI)I"⟩
abbrev wM_security : List Cond := Cond.code yM_security prog_6_method_19_code 4 (Option.some Jvm.ClassFile.FieldType.int) :: lw_g
abbrev yM_price : MethodName := ⟨"PositionDeskModel", "price", "(IJI)I"⟩
abbrev wM_price : List Cond := Cond.code yM_price prog_6_method_20_code 10 (Option.some Jvm.ClassFile.FieldType.int) :: lw_g
abbrev yM_move : MethodName := ⟨"PositionDeskModel", "move", "(IIJ)V"⟩
abbrev wM_move : List Cond := Cond.code yM_move prog_6_method_21_code 5 ((Option.none : Option Jvm.ClassFile.FieldType)) :: lw_g
abbrev yM_give : MethodName := ⟨"PositionDeskModel", "give", "(IIJ)I"⟩
abbrev wM_give : List Cond := Cond.code yM_give prog_6_method_22_code 5 (Option.some Jvm.ClassFile.FieldType.int) :: lw_g
abbrev yM_back : MethodName := ⟨"PositionDeskModel", "back", "(IIJ)I"⟩
abbrev wM_back : List Cond := Cond.code yM_back prog_6_method_23_code 5 (Option.some Jvm.ClassFile.FieldType.int) :: lw_g
abbrev yM_pledgeMore : MethodName := ⟨"PositionDeskModel", "pledgeMore", "(IIJ)V"⟩
abbrev wM_pledgeMore : List Cond := Cond.code yM_pledgeMore prog_6_method_24_code 5 ((Option.none : Option Jvm.ClassFile.FieldType)) :: lw_g
abbrev yM_pledge : MethodName := ⟨"PositionDeskModel", "pledge", "(IIJ)I"⟩
abbrev wM_pledge : List Cond := Cond.code yM_pledge prog_6_method_25_code 6 (Option.some Jvm.ClassFile.FieldType.int) :: lw_g
abbrev yM_free : MethodName := ⟨"PositionDeskModel", "free", "(IIJ)I"⟩
abbrev wM_free : List Cond := Cond.code yM_free prog_6_method_26_code 6 (Option.some Jvm.ClassFile.FieldType.int) :: lw_g
abbrev yM_limit : MethodName := ⟨"PositionDeskModel", "limit", "(IIJ)I"⟩
abbrev wM_limit : List Cond := Cond.code yM_limit prog_6_method_27_code 6 (Option.some Jvm.ClassFile.FieldType.int) :: lw_g
abbrev yM_open : MethodName := ⟨"PositionDeskModel", "open", "(II)I"⟩
abbrev wM_open : List Cond := Cond.code yM_open prog_6_method_28_code 4 (Option.some Jvm.ClassFile.FieldType.int) :: lw_g
abbrev yM_day : MethodName := ⟨"PositionDeskModel", "day", "()V"⟩
abbrev wM_day : List Cond := Cond.code yM_day prog_6_method_29_code 1 ((Option.none : Option Jvm.ClassFile.FieldType)) :: lw_g
abbrev yM_leg : MethodName := ⟨"PositionDeskModel", "leg", "(IIIJ)I"⟩
abbrev wM_leg : List Cond := Cond.code yM_leg prog_6_method_30_code 6 (Option.some Jvm.ClassFile.FieldType.int) :: lw_g
abbrev yM_drop : MethodName := ⟨"PositionDeskModel", "drop", "()I"⟩
abbrev wM_drop : List Cond := Cond.code yM_drop prog_6_method_31_code 2 (Option.some Jvm.ClassFile.FieldType.int) :: lw_g
abbrev yM_net : MethodName := ⟨"PositionDeskModel", "net", "(I)J"⟩
abbrev wM_net : List Cond := Cond.code yM_net prog_6_method_32_code 9 (Option.some Jvm.ClassFile.FieldType.long) :: lw_g
abbrev yM_fits : MethodName := ⟨"PositionDeskModel", "fits", "(I)Z"⟩
abbrev wM_fits : List Cond := Cond.code yM_fits prog_6_method_33_code 2 (Option.some Jvm.ClassFile.FieldType.boolean) :: lw_g
abbrev yM_holds : MethodName := ⟨"PositionDeskModel", "holds", "()Z"⟩
abbrev wM_holds : List Cond := Cond.code yM_holds prog_6_method_34_code 4 (Option.some Jvm.ClassFile.FieldType.boolean) :: lw_g
abbrev yM_post : MethodName := ⟨"PositionDeskModel", "post", "()Z"⟩
abbrev wM_post : List Cond := Cond.code yM_post prog_6_method_35_code 2 (Option.some Jvm.ClassFile.FieldType.boolean) :: lw_g
abbrev yM_value : MethodName := ⟨"PositionDeskModel", "value", "(I)J"⟩
abbrev wM_value : List Cond := Cond.code yM_value prog_6_method_36_code 4 (Option.some Jvm.ClassFile.FieldType.long) :: lw_g
abbrev yM_floor : MethodName := ⟨"PositionDeskModel", "floor", "(I)J"⟩
abbrev wM_floor : List Cond := Cond.code yM_floor prog_6_method_37_code 2 (Option.some Jvm.ClassFile.FieldType.long) :: lw_g
abbrev yM_credit : MethodName := ⟨"PositionDeskModel", "credit", "(I)J"⟩
abbrev wM_credit : List Cond := Cond.code yM_credit prog_6_method_38_code 2 (Option.some Jvm.ClassFile.FieldType.long) :: lw_g
abbrev yL_cell : MethodName := ⟨"PositionDeskLaw", "cell", "([II)I"⟩
abbrev wL_cell : List Cond := Cond.code yL_cell method_2_code 2 (Option.some Jvm.ClassFile.FieldType.int) :: lw_g
theorem k_gC {y : MethodName} {cc : ByteArray} {n : Nat} {r : Option FieldType} (h : Cond.code y cc n r ∈ lw_g) : GoodIn lw_g (Cond.code y cc n r :: lw_g) := by
  intro w hw
  rcases List.mem_cons.mp hw with rfl | hw
  · exact k_in h
  · exact k_in hw
theorem k_gV {own C : String} {idx : Nat} {y : MethodName} {cc : ByteArray} {n : Nat} {r : Option FieldType} (h1 : Cond.methodLink own idx y ∈ lw_g) (h2 : Cond.instanceMethod y ∈ lw_g) (h3 : Cond.selects C y y ∈ lw_g) (h4 : Cond.initialized C ∈ lw_g) (h5 : Cond.code y cc n r ∈ lw_g) : GoodIn lw_g (wsV own idx C y (Cond.code y cc n r :: lw_g)) := by
  intro w hw
  unfold wsV at hw
  rcases List.mem_append.mp hw with hw | hw
  · rcases List.mem_cons.mp hw with rfl | hw
    · exact k_in h1
    rcases List.mem_cons.mp hw with rfl | hw
    · exact k_in h2
    rcases List.mem_cons.mp hw with rfl | hw
    · exact k_in h3
    rcases List.mem_cons.mp hw with rfl | hw
    · exact k_in h4
    · cases hw
  · exact k_gC h5 w hw
theorem k_gS {own : String} {idx : Nat} {y : MethodName} {cc : ByteArray} {n : Nat} {r : Option FieldType} (h1 : Cond.methodLink own idx y ∈ lw_g) (h2 : Cond.static y ∈ lw_g) (h4 : Cond.initialized own ∈ lw_g) (h5 : Cond.code y cc n r ∈ lw_g) : GoodIn lw_g (wsS own idx y (Cond.code y cc n r :: lw_g)) := by
  intro w hw
  unfold wsS at hw
  rcases List.mem_append.mp hw with hw | hw
  · rcases List.mem_cons.mp hw with rfl | hw
    · exact k_in h1
    rcases List.mem_cons.mp hw with rfl | hw
    · exact k_in h2
    rcases List.mem_cons.mp hw with rfl | hw
    · exact k_in h4
    · cases hw
  · exact k_gC h5 w hw
