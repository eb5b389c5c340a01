theorem dX_init_0 : decode prog_1_method_1_code 0 = .ok (.aload_n 0, 1) := by decide +kernel
theorem dX_init_1 : decode prog_1_method_1_code 1 = .ok (.invokespecial 1, 3) := by decide +kernel
theorem dX_init_4 : decode prog_1_method_1_code 4 = .ok (.iload_n 1, 1) := by decide +kernel
theorem dX_init_5 : decode prog_1_method_1_code 5 = .ok (.iconst 2, 1) := by decide +kernel
theorem dX_init_6 : decode prog_1_method_1_code 6 = .ok (.if_icmp .lt 14, 3) := by decide +kernel
theorem dX_init_9 : decode prog_1_method_1_code 9 = .ok (.iload_n 1, 1) := by decide +kernel
theorem dX_init_10 : decode prog_1_method_1_code 10 = .ok (.sipush 256, 3) := by decide +kernel
theorem dX_init_13 : decode prog_1_method_1_code 13 = .ok (.if_icmp .gt 7, 3) := by decide +kernel
theorem dX_init_16 : decode prog_1_method_1_code 16 = .ok (.iconst 1, 1) := by decide +kernel
theorem dX_init_17 : decode prog_1_method_1_code 17 = .ok (.goto 4, 3) := by decide +kernel
theorem dX_init_20 : decode prog_1_method_1_code 20 = .ok (.iconst 0, 1) := by decide +kernel
theorem dX_init_21 : decode prog_1_method_1_code 21 = .ok (.istore_n 3, 1) := by decide +kernel
theorem dX_init_22 : decode prog_1_method_1_code 22 = .ok (.iload_n 2, 1) := by decide +kernel
theorem dX_init_23 : decode prog_1_method_1_code 23 = .ok (.iconst 1, 1) := by decide +kernel
theorem dX_init_24 : decode prog_1_method_1_code 24 = .ok (.if_icmp .lt 13, 3) := by decide +kernel
theorem dX_init_27 : decode prog_1_method_1_code 27 = .ok (.iload_n 2, 1) := by decide +kernel
theorem dX_init_28 : decode prog_1_method_1_code 28 = .ok (.bipush 64, 2) := by decide +kernel
theorem dX_init_30 : decode prog_1_method_1_code 30 = .ok (.if_icmp .gt 7, 3) := by decide +kernel
theorem dX_init_33 : decode prog_1_method_1_code 33 = .ok (.iconst 1, 1) := by decide +kernel
theorem dX_init_34 : decode prog_1_method_1_code 34 = .ok (.goto 4, 3) := by decide +kernel
theorem dX_init_37 : decode prog_1_method_1_code 37 = .ok (.iconst 0, 1) := by decide +kernel
theorem dX_init_38 : decode prog_1_method_1_code 38 = .ok (.istore 4, 2) := by decide +kernel
theorem dX_init_40 : decode prog_1_method_1_code 40 = .ok (.aload_n 0, 1) := by decide +kernel
theorem dX_init_41 : decode prog_1_method_1_code 41 = .ok (.iload_n 3, 1) := by decide +kernel
theorem dX_init_42 : decode prog_1_method_1_code 42 = .ok (.ifCond .eq 7, 3) := by decide +kernel
theorem dX_init_45 : decode prog_1_method_1_code 45 = .ok (.iload_n 1, 1) := by decide +kernel
theorem dX_init_46 : decode prog_1_method_1_code 46 = .ok (.goto 5, 3) := by decide +kernel
theorem dX_init_49 : decode prog_1_method_1_code 49 = .ok (.bipush 8, 2) := by decide +kernel
theorem dX_init_51 : decode prog_1_method_1_code 51 = .ok (.putfield 9, 3) := by decide +kernel
theorem dX_init_54 : decode prog_1_method_1_code 54 = .ok (.aload_n 0, 1) := by decide +kernel
theorem dX_init_55 : decode prog_1_method_1_code 55 = .ok (.iload 4, 2) := by decide +kernel
theorem dX_init_57 : decode prog_1_method_1_code 57 = .ok (.ifCond .eq 7, 3) := by decide +kernel
theorem dX_init_60 : decode prog_1_method_1_code 60 = .ok (.iload_n 2, 1) := by decide +kernel
theorem dX_init_61 : decode prog_1_method_1_code 61 = .ok (.goto 5, 3) := by decide +kernel
theorem dX_init_64 : decode prog_1_method_1_code 64 = .ok (.bipush 6, 2) := by decide +kernel
theorem dX_init_66 : decode prog_1_method_1_code 66 = .ok (.anewarray 13, 3) := by decide +kernel
theorem dX_init_69 : decode prog_1_method_1_code 69 = .ok (.putfield 15, 3) := by decide +kernel
theorem dX_init_72 : decode prog_1_method_1_code 72 = .ok (.aload_n 0, 1) := by decide +kernel
theorem dX_init_73 : decode prog_1_method_1_code 73 = .ok (.aload_n 0, 1) := by decide +kernel
theorem dX_init_74 : decode prog_1_method_1_code 74 = .ok (.getfield 9, 3) := by decide +kernel
theorem dX_init_77 : decode prog_1_method_1_code 77 = .ok (.aload_n 0, 1) := by decide +kernel
theorem dX_init_78 : decode prog_1_method_1_code 78 = .ok (.getfield 15, 3) := by decide +kernel
theorem dX_init_81 : decode prog_1_method_1_code 81 = .ok (.arraylength, 1) := by decide +kernel
theorem dX_init_82 : decode prog_1_method_1_code 82 = .ok (.imul, 1) := by decide +kernel
theorem dX_init_83 : decode prog_1_method_1_code 83 = .ok (.putfield 19, 3) := by decide +kernel
theorem dX_init_86 : decode prog_1_method_1_code 86 = .ok (.aload_n 0, 1) := by decide +kernel
theorem dX_init_87 : decode prog_1_method_1_code 87 = .ok (.iconst 0, 1) := by decide +kernel
theorem dX_init_88 : decode prog_1_method_1_code 88 = .ok (.putfield 22, 3) := by decide +kernel
theorem dX_init_91 : decode prog_1_method_1_code 91 = .ok (.aload_n 0, 1) := by decide +kernel
theorem dX_init_92 : decode prog_1_method_1_code 92 = .ok (.iconst (-1), 1) := by decide +kernel
theorem dX_init_93 : decode prog_1_method_1_code 93 = .ok (.putfield 25, 3) := by decide +kernel
theorem dX_init_96 : decode prog_1_method_1_code 96 = .ok (.aload_n 0, 1) := by decide +kernel
theorem dX_init_97 : decode prog_1_method_1_code 97 = .ok (.aload_n 0, 1) := by decide +kernel
theorem dX_init_98 : decode prog_1_method_1_code 98 = .ok (.getfield 9, 3) := by decide +kernel
theorem dX_init_101 : decode prog_1_method_1_code 101 = .ok (.newarray .long, 2) := by decide +kernel
theorem dX_init_103 : decode prog_1_method_1_code 103 = .ok (.putfield 28, 3) := by decide +kernel
theorem dX_init_106 : decode prog_1_method_1_code 106 = .ok (.aload_n 0, 1) := by decide +kernel
theorem dX_init_107 : decode prog_1_method_1_code 107 = .ok (.lconst 0, 1) := by decide +kernel
theorem dX_init_108 : decode prog_1_method_1_code 108 = .ok (.putfield 32, 3) := by decide +kernel
theorem dX_init_111 : decode prog_1_method_1_code 111 = .ok (.aload_n 0, 1) := by decide +kernel
theorem dX_init_112 : decode prog_1_method_1_code 112 = .ok (.new 36, 3) := by decide +kernel
theorem dX_init_115 : decode prog_1_method_1_code 115 = .ok (.dup, 1) := by decide +kernel
theorem dX_init_116 : decode prog_1_method_1_code 116 = .ok (.bipush 40, 2) := by decide +kernel
theorem dX_init_118 : decode prog_1_method_1_code 118 = .ok (.invokespecial 38, 3) := by decide +kernel
theorem dX_init_121 : decode prog_1_method_1_code 121 = .ok (.putfield 41, 3) := by decide +kernel
theorem dX_init_124 : decode prog_1_method_1_code 124 = .ok (.aload_n 0, 1) := by decide +kernel
theorem dX_init_125 : decode prog_1_method_1_code 125 = .ok (.new 36, 3) := by decide +kernel
theorem dX_init_128 : decode prog_1_method_1_code 128 = .ok (.dup, 1) := by decide +kernel
theorem dX_init_129 : decode prog_1_method_1_code 129 = .ok (.sipush 512, 3) := by decide +kernel
theorem dX_init_132 : decode prog_1_method_1_code 132 = .ok (.invokespecial 38, 3) := by decide +kernel
theorem dX_init_135 : decode prog_1_method_1_code 135 = .ok (.putfield 45, 3) := by decide +kernel
theorem dX_init_138 : decode prog_1_method_1_code 138 = .ok (.aload_n 0, 1) := by decide +kernel
theorem dX_init_139 : decode prog_1_method_1_code 139 = .ok (.new 48, 3) := by decide +kernel
theorem dX_init_142 : decode prog_1_method_1_code 142 = .ok (.dup, 1) := by decide +kernel
theorem dX_init_143 : decode prog_1_method_1_code 143 = .ok (.invokespecial 50, 3) := by decide +kernel
theorem dX_init_146 : decode prog_1_method_1_code 146 = .ok (.putfield 51, 3) := by decide +kernel
theorem dX_init_149 : decode prog_1_method_1_code 149 = .ok (.return_, 1) := by decide +kernel
def xInit (p a : Int32) : XS := (fun j => if j = 0 then qP p else if j = 1 then qA a else 0, -1, 0, fun _ _ => 0, fun _ _ => 0, fun _ => 0, fun _ => 0, fun _ _ => 0, fun _ _ => 0)
/-- the head of a method whose start says more than its cells -/
theorem kMetE {l : Launch} {D : va_G} {cl : List vw_C} {tys : List (ClassId × FieldType)} {d : Nat → Nat} {κ : Nat → Option va_E} {E : State → Prop} {y : MethodName} {rm : Room} {av : List Value} {sz : Nat} {Qc : Array Value → State → Outcome → State → Prop} {mc ms : Nat} {free : Addr → Prop} {cc : ByteArray} {maxL : Nat} {ret : Option FieldType} (hy : plainName y.cls = true) (hlen : (lg_sl av).length ≤ maxL)
    (body : ∀ (p : Program) (e : Env) (s : State) (m : MethodId) (below : List Frame) (meth : Method) (c : Code), p.tables.exec = Jvm.exec → c.code = cc → meth.sig.returnType = ret → c.maxLocals = maxL → s.vm.findClass y.cls = some m.cls → meth.locks = false → meth.name = y.name → (∀ w ∈ lw_g, w.before av.toArray s = true) → s.heap.size = sz → kH D cl d κ s.heap → va_K D cl tys s → E s → ∀ ls : Array Slot, lv_has ls maxL (lv_args 0 av) →
      W p l e rm s m av.toArray below meth c s.heap [] 0 0 (MQ below Qc av.toArray s mc ms free) (F0 m 0 ls [])) : Met l y (Cond.code y cc maxL ret :: lw_g) rm (va_Pc av (fun U => kC D cl tys d κ sz U ∧ E U)) Qc mc ms free := by
  refine Met.ofW (cc := cc) (maxL := maxL) (ret := ret) (ws' := lw_g) hy rfl ?_
  intro p e s m args below meth c s₁ B hml hv
  obtain ⟨rfl, ⟨hsz, hP, hK⟩, hE⟩ := hv
  have hl := lv_entry av (n := maxL) hlen
  rw [lg_entry_eq]
  exact body p e s m below meth c B.exec B.bytes B.returns hml (findClass_of_methodNamed B.named) B.notSynchronized (name_of_methodNamed B.named B.method).1 (fun w h => atoms_spec (ws := Cond.code y cc maxL ret :: lw_g) B.pre w (List.mem_cons_of_mem _ h)) hsz hP hK hE _ hl
section KNQ
variable {p : Program} {l : Launch} {e : Env} {R : Room} {s : State} {m : MethodId} {args : Array Value} {below : List Frame} {meth : Method} {c : Code} {H : Heap} {locs : List Loc} {cells slots : Nat} {Q : State → Prop}
variable {cc : ByteArray} {pc : Nat} {ls : Array Slot} {rest : List Value} {D : va_G} {cl : List vw_C} {d : Nat → Nat} {κ : Nat → Option va_E} {A : Nat → Prop} {tys : List (ClassId × FieldType)} {H0 : Heap}
theorem ka_newq (hexec : p.tables.exec = Jvm.exec) (hb : c.code = cc) {own C : String} {index : Nat} (hown : s.vm.findClass own = some m.cls) (hclink : (Cond.classLink own index C).before args s = true) (hover : va_AO C s) (hK : va_K D cl tys s) (t0 : Nat) {cA : ClassId} (ht : tys[t0]? = some (cA, .object C)) (hM : kW D cl d κ A H0 H locs) (hA : ∀ q, H0.size ≤ q → A q) (q : Nat) (hq : κ q = none)
    {n : Int32} {N' : Nat} (hn : ¬ n < 0) (hN : n.toNatClampNeg = N') (hbytes : N' * 4 ≤ 536870912) (hcells : cells + 1 ≤ R.cells) (hslots : slots + N' ≤ R.slots) (hdg : decode cc pc = .ok (.anewarray index, 3))
    (kk : ∀ (a : Nat) (H1 : Heap), kW D cl (va_up d q a) (va_up κ q (some (.inl (cA, N', .inr (.inr (.inr (.inr (fun _ => none)))))))) A H0 H1 locs →
      W p l e R s m args below meth c H1 locs (cells + 1) (slots + N') Q (F0 m (pc + 3) ls (.ref a :: rest))) : W p l e R s m args below meth c H locs cells slots Q (F0 m pc ls (.int n :: rest)) := by
  subst hN
  refine W.anew hexec hb hown hclink (va_AO.use hover) rfl hdg rfl hn hbytes hcells hslots fun cB kA comp f1 f2 f3 f4 => ?_
  obtain ⟨kA', comp', k1, k2, k3, k4⟩ := (hK.2 t0 _ ht).2
  have hcc : cB = cA := Option.some.inj (f1.symm.trans k4)
  subst hcc
  generalize hH1 : H.push ({ cls := cB, slots := Array.replicate n.toNatClampNeg .null, vm := .none } : Cell) = H1
  have z1 : H1.size = H.size + 1 := by rw [← hH1, Array.size_push]
  have e1 : H1[H.size]? = some (arrV cB n.toNatClampNeg (fun _ => .null)) := by rw [← hH1, Array.getElem?_push_size, ← arrV_new]
  have o1 : ∀ q : Nat, q < H.size → H1[q]? = H[q]? := fun q hq => by rw [← hH1, Array.getElem?_push, if_neg (Nat.ne_of_lt hq)]
  refine kk H.size H1 (hM.new hA hq ?_ (by omega) o1)
  show H1[H.size]? = some (vp_cell _ _)
  rw [vp_cell_q]
  exact e1
end KNQ
set_option maxHeartbeats 8000000 in
set_option maxRecDepth 100000 in
theorem c_X_init (l : Launch) (D : va_G) (cI cL cQ : ClassId) (d : Nat → Nat) (κ0 : Nat → Option va_E) (hq : κ0 18 = some (.inr (3, [.int 0, .int 0, .null, .int 0, .int 0, .null, .long 0, .null, .null, .null]))) (hn : ∀ k, 19 ≤ k → κ0 k = none) (sz : Nat) (p a : Int32) : Met l yX_init wX_init { frames := 2, cells := 13, slots := 2395, locals := 33 } (va_Pc [.ref (d 18), .int p, .int a] (fun U => kC D vCl (kT cI cL cQ) d κ0 sz U ∧ va_AO "PositionDesk$Asset" U ∧ va_Nw (.methodLinkNest "PositionDesk" 50 yG_init "PositionDesk") U)) (kQv D vCl (kA d κ0 sz) (fun d' κ' => IsX cI cL cQ d' κ' (xInit p a) ∧ (∀ k, k < 18 → κ' k = κ0 k) ∧ ∀ k, k ≤ 18 → d' k = d k)) 13 2395 (kA d κ0 sz) := by
  refine kMetE (by decide) (Nat.le_of_ble_eq_true rfl) ?_
  intro p0 e0 s0 m0 below0 meth0 c0 hx hb hr hml hown hlocks hin hts hsz hP hK hE ls hl
  subst hsz
  have hl : lv_has ls 5 [(0, .ref (d 18)), (1, .int p), (2, .int a)] := hl
  have hA : ∀ x, s0.heap.size ≤ x → kA d κ0 s0.heap.size x := fun _ h => Or.inr h
  obtain ⟨rp1, rp2⟩ := qP_range p
  obtain ⟨ra1, ra2⟩ := qA_range a
  have t66 : ∀ (ls : Array Slot) (g f : Int32) (H : Heap) (locs : List Loc) (κ : Nat → Option va_E), lv_has ls 5 [(4, .int f), (3, .int g), (0, .ref (d 18)), (1, .int p), (2, .int a)] → kW D vCl d κ (kA d κ0 s0.heap.size) s0.heap H locs → κ 18 = some (.inr (3, [.int (nI (qP p)), .int 0, .null, .int 0, .int 0, .null, .long 0, .null, .null, .null])) → (∀ k, 19 ≤ k → κ k = none) → (∀ k, k < 18 → κ k = κ0 k) → W p0 l e0 { frames := 2, cells := 13, slots := 2395, locals := 33 } s0 m0 [Value.ref (d 18), .int p, .int a].toArray below0 meth0 c0 H locs 0 0 (MQ below0 (kQv D vCl (kA d κ0 s0.heap.size) (fun d' κ' => IsX cI cL cQ d' κ' (xInit p a) ∧ (∀ k, k < 18 → κ' k = κ0 k) ∧ ∀ k, k ≤ 18 → d' k = d k)) [Value.ref (d 18), .int p, .int a].toArray s0 13 2395 (kA d κ0 s0.heap.size)) (F0 m0 66 ls [.int (nI (qA a)), .ref (d 18)]) := by
    intro ls g f H locs κ hl hM hq hf hκf
    obtain ⟨dC, hM, hdf⟩ : ∃ d1 : Nat → Nat, kW D vCl d1 κ (kA d κ0 s0.heap.size) s0.heap H locs ∧ ∀ k, k ≤ 18 → d1 k = d k := ⟨d, hM, fun _ _ => rfl⟩
    refine ka_newq hx hb hown (hts _ tw_52) hE.1 hK 2 rfl hM hA 19 (hf 19 (by decide)) (N' := qA a) (nI_pos (by omega)) (nI_clamp (by omega)) (by omega) (Nat.le_of_ble_eq_true rfl) (by show 0 + qA a ≤ 2395; omega) dX_init_66 (fun a19 H hM9 => ?_)
    obtain ⟨dC, κ, hM, hdf, hq, hf, hκf, hd19, hk19⟩ : ∃ d1 κ1, kW D vCl d1 κ1 (kA d κ0 s0.heap.size) s0.heap H locs ∧ (∀ k, k ≤ 18 → d1 k = d k) ∧ κ1 18 = some (.inr (3, [.int (nI (qP p)), .int 0, .null, .int 0, .int 0, .null, .long 0, .null, .null, .null])) ∧ (∀ k, 20 ≤ k → κ1 k = none) ∧ (∀ k, k < 18 → κ1 k = κ0 k) ∧ d1 19 = a19 ∧ κ1 19 = some (.inl (cQ, qA a, .inr (.inr (.inr (.inr (fun _ => none)))))) := ⟨_, _, hM9, fun k h => (va_up_ne _ _ (by omega)).trans (hdf k h), (va_up_ne _ _ (by decide)).trans hq, fun k h => (va_up_ne _ _ (by omega)).trans (hf k (by omega)), fun k h => (va_up_ne _ _ (by omega)).trans (hκf k h), va_up_self _ _ _, va_up_self _ _ _⟩
    clear hM9
    refine W.widen (k := 1) (n := 64) (by omega) (by omega) ?_
    refine W.eq (g2 := F0 m0 69 ls [.ref a19, .ref (dC 18)]) (by rw [hdf 18 (by decide)]) ?_
    refine ka_putF (D := D) (ci := 3) (v := .ref a19) (ty := .array (.object "PositionDesk$Asset")) (C := RX) (T := TX) (N := 10) hx hb hts inX tX tX_ok nX hown hK hM (q := 18) hq rfl 2 (by decide) (hts _ tw_101) (fun _ h9 => h9) rfl hin rfl (by decide +kernel) rfl rfl (Nat.le_of_ble_eq_true rfl) dX_init_69 (fun H locs hM => ?_)
    obtain ⟨κ, hM, hdf, hq, hf, hκf, hd19, hk19⟩ : ∃ κ1, kW D vCl dC κ1 (kA d κ0 s0.heap.size) s0.heap H locs ∧ (∀ k, k ≤ 18 → dC k = d k) ∧ κ1 18 = some (.inr (3, [.int (nI (qP p)), .int 0, .ref a19, .int 0, .int 0, .null, .long 0, .null, .null, .null])) ∧ (∀ k, 20 ≤ k → κ1 k = none) ∧ (∀ k, k < 18 → κ1 k = κ0 k) ∧ dC 19 = a19 ∧ κ1 19 = some (.inl (cQ, qA a, .inr (.inr (.inr (.inr (fun _ => none)))))) := ⟨_, hM, hdf, va_up_self _ _ _, fun k h => (va_up_ne _ _ (by omega)).trans (hf k h), fun k h => (va_up_ne _ _ (by omega)).trans (hκf k h), hd19, (va_up_ne _ _ (by decide)).trans hk19⟩
    refine lv_aload_n hx hb dX_init_72 rfl (lv_at hl 2 rfl) ?_
    refine lv_aload_n hx hb dX_init_73 rfl (lv_at hl 2 rfl) ?_
    refine W.eq (g2 := F0 m0 74 ls [.ref (dC 18), .ref (d 18)]) (by rw [hdf 18 (by decide)]) ?_
    refine ka_get (v := .int (nI (qP p))) (ci := 3) (C := RX) (T := TX) (N := 10) hx hb hts inX hown hK hM.1 (q := 18) hq rfl 0 (by decide) (hts _ tw_99) (fun _ h9 => h9) rfl dX_init_74 ?_
    refine lv_aload_n hx hb dX_init_77 rfl (lv_at hl 2 rfl) ?_
    refine W.eq (g2 := F0 m0 78 ls [.ref (dC 18), .int (nI (qP p)), .ref (d 18)]) (by rw [hdf 18 (by decide)]) ?_
    refine ka_get (v := .ref a19) (ci := 3) (C := RX) (T := TX) (N := 10) hx hb hts inX hown hK hM.1 (q := 18) hq rfl 2 (by decide) (hts _ tw_101) (fun _ h9 => h9) rfl dX_init_78 ?_
    refine W.eq (g2 := F0 m0 81 ls [.ref (dC 19), .int (nI (qP p)), .ref (d 18)]) (by rw [hd19]) ?_
    refine ka_alen hx hb hK hM.1 2 (q := 19) hk19 rfl (v := nI (qA a)) rfl dX_init_81 ?_
    refine lv_imul hx hb dX_init_82 ?_
    refine k_topi (pk_mul (qP p) (qA a)) ?_
    refine W.eq (g2 := F0 m0 83 ls [.int (nI (qP p * qA a)), .ref (dC 18)]) (by rw [hdf 18 (by decide)]) ?_
    refine ka_putF (D := D) (ci := 3) (v := .int (nI (qP p * qA a))) (ty := .int) (C := RX) (T := TX) (N := 10) hx hb hts inX tX tX_ok nX hown hK hM (q := 18) hq rfl 1 (by decide) (hts _ tw_100) (fun _ h9 => h9) rfl hin rfl (by decide +kernel) rfl rfl (Nat.le_of_ble_eq_true rfl) dX_init_83 (fun H locs hM => ?_)
    obtain ⟨κ, hM, hdf, hq, hf, hκf, hd19, hk19⟩ : ∃ κ1, kW D vCl dC κ1 (kA d κ0 s0.heap.size) s0.heap H locs ∧ (∀ k, k ≤ 18 → dC k = d k) ∧ κ1 18 = some (.inr (3, [.int (nI (qP p)), .int (nI (qP p * qA a)), .ref a19, .int 0, .int 0, .null, .long 0, .null, .null, .null])) ∧ (∀ k, 20 ≤ k → κ1 k = none) ∧ (∀ k, k < 18 → κ1 k = κ0 k) ∧ dC 19 = a19 ∧ κ1 19 = some (.inl (cQ, qA a, .inr (.inr (.inr (.inr (fun _ => none)))))) := ⟨_, hM, hdf, va_up_self _ _ _, fun k h => (va_up_ne _ _ (by omega)).trans (hf k h), fun k h => (va_up_ne _ _ (by omega)).trans (hκf k h), hd19, (va_up_ne _ _ (by decide)).trans hk19⟩
    refine lv_aload_n hx hb dX_init_86 rfl (lv_at hl 2 rfl) ?_
    refine lv_iconst (v := 0) hx hb dX_init_87 (by decide) ?_
    refine W.eq (g2 := F0 m0 88 ls [.int 0, .ref (dC 18)]) (by rw [hdf 18 (by decide)]) ?_
    refine ka_put (D := D) (ci := 3) (v := .int 0) (ty := .int) (C := RX) (T := TX) (N := 10) hx hb hts inX tX tX_ok nX hown hK hM (q := 18) hq rfl 3 (by decide) (hts _ tw_102) (fun _ h9 => h9) rfl (by decide +kernel) rfl rfl (Nat.le_of_ble_eq_true rfl) dX_init_88 (fun H locs hM => ?_)
    obtain ⟨κ, hM, hdf, hq, hf, hκf, hd19, hk19⟩ : ∃ κ1, kW D vCl dC κ1 (kA d κ0 s0.heap.size) s0.heap H locs ∧ (∀ k, k ≤ 18 → dC k = d k) ∧ κ1 18 = some (.inr (3, [.int (nI (qP p)), .int (nI (qP p * qA a)), .ref a19, .int 0, .int 0, .null, .long 0, .null, .null, .null])) ∧ (∀ k, 20 ≤ k → κ1 k = none) ∧ (∀ k, k < 18 → κ1 k = κ0 k) ∧ dC 19 = a19 ∧ κ1 19 = some (.inl (cQ, qA a, .inr (.inr (.inr (.inr (fun _ => none)))))) := ⟨_, hM, hdf, va_up_self _ _ _, fun k h => (va_up_ne _ _ (by omega)).trans (hf k h), fun k h => (va_up_ne _ _ (by omega)).trans (hκf k h), hd19, (va_up_ne _ _ (by decide)).trans hk19⟩
    refine lv_aload_n hx hb dX_init_91 rfl (lv_at hl 2 rfl) ?_
    refine lv_iconst (v := -1) hx hb dX_init_92 (by decide) ?_
    refine W.eq (g2 := F0 m0 93 ls [.int (-1), .ref (dC 18)]) (by rw [hdf 18 (by decide)]) ?_
    refine ka_put (D := D) (ci := 3) (v := .int (-1)) (ty := .int) (C := RX) (T := TX) (N := 10) hx hb hts inX tX tX_ok nX hown hK hM (q := 18) hq rfl 4 (by decide) (hts _ tw_103) (fun _ h9 => h9) rfl (by decide +kernel) rfl rfl (Nat.le_of_ble_eq_true rfl) dX_init_93 (fun H locs hM => ?_)
    obtain ⟨κ, hM, hdf, hq, hf, hκf, hd19, hk19⟩ : ∃ κ1, kW D vCl dC κ1 (kA d κ0 s0.heap.size) s0.heap H locs ∧ (∀ k, k ≤ 18 → dC k = d k) ∧ κ1 18 = some (.inr (3, [.int (nI (qP p)), .int (nI (qP p * qA a)), .ref a19, .int 0, .int (-1), .null, .long 0, .null, .null, .null])) ∧ (∀ k, 20 ≤ k → κ1 k = none) ∧ (∀ k, k < 18 → κ1 k = κ0 k) ∧ dC 19 = a19 ∧ κ1 19 = some (.inl (cQ, qA a, .inr (.inr (.inr (.inr (fun _ => none)))))) := ⟨_, hM, hdf, va_up_self _ _ _, fun k h => (va_up_ne _ _ (by omega)).trans (hf k h), fun k h => (va_up_ne _ _ (by omega)).trans (hκf k h), hd19, (va_up_ne _ _ (by decide)).trans hk19⟩
    refine lv_aload_n hx hb dX_init_96 rfl (lv_at hl 2 rfl) ?_
    refine lv_aload_n hx hb dX_init_97 rfl (lv_at hl 2 rfl) ?_
    refine W.eq (g2 := F0 m0 98 ls [.ref (dC 18), .ref (d 18)]) (by rw [hdf 18 (by decide)]) ?_
    refine ka_get (v := .int (nI (qP p))) (ci := 3) (C := RX) (T := TX) (N := 10) hx hb hts inX hown hK hM.1 (q := 18) hq rfl 0 (by decide) (hts _ tw_99) (fun _ h9 => h9) rfl dX_init_98 ?_
    refine ka_newa (atype := .long) (a0 := (qP p, .inr (.inl (fun _ => 0)))) (ty := .long) hx hb (hts _ tw_70) rfl hK 1 rfl (fun _ h => h) hM hA 20 (hf 20 (by decide)) (fun _ => rfl) (nI_pos (by omega)) (nI_clamp (by omega)) (by show qP p * 8 ≤ 536870912; omega) (Nat.le_of_ble_eq_true rfl) (by show 64 + qP p ≤ 2395; omega) dX_init_101 (fun a20 H hM9 => ?_)
    obtain ⟨dC, κ, hM, hdf, hq, hf, hκf, hd19, hk19, hd20, hk20⟩ : ∃ d1 κ1, kW D vCl d1 κ1 (kA d κ0 s0.heap.size) s0.heap H locs ∧ (∀ k, k ≤ 18 → d1 k = d k) ∧ κ1 18 = some (.inr (3, [.int (nI (qP p)), .int (nI (qP p * qA a)), .ref a19, .int 0, .int (-1), .null, .long 0, .null, .null, .null])) ∧ (∀ k, 21 ≤ k → κ1 k = none) ∧ (∀ k, k < 18 → κ1 k = κ0 k) ∧ d1 19 = a19 ∧ κ1 19 = some (.inl (cQ, qA a, .inr (.inr (.inr (.inr (fun _ => none)))))) ∧ d1 20 = a20 ∧ κ1 20 = some (.inl (cL, qP p, .inr (.inl (fun _ => 0)))) := ⟨_, _, hM9, fun k h => (va_up_ne _ _ (by omega)).trans (hdf k h), (va_up_ne _ _ (by decide)).trans hq, fun k h => (va_up_ne _ _ (by omega)).trans (hf k (by omega)), fun k h => (va_up_ne _ _ (by omega)).trans (hκf k h), (va_up_ne _ _ (by decide)).trans hd19, (va_up_ne _ _ (by decide)).trans hk19, va_up_self _ _ _, va_up_self _ _ _⟩
    clear hM9
    refine W.widen (k := 2) (n := 320) (by omega) (by omega) ?_
    refine W.eq (g2 := F0 m0 103 ls [.ref a20, .ref (dC 18)]) (by rw [hdf 18 (by decide)]) ?_
    refine ka_putF (D := D) (ci := 3) (v := .ref a20) (ty := .array .long) (C := RX) (T := TX) (N := 10) hx hb hts inX tX tX_ok nX hown hK hM (q := 18) hq rfl 5 (by decide) (hts _ tw_104) (fun _ h9 => h9) rfl hin rfl (by decide +kernel) rfl rfl (Nat.le_of_ble_eq_true rfl) dX_init_103 (fun H locs hM => ?_)
    obtain ⟨κ, hM, hdf, hq, hf, hκf, hd19, hk19, hd20, hk20⟩ : ∃ κ1, kW D vCl dC κ1 (kA d κ0 s0.heap.size) s0.heap H locs ∧ (∀ k, k ≤ 18 → dC k = d k) ∧ κ1 18 = some (.inr (3, [.int (nI (qP p)), .int (nI (qP p * qA a)), .ref a19, .int 0, .int (-1), .ref a20, .long 0, .null, .null, .null])) ∧ (∀ k, 21 ≤ k → κ1 k = none) ∧ (∀ k, k < 18 → κ1 k = κ0 k) ∧ dC 19 = a19 ∧ κ1 19 = some (.inl (cQ, qA a, .inr (.inr (.inr (.inr (fun _ => none)))))) ∧ dC 20 = a20 ∧ κ1 20 = some (.inl (cL, qP p, .inr (.inl (fun _ => 0)))) := ⟨_, hM, hdf, va_up_self _ _ _, fun k h => (va_up_ne _ _ (by omega)).trans (hf k h), fun k h => (va_up_ne _ _ (by omega)).trans (hκf k h), hd19, (va_up_ne _ _ (by decide)).trans hk19, hd20, (va_up_ne _ _ (by decide)).trans hk20⟩
    refine lv_aload_n hx hb dX_init_106 rfl (lv_at hl 2 rfl) ?_
    refine lv_lconst (v := 0) hx hb dX_init_107 (by decide) ?_
    refine W.eq (g2 := F0 m0 108 ls [.long 0, .ref (dC 18)]) (by rw [hdf 18 (by decide)]) ?_
    refine ka_put (D := D) (ci := 3) (v := .long 0) (ty := .long) (C := RX) (T := TX) (N := 10) hx hb hts inX tX tX_ok nX hown hK hM (q := 18) hq rfl 6 (by decide) (hts _ tw_105) (fun _ h9 => h9) rfl (by decide +kernel) rfl rfl (Nat.le_of_ble_eq_true rfl) dX_init_108 (fun H locs hM => ?_)
    obtain ⟨κ, hM, hdf, hq, hf, hκf, hd19, hk19, hd20, hk20⟩ : ∃ κ1, kW D vCl dC κ1 (kA d κ0 s0.heap.size) s0.heap H locs ∧ (∀ k, k ≤ 18 → dC k = d k) ∧ κ1 18 = some (.inr (3, [.int (nI (qP p)), .int (nI (qP p * qA a)), .ref a19, .int 0, .int (-1), .ref a20, .long 0, .null, .null, .null])) ∧ (∀ k, 21 ≤ k → κ1 k = none) ∧ (∀ k, k < 18 → κ1 k = κ0 k) ∧ dC 19 = a19 ∧ κ1 19 = some (.inl (cQ, qA a, .inr (.inr (.inr (.inr (fun _ => none)))))) ∧ dC 20 = a20 ∧ κ1 20 = some (.inl (cL, qP p, .inr (.inl (fun _ => 0)))) := ⟨_, hM, hdf, va_up_self _ _ _, fun k h => (va_up_ne _ _ (by omega)).trans (hf k h), fun k h => (va_up_ne _ _ (by omega)).trans (hκf k h), hd19, (va_up_ne _ _ (by decide)).trans hk19, hd20, (va_up_ne _ _ (by decide)).trans hk20⟩
    refine lv_aload_n hx hb dX_init_111 rfl (lv_at hl 2 rfl) ?_
    refine ka_new (ci := 2) (fs := [.null, .null, .int 0]) (C := RP) (T := TP) (N := 3) hx hb hts inP tP tP_ok hown (hts _ tw_54) (hts _ tw_55) (hts _ tw_39) hK hM hA 21 (hf 21 (by decide)) rfl (fun j hj => by rcases (show j = 0 ∨ j = 1 ∨ j = 2 by omega) with rfl | rfl | rfl <;> rfl) (Nat.le_of_ble_eq_true rfl) (Nat.le_of_ble_eq_true rfl) dX_init_112 (fun a21 H hM9 => ?_)
    obtain ⟨dC, κ, hM, hdf, hq, hf, hκf, hd19, hk19, hd20, hk20, hd21, hk21⟩ : ∃ d1 κ1, kW D vCl d1 κ1 (kA d κ0 s0.heap.size) s0.heap H locs ∧ (∀ k, k ≤ 18 → d1 k = d k) ∧ κ1 18 = some (.inr (3, [.int (nI (qP p)), .int (nI (qP p * qA a)), .ref a19, .int 0, .int (-1), .ref a20, .long 0, .null, .null, .null])) ∧ (∀ k, 22 ≤ k → κ1 k = none) ∧ (∀ k, k < 18 → κ1 k = κ0 k) ∧ d1 19 = a19 ∧ κ1 19 = some (.inl (cQ, qA a, .inr (.inr (.inr (.inr (fun _ => none)))))) ∧ d1 20 = a20 ∧ κ1 20 = some (.inl (cL, qP p, .inr (.inl (fun _ => 0)))) ∧ d1 21 = a21 ∧ κ1 21 = some (.inr (2, [.null, .null, .int 0])) := ⟨_, _, hM9, fun k h => (va_up_ne _ _ (by omega)).trans (hdf k h), (va_up_ne _ _ (by decide)).trans hq, fun k h => (va_up_ne _ _ (by omega)).trans (hf k (by omega)), fun k h => (va_up_ne _ _ (by omega)).trans (hκf k h), (va_up_ne _ _ (by decide)).trans hd19, (va_up_ne _ _ (by decide)).trans hk19, (va_up_ne _ _ (by decide)).trans hd20, (va_up_ne _ _ (by decide)).trans hk20, va_up_self _ _ _, va_up_self _ _ _⟩
    clear hM9
    refine W.widen (k := 3) (n := 323) (by omega) (by omega) ?_
    refine lv_dup hx hb dX_init_115 rfl ?_
    refine lv_bipush (v := 40) hx hb dX_init_116 (by decide) ?_
    refine W.eq (g2 := F0 m0 118 ls [.int (nI 40), .ref (dC 21), .ref a21, .ref (d 18)]) (by rw [hd21]; rfl) ?_
    refine ka_callv (W.runI (As := [.int (nI 40)]) (rest := [.ref a21, .ref (d 18)]) ⟨hx, hb, hml, hown, hts⟩ (c_P_init l D cI cL cQ dC κ 21 40 (by decide) hk21 (fun i h h2 => hf _ (by omega)) H.size) (cwI 1 hts (k_gC tw_58) rfl rfl rfl (hts _ tw_39) (hts _ tw_56) (hts _ tw_57) rfl (by decide +kernel) ⟨Nat.le_of_ble_eq_true rfl, Nat.le_of_ble_eq_true rfl⟩) (kPreS hM.1 hK) rfl rfl hl.1 rfl (lv_room (Nat.le_of_ble_eq_true rfl)) dX_init_118 ⟨Nat.le_of_ble_eq_true rfl, Nat.le_of_ble_eq_true rfl⟩) hM hA (fun d2 κ2 H locs h1 hM9 => ?_)
    obtain ⟨h1d, h1k, h1q, h1e1, h1e2⟩ := h1
    obtain ⟨dC, κ, hM, hdf, hq, hf, hκf, hd19, hk19, hd20, hk20, hd21, hk21, hk22, hk23⟩ : ∃ d1 κ1, kW D vCl d1 κ1 (kA d κ0 s0.heap.size) s0.heap H locs ∧ (∀ k, k ≤ 18 → d1 k = d k) ∧ κ1 18 = some (.inr (3, [.int (nI (qP p)), .int (nI (qP p * qA a)), .ref a19, .int 0, .int (-1), .ref a20, .long 0, .null, .null, .null])) ∧ (∀ k, 24 ≤ k → κ1 k = none) ∧ (∀ k, k < 18 → κ1 k = κ0 k) ∧ d1 19 = a19 ∧ κ1 19 = some (.inl (cQ, qA a, .inr (.inr (.inr (.inr (fun _ => none)))))) ∧ d1 20 = a20 ∧ κ1 20 = some (.inl (cL, qP p, .inr (.inl (fun _ => 0)))) ∧ d1 21 = a21 ∧ κ1 21 = some (.inr (2, [.ref (d1 22), .ref (d1 23), .int 0])) ∧ κ1 22 = some (.inl (cI, 40, .inl (fun _ => 0))) ∧ κ1 23 = some (.inl (cL, 40, .inr (.inl (fun _ => 0)))) := ⟨d2, κ2, hM9, fun k h => (h1d k (by omega)).trans (hdf k h), (h1k 18 (by decide)).trans hq, fun k h => (h1k k (by omega)).trans (hf k (by omega)), fun k h => (h1k k (by omega)).trans (hκf k h), (h1d 19 (by decide)).trans hd19, (h1k 19 (by decide)).trans hk19, (h1d 20 (by decide)).trans hd20, (h1k 20 (by decide)).trans hk20, (h1d 21 (by decide)).trans hd21, h1q, h1e1, h1e2⟩
    clear hM9
    refine W.widen (k := 5) (n := 1347) (by omega) (by omega) ?_
    refine W.eq (g2 := F0 m0 121 ls [.ref a21, .ref (dC 18)]) (by rw [hdf 18 (by decide)]) ?_
    refine ka_putF (D := D) (ci := 3) (v := .ref a21) (ty := .object "PositionDesk$PairAmounts") (C := RX) (T := TX) (N := 10) hx hb hts inX tX tX_ok nX hown hK hM (q := 18) hq rfl 7 (by decide) (hts _ tw_106) (fun _ h9 => h9) rfl hin rfl (by decide +kernel) rfl rfl (Nat.le_of_ble_eq_true rfl) dX_init_121 (fun H locs hM => ?_)
    obtain ⟨κ, hM, hdf, hq, hf, hκf, hd19, hk19, hd20, hk20, hd21, hk21, hk22, hk23⟩ : ∃ κ1, kW D vCl dC κ1 (kA d κ0 s0.heap.size) s0.heap H locs ∧ (∀ k, k ≤ 18 → dC k = d k) ∧ κ1 18 = some (.inr (3, [.int (nI (qP p)), .int (nI (qP p * qA a)), .ref a19, .int 0, .int (-1), .ref a20, .long 0, .ref a21, .null, .null])) ∧ (∀ k, 24 ≤ k → κ1 k = none) ∧ (∀ k, k < 18 → κ1 k = κ0 k) ∧ dC 19 = a19 ∧ κ1 19 = some (.inl (cQ, qA a, .inr (.inr (.inr (.inr (fun _ => none)))))) ∧ dC 20 = a20 ∧ κ1 20 = some (.inl (cL, qP p, .inr (.inl (fun _ => 0)))) ∧ dC 21 = a21 ∧ κ1 21 = some (.inr (2, [.ref (dC 22), .ref (dC 23), .int 0])) ∧ κ1 22 = some (.inl (cI, 40, .inl (fun _ => 0))) ∧ κ1 23 = some (.inl (cL, 40, .inr (.inl (fun _ => 0)))) := ⟨_, hM, hdf, va_up_self _ _ _, fun k h => (va_up_ne _ _ (by omega)).trans (hf k h), fun k h => (va_up_ne _ _ (by omega)).trans (hκf k h), hd19, (va_up_ne _ _ (by decide)).trans hk19, hd20, (va_up_ne _ _ (by decide)).trans hk20, hd21, (va_up_ne _ _ (by decide)).trans hk21, (va_up_ne _ _ (by decide)).trans hk22, (va_up_ne _ _ (by decide)).trans hk23⟩
    refine lv_aload_n hx hb dX_init_124 rfl (lv_at hl 2 rfl) ?_
    refine ka_new (ci := 2) (fs := [.null, .null, .int 0]) (C := RP) (T := TP) (N := 3) hx hb hts inP tP tP_ok hown (hts _ tw_54) (hts _ tw_55) (hts _ tw_39) hK hM hA 24 (hf 24 (by decide)) rfl (fun j hj => by rcases (show j = 0 ∨ j = 1 ∨ j = 2 by omega) with rfl | rfl | rfl <;> rfl) (Nat.le_of_ble_eq_true rfl) (Nat.le_of_ble_eq_true rfl) dX_init_125 (fun a24 H hM9 => ?_)
    obtain ⟨dC, κ, hM, hdf, hq, hf, hκf, hd19, hk19, hd20, hk20, hd21, hk21, hk22, hk23, hd24, hk24⟩ : ∃ d1 κ1, kW D vCl d1 κ1 (kA d κ0 s0.heap.size) s0.heap H locs ∧ (∀ k, k ≤ 18 → d1 k = d k) ∧ κ1 18 = some (.inr (3, [.int (nI (qP p)), .int (nI (qP p * qA a)), .ref a19, .int 0, .int (-1), .ref a20, .long 0, .ref a21, .null, .null])) ∧ (∀ k, 25 ≤ k → κ1 k = none) ∧ (∀ k, k < 18 → κ1 k = κ0 k) ∧ d1 19 = a19 ∧ κ1 19 = some (.inl (cQ, qA a, .inr (.inr (.inr (.inr (fun _ => none)))))) ∧ d1 20 = a20 ∧ κ1 20 = some (.inl (cL, qP p, .inr (.inl (fun _ => 0)))) ∧ d1 21 = a21 ∧ κ1 21 = some (.inr (2, [.ref (d1 22), .ref (d1 23), .int 0])) ∧ κ1 22 = some (.inl (cI, 40, .inl (fun _ => 0))) ∧ κ1 23 = some (.inl (cL, 40, .inr (.inl (fun _ => 0)))) ∧ d1 24 = a24 ∧ κ1 24 = some (.inr (2, [.null, .null, .int 0])) := ⟨_, _, hM9, fun k h => (va_up_ne _ _ (by omega)).trans (hdf k h), (va_up_ne _ _ (by decide)).trans hq, fun k h => (va_up_ne _ _ (by omega)).trans (hf k (by omega)), fun k h => (va_up_ne _ _ (by omega)).trans (hκf k h), (va_up_ne _ _ (by decide)).trans hd19, (va_up_ne _ _ (by decide)).trans hk19, (va_up_ne _ _ (by decide)).trans hd20, (va_up_ne _ _ (by decide)).trans hk20, (va_up_ne _ _ (by decide)).trans hd21, (by rw [va_up_ne (k := 24) (j := 22) _ _ (by decide), va_up_ne (k := 24) (j := 23) _ _ (by decide)]; exact (va_up_ne _ _ (by decide)).trans hk21), (va_up_ne _ _ (by decide)).trans hk22, (va_up_ne _ _ (by decide)).trans hk23, va_up_self _ _ _, va_up_self _ _ _⟩
    clear hM9
    refine W.widen (k := 6) (n := 1350) (by omega) (by omega) ?_
    refine lv_dup hx hb dX_init_128 rfl ?_
    refine lv_sipush (v := 512) hx hb dX_init_129 (by decide) ?_
    refine W.eq (g2 := F0 m0 132 ls [.int (nI 512), .ref (dC 24), .ref a24, .ref (d 18)]) (by rw [hd24]; rfl) ?_
    refine ka_callv (W.runI (As := [.int (nI 512)]) (rest := [.ref a24, .ref (d 18)]) ⟨hx, hb, hml, hown, hts⟩ (c_P_init l D cI cL cQ dC κ 24 512 (by decide) hk24 (fun i h h2 => hf _ (by omega)) H.size) (cwI 1 hts (k_gC tw_58) rfl rfl rfl (hts _ tw_39) (hts _ tw_56) (hts _ tw_57) rfl (by decide +kernel) ⟨Nat.le_of_ble_eq_true rfl, Nat.le_of_ble_eq_true rfl⟩) (kPreS hM.1 hK) rfl rfl hl.1 rfl (lv_room (Nat.le_of_ble_eq_true rfl)) dX_init_132 ⟨Nat.le_of_ble_eq_true rfl, Nat.le_of_ble_eq_true rfl⟩) hM hA (fun d2 κ2 H locs h1 hM9 => ?_)
    obtain ⟨h1d, h1k, h1q, h1e1, h1e2⟩ := h1
    obtain ⟨dC, κ, hM, hdf, hq, hf, hκf, hd19, hk19, hd20, hk20, hd21, hk21, hk22, hk23, hd24, hk24, hk25, hk26⟩ : ∃ d1 κ1, kW D vCl d1 κ1 (kA d κ0 s0.heap.size) s0.heap H locs ∧ (∀ k, k ≤ 18 → d1 k = d k) ∧ κ1 18 = some (.inr (3, [.int (nI (qP p)), .int (nI (qP p * qA a)), .ref a19, .int 0, .int (-1), .ref a20, .long 0, .ref a21, .null, .null])) ∧ (∀ k, 27 ≤ k → κ1 k = none) ∧ (∀ k, k < 18 → κ1 k = κ0 k) ∧ d1 19 = a19 ∧ κ1 19 = some (.inl (cQ, qA a, .inr (.inr (.inr (.inr (fun _ => none)))))) ∧ d1 20 = a20 ∧ κ1 20 = some (.inl (cL, qP p, .inr (.inl (fun _ => 0)))) ∧ d1 21 = a21 ∧ κ1 21 = some (.inr (2, [.ref (d1 22), .ref (d1 23), .int 0])) ∧ κ1 22 = some (.inl (cI, 40, .inl (fun _ => 0))) ∧ κ1 23 = some (.inl (cL, 40, .inr (.inl (fun _ => 0)))) ∧ d1 24 = a24 ∧ κ1 24 = some (.inr (2, [.ref (d1 25), .ref (d1 26), .int 0])) ∧ κ1 25 = some (.inl (cI, 512, .inl (fun _ => 0))) ∧ κ1 26 = some (.inl (cL, 512, .inr (.inl (fun _ => 0)))) := ⟨d2, κ2, hM9, fun k h => (h1d k (by omega)).trans (hdf k h), (h1k 18 (by decide)).trans hq, fun k h => (h1k k (by omega)).trans (hf k (by omega)), fun k h => (h1k k (by omega)).trans (hκf k h), (h1d 19 (by decide)).trans hd19, (h1k 19 (by decide)).trans hk19, (h1d 20 (by decide)).trans hd20, (h1k 20 (by decide)).trans hk20, (h1d 21 (by decide)).trans hd21, (by rw [h1d 22 (by decide), h1d 23 (by decide)]; exact (h1k 21 (by decide)).trans hk21), (h1k 22 (by decide)).trans hk22, (h1k 23 (by decide)).trans hk23, (h1d 24 (by decide)).trans hd24, h1q, h1e1, h1e2⟩
    clear hM9
    refine W.widen (k := 8) (n := 2374) (by omega) (by omega) ?_
    refine W.eq (g2 := F0 m0 135 ls [.ref a24, .ref (dC 18)]) (by rw [hdf 18 (by decide)]) ?_
    refine ka_putF (D := D) (ci := 3) (v := .ref a24) (ty := .object "PositionDesk$PairAmounts") (C := RX) (T := TX) (N := 10) hx hb hts inX tX tX_ok nX hown hK hM (q := 18) hq rfl 8 (by decide) (hts _ tw_107) (fun _ h9 => h9) rfl hin rfl (by decide +kernel) rfl rfl (Nat.le_of_ble_eq_true rfl) dX_init_135 (fun H locs hM => ?_)
    obtain ⟨κ, hM, hdf, hq, hf, hκf, hd19, hk19, hd20, hk20, hd21, hk21, hk22, hk23, hd24, hk24, hk25, hk26⟩ : ∃ κ1, kW D vCl dC κ1 (kA d κ0 s0.heap.size) s0.heap H locs ∧ (∀ k, k ≤ 18 → dC k = d k) ∧ κ1 18 = some (.inr (3, [.int (nI (qP p)), .int (nI (qP p * qA a)), .ref a19, .int 0, .int (-1), .ref a20, .long 0, .ref a21, .ref a24, .null])) ∧ (∀ k, 27 ≤ k → κ1 k = none) ∧ (∀ k, k < 18 → κ1 k = κ0 k) ∧ dC 19 = a19 ∧ κ1 19 = some (.inl (cQ, qA a, .inr (.inr (.inr (.inr (fun _ => none)))))) ∧ dC 20 = a20 ∧ κ1 20 = some (.inl (cL, qP p, .inr (.inl (fun _ => 0)))) ∧ dC 21 = a21 ∧ κ1 21 = some (.inr (2, [.ref (dC 22), .ref (dC 23), .int 0])) ∧ κ1 22 = some (.inl (cI, 40, .inl (fun _ => 0))) ∧ κ1 23 = some (.inl (cL, 40, .inr (.inl (fun _ => 0)))) ∧ dC 24 = a24 ∧ κ1 24 = some (.inr (2, [.ref (dC 25), .ref (dC 26), .int 0])) ∧ κ1 25 = some (.inl (cI, 512, .inl (fun _ => 0))) ∧ κ1 26 = some (.inl (cL, 512, .inr (.inl (fun _ => 0)))) := ⟨_, hM, hdf, va_up_self _ _ _, fun k h => (va_up_ne _ _ (by omega)).trans (hf k h), fun k h => (va_up_ne _ _ (by omega)).trans (hκf k h), hd19, (va_up_ne _ _ (by decide)).trans hk19, hd20, (va_up_ne _ _ (by decide)).trans hk20, hd21, (va_up_ne _ _ (by decide)).trans hk21, (va_up_ne _ _ (by decide)).trans hk22, (va_up_ne _ _ (by decide)).trans hk23, hd24, (va_up_ne _ _ (by decide)).trans hk24, (va_up_ne _ _ (by decide)).trans hk25, (va_up_ne _ _ (by decide)).trans hk26⟩
    refine lv_aload_n hx hb dX_init_138 rfl (lv_at hl 2 rfl) ?_
    refine ka_new (ci := 1) (fs := [.null, .null, .null, .null, .int 0]) (C := RG) (T := TG) (N := 5) hx hb hts inG tG tG_ok hown (hts _ tw_72) (hts _ tw_73) (hts _ tw_40) hK hM hA 27 (hf 27 (by decide)) rfl (fun j hj => by rcases (show j = 0 ∨ j = 1 ∨ j = 2 ∨ j = 3 ∨ j = 4 by omega) with rfl | rfl | rfl | rfl | rfl <;> rfl) (Nat.le_of_ble_eq_true rfl) (Nat.le_of_ble_eq_true rfl) dX_init_139 (fun a27 H hM9 => ?_)
    obtain ⟨dC, κ, hM, hdf, hq, hf, hκf, hd19, hk19, hd20, hk20, hd21, hk21, hk22, hk23, hd24, hk24, hk25, hk26, hd27, hk27⟩ : ∃ d1 κ1, kW D vCl d1 κ1 (kA d κ0 s0.heap.size) s0.heap H locs ∧ (∀ k, k ≤ 18 → d1 k = d k) ∧ κ1 18 = some (.inr (3, [.int (nI (qP p)), .int (nI (qP p * qA a)), .ref a19, .int 0, .int (-1), .ref a20, .long 0, .ref a21, .ref a24, .null])) ∧ (∀ k, 28 ≤ k → κ1 k = none) ∧ (∀ k, k < 18 → κ1 k = κ0 k) ∧ d1 19 = a19 ∧ κ1 19 = some (.inl (cQ, qA a, .inr (.inr (.inr (.inr (fun _ => none)))))) ∧ d1 20 = a20 ∧ κ1 20 = some (.inl (cL, qP p, .inr (.inl (fun _ => 0)))) ∧ d1 21 = a21 ∧ κ1 21 = some (.inr (2, [.ref (d1 22), .ref (d1 23), .int 0])) ∧ κ1 22 = some (.inl (cI, 40, .inl (fun _ => 0))) ∧ κ1 23 = some (.inl (cL, 40, .inr (.inl (fun _ => 0)))) ∧ d1 24 = a24 ∧ κ1 24 = some (.inr (2, [.ref (d1 25), .ref (d1 26), .int 0])) ∧ κ1 25 = some (.inl (cI, 512, .inl (fun _ => 0))) ∧ κ1 26 = some (.inl (cL, 512, .inr (.inl (fun _ => 0)))) ∧ d1 27 = a27 ∧ κ1 27 = some (.inr (1, [.null, .null, .null, .null, .int 0])) := ⟨_, _, hM9, fun k h => (va_up_ne _ _ (by omega)).trans (hdf k h), (va_up_ne _ _ (by decide)).trans hq, fun k h => (va_up_ne _ _ (by omega)).trans (hf k (by omega)), fun k h => (va_up_ne _ _ (by omega)).trans (hκf k h), (va_up_ne _ _ (by decide)).trans hd19, (va_up_ne _ _ (by decide)).trans hk19, (va_up_ne _ _ (by decide)).trans hd20, (va_up_ne _ _ (by decide)).trans hk20, (va_up_ne _ _ (by decide)).trans hd21, (by rw [va_up_ne (k := 27) (j := 22) _ _ (by decide), va_up_ne (k := 27) (j := 23) _ _ (by decide)]; exact (va_up_ne _ _ (by decide)).trans hk21), (va_up_ne _ _ (by decide)).trans hk22, (va_up_ne _ _ (by decide)).trans hk23, (va_up_ne _ _ (by decide)).trans hd24, (by rw [va_up_ne (k := 27) (j := 25) _ _ (by decide), va_up_ne (k := 27) (j := 26) _ _ (by decide)]; exact (va_up_ne _ _ (by decide)).trans hk24), (va_up_ne _ _ (by decide)).trans hk25, (va_up_ne _ _ (by decide)).trans hk26, va_up_self _ _ _, va_up_self _ _ _⟩
    clear hM9
    refine W.widen (k := 9) (n := 2379) (by omega) (by omega) ?_
    refine lv_dup hx hb dX_init_142 rfl ?_
    refine W.eq (g2 := F0 m0 143 ls [.ref (dC 27), .ref a27, .ref (d 18)]) (by rw [hd27]) ?_
    refine ka_callv (va_Run.run (va_runIN (As := []) (rest := [.ref a27, .ref (d 18)]) ⟨hx, hb, hml, hown, hts⟩ (c_G_init l D cI cL cQ dC κ 27  hk27 (fun i h h2 => hf _ (by omega)) H.size) ⟨va_cnB 0 hts (k_gC tw_76) rfl rfl rfl hE.2 (hts _ tw_40) (by decide +kernel) ⟨Nat.le_of_ble_eq_true rfl, Nat.le_of_ble_eq_true rfl⟩, rfl, hts _ tw_75⟩ (kPreS hM.1 hK) rfl rfl hl.1 rfl (lv_room (Nat.le_of_ble_eq_true rfl)) dX_init_143 ⟨Nat.le_of_ble_eq_true rfl, Nat.le_of_ble_eq_true rfl⟩)) hM hA (fun d2 κ2 H locs h1 hM9 => ?_)
    obtain ⟨h1d, h1k, h1q, h1e1, h1e2, h1e3, h1e4⟩ := h1
    obtain ⟨dC, κ, hM, hdf, hq, hf, hκf, hd19, hk19, hd20, hk20, hd21, hk21, hk22, hk23, hd24, hk24, hk25, hk26, hd27, hk27, hk28, hk29, hk30, hk31⟩ : ∃ d1 κ1, kW D vCl d1 κ1 (kA d κ0 s0.heap.size) s0.heap H locs ∧ (∀ k, k ≤ 18 → d1 k = d k) ∧ κ1 18 = some (.inr (3, [.int (nI (qP p)), .int (nI (qP p * qA a)), .ref a19, .int 0, .int (-1), .ref a20, .long 0, .ref a21, .ref a24, .null])) ∧ (∀ k, 32 ≤ k → κ1 k = none) ∧ (∀ k, k < 18 → κ1 k = κ0 k) ∧ d1 19 = a19 ∧ κ1 19 = some (.inl (cQ, qA a, .inr (.inr (.inr (.inr (fun _ => none)))))) ∧ d1 20 = a20 ∧ κ1 20 = some (.inl (cL, qP p, .inr (.inl (fun _ => 0)))) ∧ d1 21 = a21 ∧ κ1 21 = some (.inr (2, [.ref (d1 22), .ref (d1 23), .int 0])) ∧ κ1 22 = some (.inl (cI, 40, .inl (fun _ => 0))) ∧ κ1 23 = some (.inl (cL, 40, .inr (.inl (fun _ => 0)))) ∧ d1 24 = a24 ∧ κ1 24 = some (.inr (2, [.ref (d1 25), .ref (d1 26), .int 0])) ∧ κ1 25 = some (.inl (cI, 512, .inl (fun _ => 0))) ∧ κ1 26 = some (.inl (cL, 512, .inr (.inl (fun _ => 0)))) ∧ d1 27 = a27 ∧ κ1 27 = some (.inr (1, [.ref (d1 28), .ref (d1 29), .ref (d1 30), .ref (d1 31), .int 0])) ∧ κ1 28 = some (.inl (cI, 4, .inl (fun _ => 0))) ∧ κ1 29 = some (.inl (cI, 4, .inl (fun _ => 0))) ∧ κ1 30 = some (.inl (cI, 4, .inl (fun _ => 0))) ∧ κ1 31 = some (.inl (cL, 4, .inr (.inl (fun _ => 0)))) := ⟨d2, κ2, hM9, fun k h => (h1d k (by omega)).trans (hdf k h), (h1k 18 (by decide)).trans hq, fun k h => (h1k k (by omega)).trans (hf k (by omega)), fun k h => (h1k k (by omega)).trans (hκf k h), (h1d 19 (by decide)).trans hd19, (h1k 19 (by decide)).trans hk19, (h1d 20 (by decide)).trans hd20, (h1k 20 (by decide)).trans hk20, (h1d 21 (by decide)).trans hd21, (by rw [h1d 22 (by decide), h1d 23 (by decide)]; exact (h1k 21 (by decide)).trans hk21), (h1k 22 (by decide)).trans hk22, (h1k 23 (by decide)).trans hk23, (h1d 24 (by decide)).trans hd24, (by rw [h1d 25 (by decide), h1d 26 (by decide)]; exact (h1k 24 (by decide)).trans hk24), (h1k 25 (by decide)).trans hk25, (h1k 26 (by decide)).trans hk26, (h1d 27 (by decide)).trans hd27, h1q, h1e1, h1e2, h1e3, h1e4⟩
    clear hM9
    refine W.widen (k := 13) (n := 2395) (by omega) (by omega) ?_
    refine W.eq (g2 := F0 m0 146 ls [.ref a27, .ref (dC 18)]) (by rw [hdf 18 (by decide)]) ?_
    refine ka_putF (D := D) (ci := 3) (v := .ref a27) (ty := .object "PositionDesk$Legs") (C := RX) (T := TX) (N := 10) hx hb hts inX tX tX_ok nX hown hK hM (q := 18) hq rfl 9 (by decide) (hts _ tw_108) (fun _ h9 => h9) rfl hin rfl (by decide +kernel) rfl rfl (Nat.le_of_ble_eq_true rfl) dX_init_146 (fun H locs hM => ?_)
    obtain ⟨κ, hM, hdf, hq, hf, hκf, hd19, hk19, hd20, hk20, hd21, hk21, hk22, hk23, hd24, hk24, hk25, hk26, hd27, hk27, hk28, hk29, hk30, hk31⟩ : ∃ κ1, kW D vCl dC κ1 (kA d κ0 s0.heap.size) s0.heap H locs ∧ (∀ k, k ≤ 18 → dC k = d k) ∧ κ1 18 = some (.inr (3, [.int (nI (qP p)), .int (nI (qP p * qA a)), .ref a19, .int 0, .int (-1), .ref a20, .long 0, .ref a21, .ref a24, .ref a27])) ∧ (∀ k, 32 ≤ k → κ1 k = none) ∧ (∀ k, k < 18 → κ1 k = κ0 k) ∧ dC 19 = a19 ∧ κ1 19 = some (.inl (cQ, qA a, .inr (.inr (.inr (.inr (fun _ => none)))))) ∧ dC 20 = a20 ∧ κ1 20 = some (.inl (cL, qP p, .inr (.inl (fun _ => 0)))) ∧ dC 21 = a21 ∧ κ1 21 = some (.inr (2, [.ref (dC 22), .ref (dC 23), .int 0])) ∧ κ1 22 = some (.inl (cI, 40, .inl (fun _ => 0))) ∧ κ1 23 = some (.inl (cL, 40, .inr (.inl (fun _ => 0)))) ∧ dC 24 = a24 ∧ κ1 24 = some (.inr (2, [.ref (dC 25), .ref (dC 26), .int 0])) ∧ κ1 25 = some (.inl (cI, 512, .inl (fun _ => 0))) ∧ κ1 26 = some (.inl (cL, 512, .inr (.inl (fun _ => 0)))) ∧ dC 27 = a27 ∧ κ1 27 = some (.inr (1, [.ref (dC 28), .ref (dC 29), .ref (dC 30), .ref (dC 31), .int 0])) ∧ κ1 28 = some (.inl (cI, 4, .inl (fun _ => 0))) ∧ κ1 29 = some (.inl (cI, 4, .inl (fun _ => 0))) ∧ κ1 30 = some (.inl (cI, 4, .inl (fun _ => 0))) ∧ κ1 31 = some (.inl (cL, 4, .inr (.inl (fun _ => 0)))) := ⟨_, hM, hdf, va_up_self _ _ _, fun k h => (va_up_ne _ _ (by omega)).trans (hf k h), fun k h => (va_up_ne _ _ (by omega)).trans (hκf k h), hd19, (va_up_ne _ _ (by decide)).trans hk19, hd20, (va_up_ne _ _ (by decide)).trans hk20, hd21, (va_up_ne _ _ (by decide)).trans hk21, (va_up_ne _ _ (by decide)).trans hk22, (va_up_ne _ _ (by decide)).trans hk23, hd24, (va_up_ne _ _ (by decide)).trans hk24, (va_up_ne _ _ (by decide)).trans hk25, (va_up_ne _ _ (by decide)).trans hk26, hd27, (va_up_ne _ _ (by decide)).trans hk27, (va_up_ne _ _ (by decide)).trans hk28, (va_up_ne _ _ (by decide)).trans hk29, (va_up_ne _ _ (by decide)).trans hk30, (va_up_ne _ _ (by decide)).trans hk31⟩
    refine W.vret hx hb hr (fun t ht h9 => kQv.of hM ht ⟨⟨?_, hk19, hk20, hk21, hk22, hk23, hk24, hk25, hk26, hk27, hk28, hk29, hk30, hk31, fun i hi => absurd hi (Nat.not_lt_zero i), fun k hk => hf k hk⟩, hκf, hdf⟩) hM.2.2.2.2 dX_init_149
    rw [hd19, hd20, hd21, hd24, hd27]
    exact hq
  have t51 : ∀ (ls : Array Slot) (g f : Int32), lv_has ls 5 [(4, .int f), (3, .int g), (0, .ref (d 18)), (1, .int p), (2, .int a)] → ((f = 0 ∧ (6 : Int32) = nI (qA a)) ∨ (¬ f = 0 ∧ a = nI (qA a))) → W p0 l e0 { frames := 2, cells := 13, slots := 2395, locals := 33 } s0 m0 [Value.ref (d 18), .int p, .int a].toArray below0 meth0 c0 s0.heap [] 0 0 (MQ below0 (kQv D vCl (kA d κ0 s0.heap.size) (fun d' κ' => IsX cI cL cQ d' κ' (xInit p a) ∧ (∀ k, k < 18 → κ' k = κ0 k) ∧ ∀ k, k ≤ 18 → d' k = d k)) [Value.ref (d 18), .int p, .int a].toArray s0 13 2395 (kA d κ0 s0.heap.size)) (F0 m0 51 ls [.int (nI (qP p)), .ref (d 18)]) := by
    intro ls g f hl hfc
    refine ka_putF (D := D) (ci := 3) (v := .int (nI (qP p))) (ty := .int) (C := RX) (T := TX) (N := 10) hx hb hts inX tX tX_ok nX hown hK (kW.start hP) (q := 18) hq rfl 0 (by decide) (hts _ tw_99) (fun _ h9 => h9) rfl hin rfl (by decide +kernel) rfl rfl (Nat.le_of_ble_eq_true rfl) dX_init_51 (fun H locs hM => ?_)
    refine lv_aload_n hx hb dX_init_54 rfl (lv_at hl 2 rfl) ?_
    refine lv_iload hx hb dX_init_55 (lv_at hl 0 rfl) ?_
    refine lv_if_eq (tgt := 64) hx hb dX_init_57 (by decide) (fun c9 => ?_) (fun c9 => ?_)
    · refine lv_bipush (v := 6) hx hb dX_init_64 (by decide) ?_
      refine k_topi (hfc.elim (fun h => h.2) (fun h => absurd c9 h.1)) ?_
      exact t66 ls g f H locs _ hl hM (va_up_self _ _ _) (fun k h => (va_up_ne _ _ (by omega)).trans (hn k h)) (fun k h => va_up_ne _ _ (by omega))
    · refine lv_iload_n hx hb dX_init_60 rfl (lv_at hl 4 rfl) ?_
      refine lv_goto (tgt := 66) hx hb dX_init_61 (by decide) ?_
      refine k_topi (hfc.elim (fun h => absurd h.1 c9) (fun h => h.2)) ?_
      exact t66 ls g f H locs _ hl hM (va_up_self _ _ _) (fun k h => (va_up_ne _ _ (by omega)).trans (hn k h)) (fun k h => va_up_ne _ _ (by omega))
  have t40 : ∀ (ls : Array Slot) (g f : Int32), lv_has ls 5 [(4, .int f), (3, .int g), (0, .ref (d 18)), (1, .int p), (2, .int a)] → ((g = 0 ∧ (8 : Int32) = nI (qP p)) ∨ (¬ g = 0 ∧ p = nI (qP p))) → ((f = 0 ∧ (6 : Int32) = nI (qA a)) ∨ (¬ f = 0 ∧ a = nI (qA a))) → W p0 l e0 { frames := 2, cells := 13, slots := 2395, locals := 33 } s0 m0 [Value.ref (d 18), .int p, .int a].toArray below0 meth0 c0 s0.heap [] 0 0 (MQ below0 (kQv D vCl (kA d κ0 s0.heap.size) (fun d' κ' => IsX cI cL cQ d' κ' (xInit p a) ∧ (∀ k, k < 18 → κ' k = κ0 k) ∧ ∀ k, k ≤ 18 → d' k = d k)) [Value.ref (d 18), .int p, .int a].toArray s0 13 2395 (kA d κ0 s0.heap.size)) (F0 m0 40 ls []) := by
    intro ls g f hl hgc hfc
    refine lv_aload_n hx hb dX_init_40 rfl (lv_at hl 2 rfl) ?_
    refine lv_iload_n hx hb dX_init_41 rfl (lv_at hl 1 rfl) ?_
    refine lv_if_eq (tgt := 49) hx hb dX_init_42 (by decide) (fun c9 => ?_) (fun c9 => ?_)
    · refine lv_bipush (v := 8) hx hb dX_init_49 (by decide) ?_
      refine k_topi (hgc.elim (fun h => h.2) (fun h => absurd c9 h.1)) ?_
      exact t51 ls g f hl hfc
    · refine lv_iload_n hx hb dX_init_45 rfl (lv_at hl 3 rfl) ?_
      refine lv_goto (tgt := 51) hx hb dX_init_46 (by decide) ?_
      refine k_topi (hgc.elim (fun h => absurd h.1 c9) (fun h => h.2)) ?_
      exact t51 ls g f hl hfc
  have t22 : ∀ (ls : Array Slot) (g : Int32), lv_has ls 5 [(3, .int g), (0, .ref (d 18)), (1, .int p), (2, .int a)] → ((g = 0 ∧ (8 : Int32) = nI (qP p)) ∨ (¬ g = 0 ∧ p = nI (qP p))) → W p0 l e0 { frames := 2, cells := 13, slots := 2395, locals := 33 } s0 m0 [Value.ref (d 18), .int p, .int a].toArray below0 meth0 c0 s0.heap [] 0 0 (MQ below0 (kQv D vCl (kA d κ0 s0.heap.size) (fun d' κ' => IsX cI cL cQ d' κ' (xInit p a) ∧ (∀ k, k < 18 → κ' k = κ0 k) ∧ ∀ k, k ≤ 18 → d' k = d k)) [Value.ref (d 18), .int p, .int a].toArray s0 13 2395 (kA d κ0 s0.heap.size)) (F0 m0 22 ls []) := by
    intro ls g hl hgc
    refine lv_iload_n hx hb dX_init_22 rfl (lv_at hl 3 rfl) ?_
    refine lv_iconst (v := 1) hx hb dX_init_23 (by decide) ?_
    refine lv_icmp_lt (tgt := 37) hx hb dX_init_24 (by decide) (fun f1 => ?_) (fun f1 => ?_)
    · refine lv_iconst (v := 0) hx hb dX_init_37 (by decide) ?_
      refine lv_istore (lv' := [(4, .int 0), (3, .int g), (0, .ref (d 18)), (1, .int p), (2, .int a)]) hx hb dX_init_38 hl (by decide) rfl (fun ls hl => ?_)
      exact t40 ls g 0 hl hgc (Or.inl ⟨rfl, qA_lo f1⟩)
    · refine lv_iload_n hx hb dX_init_27 rfl (lv_at hl 3 rfl) ?_
      refine lv_bipush (v := 64) hx hb dX_init_28 (by decide) ?_
      refine lv_icmp_gt (tgt := 37) hx hb dX_init_30 (by decide) (fun f2 => ?_) (fun f2 => ?_)
      · refine lv_iconst (v := 0) hx hb dX_init_37 (by decide) ?_
        refine lv_istore (lv' := [(4, .int 0), (3, .int g), (0, .ref (d 18)), (1, .int p), (2, .int a)]) hx hb dX_init_38 hl (by decide) rfl (fun ls hl => ?_)
        exact t40 ls g 0 hl hgc (Or.inl ⟨rfl, qA_hi f1 f2⟩)
      · refine lv_iconst (v := 1) hx hb dX_init_33 (by decide) ?_
        refine lv_goto (tgt := 38) hx hb dX_init_34 (by decide) ?_
        refine lv_istore (lv' := [(4, .int 1), (3, .int g), (0, .ref (d 18)), (1, .int p), (2, .int a)]) hx hb dX_init_38 hl (by decide) rfl (fun ls hl => ?_)
        exact t40 ls g 1 hl hgc (Or.inr ⟨by decide, qA_in f1 f2⟩)
  refine lv_aload_n hx hb dX_init_0 rfl (lv_at hl 0 rfl) ?_
  refine W.objInit hx hb hown (hts _ tw_49) (hts _ tw_50) (hts _ tw_51) rfl (hl.1.trans hml.symm) rfl dX_init_1 (Nat.le_of_ble_eq_true rfl) (Nat.le_of_ble_eq_true rfl) ?_
  refine W.eq (g2 := F0 m0 4 ls []) rfl ?_
  refine lv_iload_n hx hb dX_init_4 rfl (lv_at hl 1 rfl) ?_
  refine lv_iconst (v := 2) hx hb dX_init_5 (by decide) ?_
  refine lv_icmp_lt (tgt := 20) hx hb dX_init_6 (by decide) (fun g1 => ?_) (fun g1 => ?_)
  · refine lv_iconst (v := 0) hx hb dX_init_20 (by decide) ?_
    refine lv_istore_n (lv' := [(3, .int 0), (0, .ref (d 18)), (1, .int p), (2, .int a)]) hx hb dX_init_21 rfl hl (by decide) rfl (fun ls hl => ?_)
    exact t22 ls 0 hl (Or.inl ⟨rfl, qP_lo g1⟩)
  · refine lv_iload_n hx hb dX_init_9 rfl (lv_at hl 1 rfl) ?_
    refine lv_sipush (v := 256) hx hb dX_init_10 (by decide) ?_
    refine lv_icmp_gt (tgt := 20) hx hb dX_init_13 (by decide) (fun g2 => ?_) (fun g2 => ?_)
    · refine lv_iconst (v := 0) hx hb dX_init_20 (by decide) ?_
      refine lv_istore_n (lv' := [(3, .int 0), (0, .ref (d 18)), (1, .int p), (2, .int a)]) hx hb dX_init_21 rfl hl (by decide) rfl (fun ls hl => ?_)
      exact t22 ls 0 hl (Or.inl ⟨rfl, qP_hi g1 g2⟩)
    · refine lv_iconst (v := 1) hx hb dX_init_16 (by decide) ?_
      refine lv_goto (tgt := 21) hx hb dX_init_17 (by decide) ?_
      refine lv_istore_n (lv' := [(3, .int 1), (0, .ref (d 18)), (1, .int p), (2, .int a)]) hx hb dX_init_21 rfl hl (by decide) rfl (fun ls hl => ?_)
      exact t22 ls 1 hl (Or.inr ⟨by decide, qP_in g1 g2⟩)
