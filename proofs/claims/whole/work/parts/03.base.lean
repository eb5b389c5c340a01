/-! THE WORLD BY KEYS: κ says what lies at key k, d at which address; all that is known of the heap is one such map, a write is an update at a key -/
def kH (D : va_G) (cl : List vw_C) (d : Nat → Nat) (κ : Nat → Option va_E) (H : Heap) : Prop := (∀ (k : Nat) (e : va_E), κ k = some e → va_at D cl (d k, e) H) ∧ ∀ (i j : Nat) (e f : va_E), κ i = some e → κ j = some f → d i = d j → i = j
def kW (D : va_G) (cl : List vw_C) (d : Nat → Nat) (κ : Nat → Option va_E) (A : Nat → Prop) (H0 H : Heap) (locs : List Loc) : Prop := kH D cl d κ H ∧ (∀ (k : Nat) (e : va_E), κ k = some e → A (d k)) ∧ va_S A H0 H locs
/-- which cells a writer may change: those of its world, and new ones -/
def kA (d : Nat → Nat) (κ : Nat → Option va_E) (sz : Nat) : Nat → Prop := fun q => (∃ (k : Nat) (e : va_E), κ k = some e ∧ d k = q) ∨ sz ≤ q
def kC (D : va_G) (cl : List vw_C) (tys : List (ClassId × FieldType)) (d : Nat → Nat) (κ : Nat → Option va_E) (sz : Nat) (U : State) : Prop := U.heap.size = sz ∧ kH D cl d κ U.heap ∧ va_K D cl tys U
section KB
variable {D : va_G} {cl : List vw_C} {tys : List (ClassId × FieldType)} {d : Nat → Nat} {κ : Nat → Option va_E} {A : Nat → Prop} {H0 H H1 : Heap} {locs : List Loc}
theorem kH.one (h : kH D cl d κ H) {q : Nat} {e : va_E} (he : κ q = some e) : va_P D cl [(d q, e)] H := by
  intro k x hx
  have hz : k < 1 := (List.getElem?_eq_some_iff.mp hx).1
  rw [show k = 0 by omega] at hx
  cases hx
  exact h.1 q e he
theorem kH.set (h : kH D cl d κ H) {q : Nat} {e0 e : va_E} (hq : κ q = some e0) (he : va_at D cl (d q, e) H1) (oq : ∀ x : Nat, x ≠ d q → H1[x]? = H[x]?) : kH D cl d (va_up κ q (some e)) H1 := by
  have key : ∀ (i : Nat) (e1 : va_E), va_up κ q (some e) i = some e1 → ∃ e2, κ i = some e2 := by
    intro i e1 hi
    by_cases hiq : i = q
    · exact ⟨e0, by rw [hiq]; exact hq⟩
    · exact ⟨e1, by rw [va_up_ne _ _ hiq] at hi; exact hi⟩
  refine ⟨fun k e' hk => ?_, fun i j e1 e2 hi hj hij => ?_⟩
  · by_cases hkq : k = q
    · subst hkq
      rw [va_up_self] at hk
      cases hk
      exact he
    · rw [va_up_ne _ _ hkq] at hk
      exact (h.1 k e' hk).kept (oq (d k) (fun z => hkq (h.2 k q e' e0 hk hq z)))
  · obtain ⟨a1, ha1⟩ := key i e1 hi
    obtain ⟨a2, ha2⟩ := key j e2 hj
    exact h.2 i j a1 a2 ha1 ha2 hij
theorem kW.set (h : kW D cl d κ A H0 H locs) {q i : Nat} {e0 e : va_E} (hq : κ q = some e0) (he : va_at D cl (d q, e) H1) (z : H1.size = H.size) (oq : ∀ x : Nat, x ≠ d q → H1[x]? = H[x]?) : kW D cl d (va_up κ q (some e)) A H0 H1 (locs ++ [⟨d q, i⟩]) := by
  refine ⟨h.1.set hq he oq, fun k e' hk => ?_, h.2.2.put z oq (h.2.1 q e0 hq)⟩
  by_cases hkq : k = q
  · rw [hkq]; exact h.2.1 q e0 hq
  · rw [va_up_ne _ _ hkq] at hk
    exact h.2.1 k e' hk
/-- a new cell at the heap's end, under a key that was free -/
theorem kH.new (h : kH D cl d κ H) {q : Nat} {e : va_E} (hq : κ q = none) (he : va_at D cl (H.size, e) H1) (o1 : ∀ x : Nat, x < H.size → H1[x]? = H[x]?) : kH D cl (va_up d q H.size) (va_up κ q (some e)) H1 := by
  have lt : ∀ (k : Nat) (e : va_E), κ k = some e → d k < H.size := fun k e hk => (h.1 k e hk).lt
  refine ⟨fun k e' hk => ?_, fun i j e1 e2 hi hj hij => ?_⟩
  · by_cases hkq : k = q
    · subst hkq
      rw [va_up_self] at hk
      cases hk
      rw [va_up_self]
      exact he
    · rw [va_up_ne _ _ hkq] at hk
      rw [va_up_ne _ _ hkq]
      exact (h.1 k e' hk).kept (o1 _ (lt k e' hk))
  · by_cases hiq : i = q
    · by_cases hjq : j = q
      · rw [hiq, hjq]
      · rw [va_up_ne _ _ hjq] at hj
        rw [hiq, va_up_self, va_up_ne _ _ hjq] at hij
        have := lt j e2 hj
        omega
    · rw [va_up_ne _ _ hiq] at hi
      by_cases hjq : j = q
      · rw [hjq, va_up_self, va_up_ne _ _ hiq] at hij
        have := lt i e1 hi
        omega
      · rw [va_up_ne _ _ hjq] at hj
        rw [va_up_ne _ _ hiq, va_up_ne _ _ hjq] at hij
        exact h.2 i j e1 e2 hi hj hij
theorem kW.new (h : kW D cl d κ A H0 H locs) (hA : ∀ x, H0.size ≤ x → A x) {q : Nat} {e : va_E} (hq : κ q = none) (he : va_at D cl (H.size, e) H1) (z : H.size ≤ H1.size) (o1 : ∀ x : Nat, x < H.size → H1[x]? = H[x]?) : kW D cl (va_up d q H.size) (va_up κ q (some e)) A H0 H1 locs := by
  refine ⟨h.1.new hq he o1, fun k e' hk => ?_, Nat.le_trans h.2.2.1 z, fun x h1 h2 => (o1 x (Nat.lt_of_lt_of_le h1 h.2.2.1)).trans (h.2.2.2.1 x h1 h2), h.2.2.2.2⟩
  by_cases hkq : k = q
  · rw [hkq, va_up_self]; exact hA _ h.2.2.1
  · rw [va_up_ne _ _ hkq] at hk
    rw [va_up_ne _ _ hkq]
    exact h.2.1 k e' hk
theorem kA.hi {sz : Nat} : ∀ x, sz ≤ x → kA d κ sz x := fun _ h => Or.inr h
theorem kW.start {s : State} (h : kH D cl d κ s.heap) : kW D cl d κ (kA d κ s.heap.size) s.heap s.heap [] := ⟨h, fun k e hk => Or.inl ⟨k, e, hk, rfl⟩, va_S.rf⟩
theorem kC_blind {av : List Value} {sz : Nat} : FrameBlind (va_Pc av (kC D cl tys d κ sz)) := fun a U g mk q => ⟨q.1, q.2.1, q.2.2.1, va_K.moved (u := U) (U := U.calling g mk a) (Vm.Alike.refl U.vm) q.2.2.2⟩
theorem kPreV {s : State} {As : List Value} (hP : kH D cl d κ H) (hK : va_K D cl tys s) {q ci : Nat} {fs : List Value} {r : vw_C} (he : κ q = some (.inr (ci, fs))) (hc : cl[ci]? = some r) : PreV s H r.1 (d q) (va_Pc (.ref (d q) :: As) (kC D cl tys d κ H.size)) As :=
  ⟨kC_blind, va_recv hK (hP.one he) hc (q0 := 0) rfl, fun U hU hW => ⟨rfl, by rw [hU], by rw [hU]; exact hP, va_K.moved hW.alike hK⟩⟩
theorem kPreS {s : State} {As : List Value} (hP : kH D cl d κ H) (hK : va_K D cl tys s) : PreS s H (va_Pc As (kC D cl tys d κ H.size)) As :=
  ⟨kC_blind, fun U hU hW => ⟨rfl, by rw [hU], by rw [hU]; exact hP, va_K.moved hW.alike hK⟩⟩
end KB
section KM
variable {l : Launch} {D : va_G} {cl : List vw_C} {tys : List (ClassId × FieldType)} {d : Nat → Nat} {κ : Nat → Option va_E}
/-- the head of every method -/
theorem kMet {y : MethodName} {rm : Room} {av : List Value} {sz : Nat} {Qc : Array Value → State → Outcome → State → Prop} {mc ms : Nat} {free : Addr → Prop} {cc : ByteArray} {maxL : Nat} {ret : Option FieldType} (hy : plainName y.cls = true) (hlen : (lg_sl av).length ≤ maxL)
    (body : ∀ (p : Program) (e : Env) (s : State) (m : MethodId) (below : List Frame) (meth : Method) (c : Code), p.tables.exec = Jvm.exec → c.code = cc → meth.sig.returnType = ret → c.maxLocals = maxL → s.vm.findClass y.cls = some m.cls → meth.locks = false → meth.name = y.name → (∀ w ∈ lw_g, w.before av.toArray s = true) → s.heap.size = sz → kH D cl d κ s.heap → va_K D cl tys s → ∀ ls : Array Slot, lv_has ls maxL (lv_args 0 av) →
      W p l e rm s m av.toArray below meth c s.heap [] 0 0 (MQ below Qc av.toArray s mc ms free) (F0 m 0 ls [])) : Met l y (Cond.code y cc maxL ret :: lw_g) rm (va_Pc av (kC D cl tys d κ sz)) Qc mc ms free := by
  refine Met.ofW (cc := cc) (maxL := maxL) (ret := ret) (ws' := lw_g) hy rfl ?_
  intro p e s m args below meth c s₁ B hml hv
  obtain ⟨rfl, hsz, hP, hK⟩ := hv
  have hl := lv_entry av (n := maxL) hlen
  rw [lg_entry_eq]
  exact body p e s m below meth c B.exec B.bytes B.returns hml (findClass_of_methodNamed B.named) B.notSynchronized (name_of_methodNamed B.named B.method).1 (fun w h => atoms_spec (ws := Cond.code y cc maxL ret :: lw_g) B.pre w (List.mem_cons_of_mem _ h)) hsz hP hK _ hl
end KM
section KR
variable {p : Program} {l : Launch} {e : Env} {R : Room} {s : State} {m : MethodId} {args : Array Value} {below : List Frame} {meth : Method} {c : Code} {H : Heap} {locs : List Loc} {cells slots : Nat} {Q : State → Prop}
variable {cc : ByteArray} {pc : Nat} {ls : Array Slot} {rest : List Value} {D : va_G} {cl : List vw_C} {d : Nat → Nat} {κ : Nat → Option va_E} {A : Nat → Prop} {tys : List (ClassId × FieldType)} {H0 : Heap}
theorem ka_get (hexec : p.tables.exec = Jvm.exec) (hb : c.code = cc) {own ref C : String} {T : u_T} {N ci index : Nat} {Ts : List Cond} (hts : ∀ w ∈ Ts, w.before args s = true) (hin : ∀ w ∈ u_ws C T N, w ∈ Ts) (hown : s.vm.findClass own = some m.cls) (hK : va_K D cl tys s) (hP : kH D cl d κ H) {q : Nat} {fs : List Value} (he : κ q = some (.inr (ci, fs))) (hc : cl[ci]? = some (C, T, N)) (k : Nat) (hk : k < N) (hlink : (Cond.fieldLink own index ref (T k).2.1 (T k).2.2.1).before args s = true) (hsame : ∀ x, s.fieldFound? (T k).1 (T k).2.1 (T k).2.2.1 = some x → s.fieldFound? ref (T k).2.1 (T k).2.2.1 = some x) {v : Value} (hv : fs[k]? = some v) (hdg : decode cc pc = .ok (.getfield index, 3))
    (kk : W p l e R s m args below meth c H locs cells slots Q (F0 m (pc + 3) ls (v :: rest))) : W p l e R s m args below meth c H locs cells slots Q (F0 m pc ls (.ref (d q) :: rest)) :=
  va_get hexec hb hts hin hown hK (hP.one he) 0 rfl hc k hk hlink hsame hv hdg kk
theorem ka_iald (hexec : p.tables.exec = Jvm.exec) (hb : c.code = cc) (hK : va_K D cl tys s) (hP : kH D cl d κ H) (t0 : Nat) {q : Nat} {cA : ClassId} {n : Nat} {f : Nat → Int32} (ha : κ q = some (.inl (cA, n, .inl f))) (ht : tys[t0]? = some (cA, .int)) {i : Int32} (hin : vp_in i n) (hdg : decode cc pc = .ok (.iaload, 1))
    (kk : W p l e R s m args below meth c H locs cells slots Q (F0 m (pc + 1) ls (.int (f i.toNatClampNeg) :: rest))) : W p l e R s m args below meth c H locs cells slots Q (F0 m pc ls (.int i :: .ref (d q) :: rest)) :=
  va_iald hexec hb hK (hP.one ha) 0 t0 rfl ht hin hdg kk
theorem ka_lald (hexec : p.tables.exec = Jvm.exec) (hb : c.code = cc) (hK : va_K D cl tys s) (hP : kH D cl d κ H) (t0 : Nat) {q : Nat} {cA : ClassId} {n : Nat} {f : Nat → Int64} (ha : κ q = some (.inl (cA, n, .inr (.inl f)))) (ht : tys[t0]? = some (cA, .long)) {i : Int32} (hin : vp_in i n) (hdg : decode cc pc = .ok (.laload, 1))
    (kk : W p l e R s m args below meth c H locs cells slots Q (F0 m (pc + 1) ls (.long (f i.toNatClampNeg) :: rest))) : W p l e R s m args below meth c H locs cells slots Q (F0 m pc ls (.int i :: .ref (d q) :: rest)) :=
  va_lald hexec hb hK (hP.one ha) 0 t0 rfl ht hin hdg kk
theorem ka_aldq (hexec : p.tables.exec = Jvm.exec) (hb : c.code = cc) (hK : va_K D cl tys s) (hP : kH D cl d κ H) (t0 : Nat) {q : Nat} {cA : ClassId} {C : String} {n : Nat} {f : Nat → Option Nat} (ha : κ q = some (.inl (cA, n, .inr (.inr (.inr (.inr f)))))) (ht : tys[t0]? = some (cA, .object C)) {i : Int32} (hin : vp_in i n) (hdg : decode cc pc = .ok (.aaload, 1))
    (kk : W p l e R s m args below meth c H locs cells slots Q (F0 m (pc + 1) ls (va_rf (f i.toNatClampNeg) :: rest))) : W p l e R s m args below meth c H locs cells slots Q (F0 m pc ls (.int i :: .ref (d q) :: rest)) :=
  va_aldq hexec hb hK (hP.one ha) 0 t0 rfl ht hin hdg kk
theorem ka_alen (hexec : p.tables.exec = Jvm.exec) (hb : c.code = cc) (hK : va_K D cl tys s) (hP : kH D cl d κ H) (t0 : Nat) {q : Nat} {cA : ClassId} {x : vp_A} (ha : κ q = some (.inl (cA, x))) {ty : FieldType} (ht : tys[t0]? = some (cA, ty)) {v : Int32} (hv : Int32.ofNat x.1 = v) (hdg : decode cc pc = .ok (.arraylength, 1))
    (kk : W p l e R s m args below meth c H locs cells slots Q (F0 m (pc + 1) ls (.int v :: rest))) : W p l e R s m args below meth c H locs cells slots Q (F0 m pc ls (.ref (d q) :: rest)) :=
  va_alen hexec hb hK (hP.one ha) 0 t0 rfl ht hv hdg kk
theorem ka_put (hexec : p.tables.exec = Jvm.exec) (hb : c.code = cc) {own ref C : String} {T : u_T} {N ci index : Nat} {Ts : List Cond} (hts : ∀ w ∈ Ts, w.before args s = true) (hin : ∀ w ∈ u_ws C T N, w ∈ Ts) (ty0 : Nat → FieldType) (hty : ∀ k, k < N → parseFieldDescriptor (T k).2.2.1 = some (ty0 k)) (hnm : ∀ a, a < N → ∀ b, b < N → a ≠ b → (T a).2.1 ≠ (T b).2.1) (hown : s.vm.findClass own = some m.cls) (hK : va_K D cl tys s) (hM : kW D cl d κ A H0 H locs) {q : Nat} {fs : List Value} (he : κ q = some (.inr (ci, fs))) (hc : cl[ci]? = some (C, T, N)) (k : Nat) (hk : k < N) (hlink : (Cond.fieldLink own index ref (T k).2.1 (T k).2.2.1).before args s = true) (hsame : ∀ x, s.fieldFound? (T k).1 (T k).2.1 (T k).2.2.1 = some x → s.fieldFound? ref (T k).2.1 (T k).2.2.1 = some x) (hfin : (T k).2.2.2 = false) {ty : FieldType} {v : Value} (hd : parseFieldDescriptor (T k).2.2.1 = some ty) (hn : narrow ty v = v) (hfit : fits ty v = true) (hl : k < fs.length)
    (hdg : decode cc pc = .ok (.putfield index, 3)) (kk : ∀ (H1 : Heap) (locs1 : List Loc), kW D cl d (va_up κ q (some (.inr (ci, fs.set k v)))) A H0 H1 locs1 → W p l e R s m args below meth c H1 locs1 cells slots Q (F0 m (pc + 3) ls rest)) : W p l e R s m args below meth c H locs cells slots Q (F0 m pc ls (v :: .ref (d q) :: rest)) := by
  have hap := va_apart (own := own) hts hin ty0 hty hnm hK hc
  obtain ⟨r, h1, cell, q1, q2, q3, q4⟩ := hM.1.1 q _ he
  have hr : r = (C, T, N) := Option.some.inj (h1.symm.trans hc)
  subst hr
  obtain ⟨hS, hfc, kC, hkC, hkind⟩ := hK.1 ci _ hc
  obtain ⟨cf, kf, fi, f, hi, hsl⟩ := hS k hk
  have hlay := hts _ (hin _ (u_in_lay hk))
  unfold u_lay at hlay
  rw [if_neg (by rw [hfin]; decide)] at hlay
  have hst := (u_facts hfc hkC (u_lays hts hin hk) hi).1
  have h6 := u_store hfc hkC hkind hlay hi hd hn hfit
  refine W.putK hexec hb (f := f) ⟨hown, hlink, ⟨_, _, _, hsame _ hi⟩, hst⟩ (by rw [q2]; exact h6) q1 q3 (by rw [hsl]; exact k2_hasslot (q4 k hk)) rfl rfl hdg fun H' e1 e2 e3 => ?_
  rw [hsl] at e1 ⊢
  exact kk H' _ (hM.set he ⟨_, hc, t_OB.to (V := updV (vp_V fs) k v) ⟨_, e1, q2, q3, t_set q4 hap hk v⟩ (fun j _ => vp_updV_set hl v j)⟩ e2 e3)
theorem ka_putF (hexec : p.tables.exec = Jvm.exec) (hb : c.code = cc) {own ref C : String} {T : u_T} {N ci index : Nat} {Ts : List Cond} (hts : ∀ w ∈ Ts, w.before args s = true) (hin : ∀ w ∈ u_ws C T N, w ∈ Ts) (ty0 : Nat → FieldType) (hty : ∀ k, k < N → parseFieldDescriptor (T k).2.2.1 = some (ty0 k)) (hnm : ∀ a, a < N → ∀ b, b < N → a ≠ b → (T a).2.1 ≠ (T b).2.1) (hown : s.vm.findClass own = some m.cls) (hK : va_K D cl tys s) (hM : kW D cl d κ A H0 H locs) {q : Nat} {fs : List Value} (he : κ q = some (.inr (ci, fs))) (hc : cl[ci]? = some (C, T, N)) (k : Nat) (hk : k < N) (hlink : (Cond.fieldLink own index ref (T k).2.1 (T k).2.2.1).before args s = true) (hsame : ∀ x, s.fieldFound? (T k).1 (T k).2.1 (T k).2.2.1 = some x → s.fieldFound? ref (T k).2.1 (T k).2.2.1 = some x) (hfin : (T k).2.2.2 = true) (hin2 : meth.name = "<init>") (hdecl : (T k).1 = own) {ty : FieldType} {v : Value} (hd : parseFieldDescriptor (T k).2.2.1 = some ty) (hn : narrow ty v = v) (hfit : fits ty v = true) (hl : k < fs.length)
    (hdg : decode cc pc = .ok (.putfield index, 3)) (kk : ∀ (H1 : Heap) (locs1 : List Loc), kW D cl d (va_up κ q (some (.inr (ci, fs.set k v)))) A H0 H1 locs1 → W p l e R s m args below meth c H1 locs1 cells slots Q (F0 m (pc + 3) ls rest)) : W p l e R s m args below meth c H locs cells slots Q (F0 m pc ls (v :: .ref (d q) :: rest)) := by
  have hap := va_apart (own := own) hts hin ty0 hty hnm hK hc
  obtain ⟨r, h1, cell, q1, q2, q3, q4⟩ := hM.1.1 q _ he
  have hr : r = (C, T, N) := Option.some.inj (h1.symm.trans hc)
  subst hr
  obtain ⟨hS, hfc, kC, hkC, hkind⟩ := hK.1 ci _ hc
  obtain ⟨cf, kf, fi, f, hi, hsl⟩ := hS k hk
  have hlay := hts _ (hin _ (u_in_lay hk))
  unfold u_lay at hlay
  rw [if_pos hfin] at hlay
  have hst := (u_facts hfc hkC (u_lays hts hin hk) hi).1
  have hcf : m.cls = cf := by
    obtain ⟨_, _, c', _, _, _, -, -, hf', -, -, -, hown2, -⟩ := Cond.laysFinal_spec hlay
    have e1 : c' = cf := by have := hi.symm.trans hf'; simp at this; exact this.1.symm
    rw [hdecl] at hown2
    rw [← e1]; exact Option.some.inj (hown.symm.trans hown2)
  have h6 := u_fits hfc hkC hkind (Or.inr hlay) hi hd hn hfit
  refine W.putFinK hexec hb hown hlink (hsame _ hi) hst hcf hin2 (by rw [q2]; exact h6) q1 q3 (by rw [hsl]; exact k2_hasslot (q4 k hk)) rfl rfl hdg fun H' e1 e2 e3 => ?_
  rw [hsl] at e1 ⊢
  exact kk H' _ (hM.set he ⟨_, hc, t_OB.to (V := updV (vp_V fs) k v) ⟨_, e1, q2, q3, t_set q4 hap hk v⟩ (fun j _ => vp_updV_set hl v j)⟩ e2 e3)
theorem ka_iast (hexec : p.tables.exec = Jvm.exec) (hb : c.code = cc) (hK : va_K D cl tys s) (hM : kW D cl d κ A H0 H locs) (t0 : Nat) {q : Nat} {cA : ClassId} {n : Nat} {f : Nat → Int32} (ha : κ q = some (.inl (cA, n, .inl f))) (ht : tys[t0]? = some (cA, .int)) {i : Int32} {x : Int32} (hin : vp_in i n) (hdg : decode cc pc = .ok (.iastore, 1))
    (kk : ∀ (H1 : Heap) (locs1 : List Loc), kW D cl d (va_up κ q (some (.inl (cA, n, .inl (va_up f i.toNatClampNeg x))))) A H0 H1 locs1 → W p l e R s m args below meth c H1 locs1 cells slots Q (F0 m (pc + 1) ls rest)) : W p l e R s m args below meth c H locs cells slots Q (F0 m pc ls (.int x :: .int i :: .ref (d q) :: rest)) := by
  refine W.iast hexec hb (hM.1.1 q _ ha) ((hK.2 t0 _ ht).1 n (fun j => .int (f j))) (fun q => by cases q) (by show ¬ (i < 0 ∨ (arrV _ _ _).slots.size ≤ _); rw [arrV_size]; exact hin) rfl rfl hdg fun H1 e z oq => ?_
  refine kk H1 _ (hM.set ha ?_ z oq)
  show H1[d q]? = some (vp_cell _ _)
  rw [e]
  rw [vp_cell_i, vp_cell_i, arrV_store]
  congr 2
  funext q
  by_cases hq : q = i.toNatClampNeg
  · subst hq
    simp [updV, va_up]
  · simp [updV, va_up, hq]
theorem ka_last (hexec : p.tables.exec = Jvm.exec) (hb : c.code = cc) (hK : va_K D cl tys s) (hM : kW D cl d κ A H0 H locs) (t0 : Nat) {q : Nat} {cA : ClassId} {n : Nat} {f : Nat → Int64} (ha : κ q = some (.inl (cA, n, .inr (.inl f)))) (ht : tys[t0]? = some (cA, .long)) {i : Int32} {x : Int64} (hin : vp_in i n) (hdg : decode cc pc = .ok (.lastore, 1))
    (kk : ∀ (H1 : Heap) (locs1 : List Loc), kW D cl d (va_up κ q (some (.inl (cA, n, .inr (.inl (va_up f i.toNatClampNeg x)))))) A H0 H1 locs1 → W p l e R s m args below meth c H1 locs1 cells slots Q (F0 m (pc + 1) ls rest)) : W p l e R s m args below meth c H locs cells slots Q (F0 m pc ls (.long x :: .int i :: .ref (d q) :: rest)) := by
  refine W.last hexec hb (hM.1.1 q _ ha) ((hK.2 t0 _ ht).1 n (fun j => .long (f j))) (fun q => by cases q) (by show ¬ (i < 0 ∨ (arrV _ _ _).slots.size ≤ _); rw [arrV_size]; exact hin) rfl rfl hdg fun H1 e z oq => ?_
  refine kk H1 _ (hM.set ha ?_ z oq)
  show H1[d q]? = some (vp_cell _ _)
  rw [e]
  rw [vp_cell_l, vp_cell_l, arrV_store]
  congr 2
  funext q
  by_cases hq : q = i.toNatClampNeg
  · subst hq
    simp [updV, va_up]
  · simp [updV, va_up, hq]
theorem ka_astq (hexec : p.tables.exec = Jvm.exec) (hb : c.code = cc) (hK : va_K D cl tys s) (hM : kW D cl d κ A H0 H locs) (t0 ci : Nat) {q qk : Nat} {cA : ClassId} {r : vw_C} {n : Nat} {vs : List Value} {f : Nat → Option Nat} (ha : κ q = some (.inl (cA, n, .inr (.inr (.inr (.inr f)))))) (ht : tys[t0]? = some (cA, .object r.1)) (hv : κ qk = some (.inr (ci, vs))) (hc : cl[ci]? = some r) {i : Int32} (hin : vp_in i n) (hdg : decode cc pc = .ok (.aastore, 1))
    (kk : ∀ (H1 : Heap) (locs1 : List Loc), kW D cl d (va_up κ q (some (.inl (cA, n, .inr (.inr (.inr (.inr (va_up f i.toNatClampNeg (some (d qk)))))))))) A H0 H1 locs1 → W p l e R s m args below meth c H1 locs1 cells slots Q (F0 m (pc + 1) ls rest)) : W p l e R s m args below meth c H locs cells slots Q (F0 m pc ls (.ref (d qk) :: .int i :: .ref (d q) :: rest)) := by
  have hlt : i.toNatClampNeg < n := Nat.not_le.mp fun q => hin (Or.inr q)
  have h0 : ¬ i < 0 := fun q => hin (Or.inl q)
  obtain ⟨r', hr', cellV, g1, g2, g3, -⟩ := hM.1.1 qk _ hv
  have hcls := (hK.1 ci r hc).2
  obtain ⟨kA, comp, k1, k2, k3, -⟩ := (hK.2 t0 _ ht).2
  have hcomp : comp = D.1 ci := Option.some.inj (k3.symm.trans hcls.1)
  subst hcomp
  obtain ⟨kC, hkC, -⟩ := hcls.2
  refine W.aast hexec hb (hM.1.1 q _ ha) (fun q h => by cases h) (fun h => by cases h) k1 k2 rfl hkC ⟨h0, by show _ < (arrV _ _ _).slots.size; rw [arrV_size]; exact hlt⟩ g1 (fun q h => by rw [g3] at h; cases h) (by rw [g2]; exact hkC) (by rw [g2]; exact va_assign hcls) rfl rfl hdg fun H1 e z oq => ?_
  refine kk H1 _ (hM.set ha ?_ z oq)
  show H1[d q]? = some (vp_cell _ _)
  rw [e]
  rw [vp_cell_q, vp_cell_q, arrV_store]
  congr 2
  funext q
  by_cases hq : q = i.toNatClampNeg
  · subst hq
    simp [updV, va_up, va_rf]
  · simp [updV, va_up, hq]
/-- a new object under the key q -/
theorem ka_new {c0 : Code} (hexec : p.tables.exec = Jvm.exec) (hb : c0.code = cc) {own C : String} {T : u_T} {N ci index : Nat} {Ts : List Cond} (hts : ∀ w ∈ Ts, w.before args s = true) (hin : ∀ w ∈ u_ws C T N, w ∈ Ts) (ty : Nat → FieldType) (hty : ∀ k, k < N → parseFieldDescriptor (T k).2.2.1 = some (ty k)) (hown : s.vm.findClass own = some m.cls) (hcl : (Cond.classLink own index C).before args s = true) (hinst : (Cond.instantiable C N).before args s = true) (hini : (Cond.initialized C).before args s = true)
    (hK : va_K D cl tys s) (hM : kW D cl d κ A H0 H locs) (hA : ∀ q, H0.size ≤ q → A q) (q : Nat) (hq : κ q = none) (hc : cl[ci]? = some (C, T, N)) {fs : List Value} (hfs : ∀ j, j < N → defaultValue (ty j) = vp_V fs j) (hcells : cells + 1 ≤ R.cells) (hslots : slots + N ≤ R.slots) (hdg : decode cc pc = .ok (.new index, 3))
    (kk : ∀ (a : Nat) (H1 : Heap), kW D cl (va_up d q a) (va_up κ q (some (.inr (ci, fs)))) A H0 H1 locs →
      W p l e R s m args below meth c0 H1 locs (cells + 1) (slots + N) Q (F0 m (pc + 3) ls (.ref a :: rest))) : W p l e R s m args below meth c0 H locs cells slots Q (F0 m pc ls rest) := by
  have hKn := hK.1 ci _ hc
  refine W.newcK hexec hb hown hcl hinst hini rfl hdg hcells hslots hKn.2.1 rfl fun H1 kC hkC e1 z1 o1 => ?_
  exact kk H.size H1 (hM.new hA hq ⟨_, hc, (u_born ty hts hin hKn hkC e1 hty).to hfs⟩ (by omega) o1)
/-- a new array of longs or ints under the key q; its class is the one that the table has -/
theorem ka_newa (hexec : p.tables.exec = Jvm.exec) (hb : c.code = cc) {atype : ArrayType} (harr : (Cond.arrayClass (newarray.typeOf atype)).before args s = true) {ty : FieldType} (hty : newarray.typeOf atype = ty) (hK : va_K D cl tys s) (t0 : Nat) {cA : ClassId} (ht : tys[t0]? = some (cA, ty)) (hnm : ∀ cB : ClassId, va_RA s cB ty → s.vm.findClass ("[" ++ ty.toString) = some cB) (hM : kW D cl d κ A H0 H locs) (hA : ∀ q, H0.size ≤ q → A q) (q : Nat) (hq : κ q = none)
    {n : Int32} {N' : Nat} {a0 : vp_A} (ha : ∀ cA : ClassId, vp_cell cA a0 = arrV cA N' (fun _ => defaultValue ty)) (hn : ¬ n < 0) (hN : n.toNatClampNeg = N') (hbytes : N' * componentBytes ty ≤ 536870912) (hcells : cells + 1 ≤ R.cells) (hslots : slots + N' ≤ R.slots) (hdg : decode cc pc = .ok (.newarray atype, 2))
    (kk : ∀ (a : Nat) (H1 : Heap), kW D cl (va_up d q a) (va_up κ q (some (.inl (cA, a0)))) A H0 H1 locs →
      W p l e R s m args below meth c H1 locs (cells + 1) (slots + N') Q (F0 m (pc + 2) ls (.ref a :: rest))) : W p l e R s m args below meth c H locs cells slots Q (F0 m pc ls (.int n :: rest)) := by
  subst hty
  refine va_newaK hexec hb harr rfl hdg rfl hn hN hbytes hcells hslots rfl fun H1 cB e1 z1 o1 hAr hNm => ?_
  have hcc : cB = cA := Option.some.inj (hNm.symm.trans (hnm cA (hK.2 t0 _ ht).2))
  subst hcc
  refine kk H.size H1 (hM.new hA hq ?_ (by omega) o1)
  show H1[H.size]? = some (vp_cell _ _)
  rw [ha]
  exact e1
end KR
/-! a writer's end: the answer, the new map, where its cells lie -/
def kQi (D : va_G) (cl : List vw_C) (A : Nat → Prop) (post : Int32 → (Nat → Nat) → (Nat → Option va_E) → Prop) : Array Value → State → Outcome → State → Prop := fun _ st oc t => ∃ (r : Int32) (d' : Nat → Nat) (κ' : Nat → Option va_E), oc = .returned (some (.int r)) ∧ post r d' κ' ∧ kH D cl d' κ' t.heap ∧ (∀ (k : Nat) (e : va_E), κ' k = some e → A (d' k)) ∧ va_F A st t
def kQv (D : va_G) (cl : List vw_C) (A : Nat → Prop) (post : (Nat → Nat) → (Nat → Option va_E) → Prop) : Array Value → State → Outcome → State → Prop := fun _ st oc t => ∃ (d' : Nat → Nat) (κ' : Nat → Option va_E), oc = .returned none ∧ post d' κ' ∧ kH D cl d' κ' t.heap ∧ (∀ (k : Nat) (e : va_E), κ' k = some e → A (d' k)) ∧ va_F A st t
section KQ
variable {p : Program} {l : Launch} {e : Env} {R : Room} {s : State} {m : MethodId} {args : Array Value} {below : List Frame} {meth : Method} {c : Code} {H : Heap} {locs : List Loc} {cells slots : Nat} {Q : State → Prop}
variable {pc : Nat} {ls : Array Slot} {rest st0 : List Value} {D : va_G} {cl : List vw_C} {d : Nat → Nat} {κ : Nat → Option va_E} {A : Nat → Prop} {H0 : Heap} {a : Array Value} {mc ms : Nat}
theorem ka_join {d' : Nat → Nat} {κ' : Nat → Option va_E} {H1 : Heap} {L : List Loc} (hM : kW D cl d κ A H0 H locs) (hA : ∀ q, H0.size ≤ q → A q) (h1 : kH D cl d' κ' H1) (h2 : ∀ (k : Nat) (e : va_E), κ' k = some e → kA d κ H.size (d' k)) (hz : H.size ≤ H1.size) (hk : ∀ q : Nat, q < H.size → ¬ kA d κ H.size q → H1[q]? = H[q]?) (hL : ∀ q ∈ L, kA d κ H.size q.base) : kW D cl d' κ' A H0 H1 (locs ++ L) := by
  have up : ∀ q, kA d κ H.size q → A q := by
    intro q h
    rcases h with ⟨k, e, h3, h4⟩ | h
    · rw [← h4]; exact hM.2.1 k e h3
    · exact hA q (Nat.le_trans hM.2.2.1 h)
  refine ⟨h1, fun k e hk2 => up _ (h2 k e hk2), Nat.le_trans hM.2.2.1 hz, fun q g1 g2 => ?_, fun q hq => ?_⟩
  · rw [hk q (Nat.lt_of_lt_of_le g1 hM.2.2.1) (fun z => g2 (up q z))]
    exact hM.2.2.2.1 q g1 g2
  · rcases List.mem_append.mp hq with h | h
    · exact hM.2.2.2.2 q h
    · exact up _ (hL q h)
theorem ka_calli {post : Int32 → (Nat → Nat) → (Nat → Option va_E) → Prop} (hr : CallRun p l e R s m args below meth c H locs cells slots mc ms (F0 m pc ls st0) rest (kQi D cl (kA d κ H.size) post a) (kA d κ H.size)) (hM : kW D cl d κ A H0 H locs) (hA : ∀ q, H0.size ≤ q → A q)
    (kk : ∀ (r : Int32) (d' : Nat → Nat) (κ' : Nat → Option va_E) (H1 : Heap) (locs1 : List Loc), post r d' κ' → kW D cl d' κ' A H0 H1 locs1 → W p l e R s m args below meth c H1 locs1 (cells + mc) (slots + ms) Q (F0 m (pc + 3) ls (.int r :: rest))) : W p l e R s m args below meth c H locs cells slots Q (F0 m pc ls st0) := by
  intro T hT X
  obtain ⟨v, st₀, t, T', L, h0, X', hL, e1, ⟨r, d', κ', hv, hp, h1, h2, hz, hk⟩, st⟩ := hr T hT X
  cases hv
  rw [h0] at hz hk
  obtain ⟨t2, a1, b1⟩ := kk r d' κ' T'.heap (locs ++ L) hp (ka_join hM hA (by rw [e1]; exact h1) h2 (by rw [e1]; exact hz) (fun q g1 g2 => by rw [e1]; exact hk q g1 g2) hL) T' rfl X'
  exact ⟨t2, st t2 a1, b1⟩
theorem ka_callv {post : (Nat → Nat) → (Nat → Option va_E) → Prop} (hr : CallRun p l e R s m args below meth c H locs cells slots mc ms (F0 m pc ls st0) rest (kQv D cl (kA d κ H.size) post a) (kA d κ H.size)) (hM : kW D cl d κ A H0 H locs) (hA : ∀ q, H0.size ≤ q → A q)
    (kk : ∀ (d' : Nat → Nat) (κ' : Nat → Option va_E) (H1 : Heap) (locs1 : List Loc), post d' κ' → kW D cl d' κ' A H0 H1 locs1 → W p l e R s m args below meth c H1 locs1 (cells + mc) (slots + ms) Q (F0 m (pc + 3) ls rest)) : W p l e R s m args below meth c H locs cells slots Q (F0 m pc ls st0) := by
  intro T hT X
  obtain ⟨v, st₀, t, T', L, h0, X', hL, e1, ⟨d', κ', hv, hp, h1, h2, hz, hk⟩, st⟩ := hr T hT X
  cases hv
  rw [h0] at hz hk
  obtain ⟨t2, a1, b1⟩ := kk d' κ' T'.heap (locs ++ L) hp (ka_join hM hA (by rw [e1]; exact h1) h2 (by rw [e1]; exact hz) (fun q g1 g2 => by rw [e1]; exact hk q g1 g2) hL) T' rfl X'
  exact ⟨t2, st t2 a1, b1⟩
end KQ
theorem kQi.of {D : va_G} {cl : List vw_C} {A : Nat → Prop} {post : Int32 → (Nat → Nat) → (Nat → Option va_E) → Prop} {d : Nat → Nat} {κ : Nat → Option va_E} {a : Array Value} {s t : State} {H : Heap} {locs : List Loc} {r : Int32} (hM : kW D cl d κ A s.heap H locs) (ht : t.heap = H) (hp : post r d κ) : kQi D cl A post a s (.returned (some (.int r))) t :=
  ⟨r, d, κ, rfl, hp, by rw [ht]; exact hM.1, hM.2.1, hM.2.2.F ht⟩
theorem kQv.of {D : va_G} {cl : List vw_C} {A : Nat → Prop} {post : (Nat → Nat) → (Nat → Option va_E) → Prop} {d : Nat → Nat} {κ : Nat → Option va_E} {a : Array Value} {s t : State} {H : Heap} {locs : List Loc} (hM : kW D cl d κ A s.heap H locs) (ht : t.heap = H) (hp : post d κ) : kQv D cl A post a s (.returned none) t :=
  ⟨d, κ, rfl, hp, by rw [ht]; exact hM.1, hM.2.1, hM.2.2.F ht⟩
