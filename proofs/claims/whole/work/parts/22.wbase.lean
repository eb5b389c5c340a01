/-! writers: contracts that make no cell -/
def kNi (D : va_G) (cl : List vw_C) (d : Nat → Nat) (A : Nat → Prop) (post : Int32 → (Nat → Option va_E) → Prop) : Array Value → State → Outcome → State → Prop := fun _ st oc t => ∃ (r : Int32) (κ' : Nat → Option va_E), oc = .returned (some (.int r)) ∧ post r κ' ∧ kH D cl d κ' t.heap ∧ (∀ (k : Nat) (e : va_E), κ' k = some e → A (d k)) ∧ va_F A st t
def kNv (D : va_G) (cl : List vw_C) (d : Nat → Nat) (A : Nat → Prop) (post : (Nat → Option va_E) → Prop) : Array Value → State → Outcome → State → Prop := fun _ st oc t => ∃ (κ' : Nat → Option va_E), oc = .returned none ∧ post κ' ∧ kH D cl d κ' t.heap ∧ (∀ (k : Nat) (e : va_E), κ' k = some e → A (d k)) ∧ va_F A st t
section KN
variable {p : Program} {l : Launch} {e : Env} {R : Room} {s : State} {m : MethodId} {args : Array Value} {below : List Frame} {meth : Method} {c : Code} {H : Heap} {locs : List Loc} {cells slots : Nat} {Q : State → Prop}
variable {pc : Nat} {ls : Array Slot} {rest st0 : List Value} {D : va_G} {cl : List vw_C} {d : Nat → Nat} {κ : Nat → Option va_E} {A : Nat → Prop} {H0 : Heap} {a : Array Value}
theorem ka_ncalli {post : Int32 → (Nat → Option va_E) → Prop} (hr : CallRun p l e R s m args below meth c H locs cells slots 0 0 (F0 m pc ls st0) rest (kNi D cl d (kA d κ H.size) post a) (kA d κ H.size)) (hM : kW D cl d κ A H0 H locs) (hA : ∀ q, H0.size ≤ q → A q)
    (kk : ∀ (r : Int32) (κ' : Nat → Option va_E) (H1 : Heap) (locs1 : List Loc), post r κ' → kW D cl d κ' A H0 H1 locs1 → W p l e R s m args below meth c H1 locs1 cells slots Q (F0 m (pc + 3) ls (.int r :: rest))) : W p l e R s m args below meth c H locs cells slots Q (F0 m pc ls st0) := by
  intro T hT X
  obtain ⟨v, st₀, t, T', L, h0, X', hL, e1, ⟨r, κ', hv, hp, h1, h2, hz, hk⟩, st⟩ := hr T hT X
  cases hv
  rw [h0] at hz hk
  obtain ⟨t2, a1, b1⟩ := kk r κ' T'.heap (locs ++ L) hp (ka_join hM hA (by rw [e1]; exact h1) h2 (by rw [e1]; exact hz) (fun q g1 g2 => by rw [e1]; exact hk q g1 g2) hL) T' rfl X'
  exact ⟨t2, st t2 a1, b1⟩
theorem ka_ncallv {post : (Nat → Option va_E) → Prop} (hr : CallRun p l e R s m args below meth c H locs cells slots 0 0 (F0 m pc ls st0) rest (kNv D cl d (kA d κ H.size) post a) (kA d κ H.size)) (hM : kW D cl d κ A H0 H locs) (hA : ∀ q, H0.size ≤ q → A q)
    (kk : ∀ (κ' : Nat → Option va_E) (H1 : Heap) (locs1 : List Loc), post κ' → kW D cl d κ' A H0 H1 locs1 → W p l e R s m args below meth c H1 locs1 cells slots Q (F0 m (pc + 3) ls rest)) : W p l e R s m args below meth c H locs cells slots Q (F0 m pc ls st0) := by
  intro T hT X
  obtain ⟨v, st₀, t, T', L, h0, X', hL, e1, ⟨κ', hv, hp, h1, h2, hz, hk⟩, st⟩ := hr T hT X
  cases hv
  rw [h0] at hz hk
  obtain ⟨t2, a1, b1⟩ := kk κ' T'.heap (locs ++ L) hp (ka_join hM hA (by rw [e1]; exact h1) h2 (by rw [e1]; exact hz) (fun q g1 g2 => by rw [e1]; exact hk q g1 g2) hL) T' rfl X'
  exact ⟨t2, st t2 a1, b1⟩
theorem k_topi {x y : Int32} (h : x = y) (k : W p l e R s m args below meth c H locs cells slots Q (F0 m pc ls (.int y :: rest))) : W p l e R s m args below meth c H locs cells slots Q (F0 m pc ls (.int x :: rest)) := by rw [h]; exact k
end KN
theorem kNi.of {D : va_G} {cl : List vw_C} {A : Nat → Prop} {post : Int32 → (Nat → Option va_E) → Prop} {d : Nat → Nat} {κ : Nat → Option va_E} {a : Array Value} {s t : State} {H : Heap} {locs : List Loc} {r : Int32} (hM : kW D cl d κ A s.heap H locs) (ht : t.heap = H) (hp : post r κ) : kNi D cl d A post a s (.returned (some (.int r))) t :=
  ⟨r, κ, rfl, hp, by rw [ht]; exact hM.1, hM.2.1, hM.2.2.F ht⟩
theorem kNv.of {D : va_G} {cl : List vw_C} {A : Nat → Prop} {post : (Nat → Option va_E) → Prop} {d : Nat → Nat} {κ : Nat → Option va_E} {a : Array Value} {s t : State} {H : Heap} {locs : List Loc} (hM : kW D cl d κ A s.heap H locs) (ht : t.heap = H) (hp : post κ) : kNv D cl d A post a s (.returned none) t :=
  ⟨κ, rfl, hp, by rw [ht]; exact hM.1, hM.2.1, hM.2.2.F ht⟩
theorem MW.trans {cI cL : ClassId} {κ0 κ κ' : Nat → Option va_E} {d : Nat → Nat} {m m' : MS} (h : MW cI cL κ0 d κ m) (h' : MW cI cL κ d κ' m') : MW cI cL κ0 d κ' m' := ⟨h'.1, fun k hk => (h'.2 k hk).trans (h.2 k hk)⟩
theorem XW.trans {cI cL cQ : ClassId} {κ0 κ κ' : Nat → Option va_E} {d : Nat → Nat} {x x' : XS} (h : XW cI cL cQ κ0 d κ x) (h' : XW cI cL cQ κ d κ' x') : XW cI cL cQ κ0 d κ' x' := ⟨h'.1, fun k hk => (h'.2 k hk).trans (h.2 k hk)⟩
/-- a list of pairs, and the rest as it was -/
def PW (cI cL : ClassId) (κ0 : Nat → Option va_E) (d : Nat → Nat) (κ : Nat → Option va_E) (q len cnt : Nat) (f : Nat → Int32) (g : Nat → Int64) : Prop := IsP cI cL d κ q len cnt f g ∧ ∀ k : Nat, ¬ k = q → ¬ k = q + 1 → ¬ k = q + 2 → κ k = κ0 k
section PSet
variable {cI cL : ClassId} {κ0 κ : Nat → Option va_E} {d : Nat → Nat} {q len cnt : Nat} {f : Nat → Int32} {g : Nat → Int64}
theorem pw_count (v : Nat) (h : PW cI cL κ0 d κ q len cnt f g) : PW cI cL κ0 d (va_up κ q (some (.inr (2, [.ref (d (q + 1)), .ref (d (q + 2)), .int (nI v)])))) q len v f g :=
  ⟨⟨va_up_self _ _ _, (va_up_ne _ _ (by omega)).trans h.1.2.1, (va_up_ne _ _ (by omega)).trans h.1.2.2⟩, fun k h1 h2 h3 => (va_up_ne _ _ h1).trans (h.2 k h1 h2 h3)⟩
theorem pw_pairs (v : Nat → Int32) (h : PW cI cL κ0 d κ q len cnt f g) : PW cI cL κ0 d (va_up κ (q + 1) (some (.inl (cI, len, .inl v)))) q len cnt v g :=
  ⟨⟨(va_up_ne _ _ (by omega)).trans h.1.1, va_up_self _ _ _, (va_up_ne _ _ (by omega)).trans h.1.2.2⟩, fun k h1 h2 h3 => (va_up_ne _ _ h2).trans (h.2 k h1 h2 h3)⟩
theorem pw_amounts (v : Nat → Int64) (h : PW cI cL κ0 d κ q len cnt f g) : PW cI cL κ0 d (va_up κ (q + 2) (some (.inl (cL, len, .inr (.inl v))))) q len cnt f v :=
  ⟨⟨(va_up_ne _ _ (by omega)).trans h.1.1, (va_up_ne _ _ (by omega)).trans h.1.2.1, va_up_self _ _ _⟩, fun k h1 h2 h3 => (va_up_ne _ _ h3).trans (h.2 k h1 h2 h3)⟩
end PSet
