/-! new assets -/
theorem G2.new {P A n cnt : Nat} {f : Nat → Int32} {g : Nat → Int64} {h : Nat → Nat → Int64} (hG : G2 P A n cnt f g h) (hn : n < A) (hP : P ≤ 256) (hA : A ≤ 64) : G2 P A (n + 1) cnt f g (va_up h n (fun _ => 0)) := by
  have hPA : P * A ≤ 256 * 64 := Nat.mul_le_mul hP hA
  refine ⟨fun a p ha hp => ?_, fun k hk => ?_⟩
  · by_cases e : a = n
    · subst e
      rw [va_up_self]
      refine (qS_none (fun k hk z => ?_)).symm
      obtain ⟨⟨p', a', hp', ha', e'⟩, -, -⟩ := hG.2 k hk
      rw [e'] at z
      have k1 := q_keylt hp hn
      have k2 := q_keylt hp' (show a' < A by omega)
      have := (q_key (by omega) (by omega) ((nI_eq (by omega) (by omega)).mp z)).2
      omega
    · rw [va_up_ne _ _ e]
      exact hG.1 a p (by omega) hp
  · obtain ⟨⟨p', a', hp', ha', e'⟩, h2⟩ := hG.2 k hk
    exact ⟨⟨p', a', hp', by omega, e'⟩, h2⟩
section New
variable {n : Nat} {m : MS} {x : XS}
theorem cX_new {s : Int32} {r : Int64} {p : Nat} : cX (xNew x s r) p = cX x p := by
  show cS (va_up (xS x) (x.1 2) s) (fun a => q_n (va_up (xP x) (x.1 2) (fun _ => 0) a p)) (fun a => q_n (va_up (xR x) (x.1 2) r a)) (x.1 2 + 1) = _
  have e : q_n 0 = 0 := by decide
  rw [cS]
  simp only [va_up_self, e, Nat.zero_mul, Nat.zero_div, ite_self, Nat.add_zero]
  refine cS_ext (fun k hk => ?_)
  have hne : k ≠ x.1 2 := by omega
  simp only [va_up_ne _ _ hne]
  exact ⟨trivial, fun _ => trivial⟩
theorem RR.new (h : RR n m x) (hA : m.1 2 < m.1 1) {s : Int32} {r : Int64} {mo : Int32} {I : Nat → Nat → Int32} {L : Nat → Nat → Int64} (hI : ∀ j, 2 ≤ j → I j = m.2.2.1 j) (hL : ∀ j, 1 ≤ j → L j = m.2.2.2 j) (hG : G1 (m.1 2 + 1) (I 0) (L 0) (I 1) mo (va_up (xS x) (m.1 2) s) (va_up (xR x) (m.1 2) r)) (hmo : mo = m.2.1 ∨ mo = nI (m.1 2)) : RR (n + 1) (va_up m.1 2 (m.1 2 + 1), mo, I, L) (xM (xNew x s r) mo) := by
  obtain ⟨b0, b1, b2, b3, b4, b5, b6, b7, b8, b9, b10, b11, b12⟩ := h.nb
  obtain ⟨s0, s1, s2, s3, s5, smo⟩ := h.sz
  have hN : NB (n + 1) (va_up m.1 2 (m.1 2 + 1)) := ⟨b0, b1, b2, b3, hA, b5, b6, b7, b8, b9, (by show m.1 3 + 2 * m.1 7 ≤ _; omega), (by show m.1 4 + m.1 7 ≤ _; omega), (by show m.1 5 ≤ _; omega)⟩
  have hH := h.g2.new hA b1 b3
  have hQ := h.g3.1.new hA b1 b3
  refine ⟨hN, ⟨s0, s1, ?_, s3, s5, rfl⟩, ?_, ?_, ⟨?_, ?_⟩, ⟨?_, ?_, ?_⟩, ?_, ?_, ?_, ?_⟩
  · show x.1 2 + 1 = m.1 2 + 1
    rw [s2]
  · show G1 (m.1 2 + 1) (I 0) (L 0) (I 1) mo (va_up (xS x) (x.1 2) s) (va_up (xR x) (x.1 2) r)
    rw [s2]
    exact hG
  · show G2 (m.1 0) (m.1 1) (m.1 2 + 1) (m.1 3) (I 2) (L 1) (va_up (xH x) (x.1 2) (fun _ => 0))
    rw [s2, hI 2 (by decide), hL 1 (by decide)]
    exact hH
  · show G2 (m.1 0) (m.1 1) (m.1 2 + 1) (m.1 5) (I 5) (L 3) (va_up (xP x) (x.1 2) (fun _ => 0))
    rw [s2, hI 5 (by decide), hL 3 (by decide)]
    exact hQ
  · intro a p ha hp
    show 0 ≤ (va_up (xP x) (x.1 2) (fun _ => 0) a p).toInt
    have ha' : a < m.1 2 + 1 := ha
    by_cases e : a = x.1 2
    · rw [e, va_up_self]
      decide
    · rw [va_up_ne _ _ e]
      exact h.g3.2 a p (by omega) hp
  · intro p hp0 hp
    show x.2.2.2.2.1 0 p = lN (cX (xNew x s r) p)
    rw [cX_new]
    exact h.xc.1 p hp0 hp
  · show x.2.2.1 = lN (pS (cX (xNew x s r)) (x.1 0))
    rw [pS_ext (g := cX x) (fun k _ _ => cX_new)]
    exact h.xc.2.1
  · show pS (cX (xNew x s r)) (x.1 0) ≤ _
    rw [pS_ext (g := cX x) (fun k _ _ => cX_new)]
    exact h.xc.2.2
  · intro a p ha hp0 hp
    show (va_up (xS x) (x.1 2) s a = 1 → (va_up (xP x) (x.1 2) (fun _ => 0) a p).toInt ≤ (va_up (xH x) (x.1 2) (fun _ => 0) a p).toInt) ∧ (mo = nI a → -(cX (xNew x s r) p : Int) ≤ (va_up (xH x) (x.1 2) (fun _ => 0) a p).toInt)
    have ha' : a < x.1 2 + 1 := ha
    by_cases e : a = x.1 2
    · rw [e, va_up_self, va_up_self, va_up_self]
      have e0 : (0 : Int64).toInt = 0 := by decide
      refine ⟨fun _ => Int.le_refl _, fun _ => ?_⟩
      rw [e0]
      omega
    · rw [va_up_ne _ _ e, va_up_ne _ _ e, va_up_ne _ _ e, cX_new]
      obtain ⟨f1, f2⟩ := h.xf a p (by omega) hp0 hp
      refine ⟨f1, fun z => ?_⟩
      rcases hmo with y | y
      · exact f2 (by rw [smo, ← y, z])
      · rw [y] at z
        have := (nI_eq (by omega) (by omega)).mp z
        omega
  · show G6 (m.1 0) (m.1 4) (x.1 4) (I 3) (I 4) (L 2) (x.2.2.2.1 1) (x.2.2.2.2.1 2)
    rw [hI 3 (by decide), hI 4 (by decide), hL 2 (by decide)]
    exact h.g6
  · show G7 (m.1 0) (m.1 6) (I 6) (I 7) (L 4) (x.2.2.2.1 0) (x.2.2.2.2.1 1)
    rw [hI 6 (by decide), hI 7 (by decide), hL 4 (by decide)]
    exact h.g7
  · show G8 (m.1 0) (m.1 2 + 1) (m.1 7) (I 8) (I 9) (I 10) (L 5) (x.2.2.2.1 2) (x.2.2.2.1 3) (x.2.2.2.1 4) (x.2.2.2.2.1 3)
    rw [hI 8 (by decide), hI 9 (by decide), hI 10 (by decide), hL 5 (by decide)]
    intro k hk
    obtain ⟨e1, e2, e3, e4, p, q, a, v, hp0, hp, hq0, hq, hpq, ha, hv⟩ := h.g8 k hk
    exact ⟨e1, e2, e3, e4, p, q, a, v, hp0, hp, hq0, hq, hpq, by omega, hv⟩
/-- an old asset's row, beside a new one -/
theorem G1.old {n : Nat} {s : Nat → Int32} {pr : Nat → Int64} {cut : Nat → Int32} {mo : Int32} {xs : Nat → Int32} {xr : Nat → Int64} (h : G1 n s pr cut mo xs xr) {a : Nat} (ha : a < n) (s0 : Int32) (r e : Int64) (c : Int32) : va_up xs n s0 a = va_up s n s0 a ∧ (va_up s n s0 a = 0 ∨ (va_up s n s0 a = 1 ∧ ∃ e' c' : Nat, e' ≤ 999999999999999 ∧ c' ≤ 99 ∧ va_up pr n e a = lN e' ∧ va_up cut n c a = nI c' ∧ va_up xr n r a = lN (e' * (100 - c')))) := by
  have hne : a ≠ n := by omega
  simp only [va_up_ne _ _ hne]
  exact h.1 a ha
theorem st_security (h : RR n m x) (hn : n < 512) (v : Int64) (cut : Int32) : (g_X_security x v cut).1 = (g_M_security m v cut).1 ∧ RR (n + 1) (g_M_security m v cut).2 (g_X_security x v cut).2 := by
  obtain ⟨b0, b1, b2, b3, b4, b5, b6, b7, b8, b9, b10, b11, b12⟩ := h.nb
  obtain ⟨s0, s1, s2, s3, s5, smo⟩ := h.sz
  unfold g_X_security g_M_security
  rw [q_priceX]
  by_cases c1 : f_M_isPrice v cut = 0
  · rw [if_pos c1, if_pos c1]
    by_cases c2 : nI (m.1 2) = nI (m.1 1)
    · rw [if_pos c2]; exact ⟨rfl, h.up⟩
    · rw [if_neg c2]; exact ⟨rfl, h.up⟩
  · rw [if_neg c1, if_neg c1]
    obtain ⟨e, c, he, hc, rfl, rfl⟩ := q_price c1
    rw [q_rate he hc]
    unfold g_X_addAsset
    rw [s1, s2]
    by_cases c2 : m.1 2 = m.1 1
    · rw [c2, if_pos rfl, if_neg (by rw [nI_ltI (by omega) (by omega)]; omega : ¬ nI (m.1 1) < nI (m.1 1))]
      exact ⟨rfl, h.up⟩
    · rw [if_neg (fun z => c2 ((nI_eq (by omega) (by omega)).mp z)), if_pos ((nI_ltI (by omega) (by omega)).mpr (by omega) : nI (m.1 2) < nI (m.1 1)), nI_clamp (by omega)]
      refine ⟨by rw [Nat.add_sub_cancel], ?_⟩
      have hG : G1 (m.1 2 + 1) (va_up (m.2.2.1 0) (m.1 2) 1) (va_up (m.2.2.2 0) (m.1 2) (lN e)) (va_up (m.2.2.1 1) (m.1 2) (nI c)) m.2.1 (va_up (xS x) (m.1 2) 1) (va_up (xR x) (m.1 2) (lN (e * (100 - c)))) := by
        refine ⟨fun a ha => ?_, ?_⟩
        · by_cases y : a = m.1 2
          · subst y
            simp only [va_up_self]
            exact ⟨trivial, Or.inr ⟨trivial, e, c, he, hc, rfl, rfl, rfl⟩⟩
          · exact h.g1.old (by omega) _ _ _ _
        · rcases h.g1.2 with y | ⟨k, hk, y, z⟩
          · exact Or.inl y
          · exact Or.inr ⟨k, by omega, y, by rw [va_up_ne _ _ (by omega)]; exact z⟩
      have hm := h.new (by omega) (s := 1) (r := lN (e * (100 - c))) (mo := m.2.1) (I := va_up (va_up m.2.2.1 0 (va_up (m.2.2.1 0) (m.1 2) 1)) 1 (va_up (m.2.2.1 1) (m.1 2) (nI c))) (L := va_up m.2.2.2 0 (va_up (m.2.2.2 0) (m.1 2) (lN e))) (fun j hj => by rw [va_up_ne _ _ (by omega), va_up_ne _ _ (by omega)]) (fun j hj => by rw [va_up_ne _ _ (by omega)]) hG (Or.inl rfl)
      rw [← smo] at hm
      have hx : xM (xNew x 1 (lN (e * (100 - c)))) x.2.1 = xNew x 1 (lN (e * (100 - c))) := rfl
      rw [hx, smo] at hm
      exact hm
theorem st_currency (h : RR n m x) (hn : n < 512) : (g_X_currency x).1 = (g_M_currency m).1 ∧ RR (n + 1) (g_M_currency m).2 (g_X_currency x).2 := by
  obtain ⟨b0, b1, b2, b3, b4, b5, b6, b7, b8, b9, b10, b11, b12⟩ := h.nb
  obtain ⟨s0, s1, s2, s3, s5, smo⟩ := h.sz
  unfold g_X_currency g_M_currency g_X_addAsset
  rw [s1, s2]
  by_cases c2 : m.1 2 = m.1 1
  · rw [c2, if_pos rfl, if_neg (by rw [nI_ltI (by omega) (by omega)]; omega : ¬ nI (m.1 1) < nI (m.1 1))]
    by_cases c3 : x.2.1 = -1
    · rw [if_pos c3]
      have hx : xM x (-1) = x := by
        rw [← c3]
        rfl
      show _ ∧ RR (n + 1) m (xM x (-1))
      rw [hx]
      exact ⟨rfl, h.up⟩
    · rw [if_neg c3]
      exact ⟨rfl, h.up⟩
  · rw [if_neg (fun z => c2 ((nI_eq (by omega) (by omega)).mp z)), if_pos ((nI_ltI (by omega) (by omega)).mpr (by omega) : nI (m.1 2) < nI (m.1 1)), nI_clamp (by omega)]
    have hI : ∀ j, 2 ≤ j → va_up m.2.2.1 0 (va_up (m.2.2.1 0) (m.1 2) 0) j = m.2.2.1 j := fun j hj => by rw [va_up_ne _ _ (by omega)]
    have hrow : ∀ a, a < m.1 2 + 1 → va_up (xS x) (m.1 2) 0 a = va_up (m.2.2.1 0) (m.1 2) 0 a ∧ (va_up (m.2.2.1 0) (m.1 2) 0 a = 0 ∨ (va_up (m.2.2.1 0) (m.1 2) 0 a = 1 ∧ ∃ e' c' : Nat, e' ≤ 999999999999999 ∧ c' ≤ 99 ∧ m.2.2.2 0 a = lN e' ∧ m.2.2.1 1 a = nI c' ∧ va_up (xR x) (m.1 2) 0 a = lN (e' * (100 - c')))) := by
      intro a ha
      by_cases y : a = m.1 2
      · subst y
        simp only [va_up_self]
        exact ⟨trivial, Or.inl trivial⟩
      · simp only [va_up_ne _ _ y]
        exact h.g1.1 a (by omega)
    rcases h.g1.2 with y | ⟨k, hk, y, z⟩
    · have c3 : x.2.1 = -1 := smo.trans y
      have hG : G1 (m.1 2 + 1) (va_up (m.2.2.1 0) (m.1 2) 0) (m.2.2.2 0) (m.2.2.1 1) (nI (m.1 2)) (va_up (xS x) (m.1 2) 0) (va_up (xR x) (m.1 2) 0) := ⟨hrow, Or.inr ⟨m.1 2, by omega, rfl, va_up_self _ _ _⟩⟩
      have hm := h.new (by omega) (s := 0) (r := 0) (mo := nI (m.1 2)) (I := va_up m.2.2.1 0 (va_up (m.2.2.1 0) (m.1 2) 0)) (L := m.2.2.2) hI (fun j hj => rfl) hG (Or.inr rfl)
      rw [y, if_neg (by decide : ¬ (0 : Int32) ≤ -1), if_pos (show (xNew x 0 0).2.1 = -1 from c3)]
      exact ⟨by rw [Nat.add_sub_cancel], hm⟩
    · have c3 : x.2.1 = nI k := smo.trans y
      have hG : G1 (m.1 2 + 1) (va_up (m.2.2.1 0) (m.1 2) 0) (m.2.2.2 0) (m.2.2.1 1) m.2.1 (va_up (xS x) (m.1 2) 0) (va_up (xR x) (m.1 2) 0) := ⟨hrow, Or.inr ⟨k, by omega, y, by rw [va_up_ne _ _ (by omega)]; exact z⟩⟩
      have hm := h.new (by omega) (s := 0) (r := 0) (mo := m.2.1) (I := va_up m.2.2.1 0 (va_up (m.2.2.1 0) (m.1 2) 0)) (L := m.2.2.2) hI (fun j hj => rfl) hG (Or.inl rfl)
      rw [← smo] at hm
      have hx : xM (xNew x 0 0) x.2.1 = xNew x 0 0 := rfl
      rw [hx, smo] at hm
      have c4 : (0 : Int32) ≤ m.2.1 := by rw [y]; exact nI_pos' (by omega)
      have c5 : ¬ (xNew x 0 0).2.1 = -1 := fun w => absurd ((c3.symm.trans w) ▸ nI_pos (n := k) (by omega)) (fun q => q (by decide))
      rw [if_pos c4, if_neg c5]
      exact ⟨by rw [Nat.add_sub_cancel], hm⟩
end New
