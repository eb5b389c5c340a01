/-! holds -/
/-- a leg's room, as the class looks at it -/
def bR (x : XS) (p q : Int32) : Int32 := if f_P_has (x.1 3) (x.2.2.2.1 0) (x.2.2.2.2.1 1) (f_X_pairOf x p q) = 0 then 0 else (if 0 < f_G_paidFrom x p q x.2.1 then (if f_X_roomOf x (f_X_pairOf x p q) - f_G_paidFrom x p q x.2.1 < 0 then 1 else 0) else 0)
theorem bR_eq (x : XS) (k : Int32) : f_X_breaksRoom x k = bR x (x.2.2.2.1 2 k.toNatClampNeg) (x.2.2.2.1 3 k.toNatClampNeg) := rfl
section Hd
variable {n : Nat} {m : MS} {x : XS} {p q a : Nat}
theorem RR.valA (h : RR n m x) (hp : p < m.1 0) (ha : a < m.1 2) : f_M_value m (nI (p * m.1 1 + a)) = xH x a p := by
  obtain ⟨b0, b1, b2, b3, b4, b5, b6, b7, b8, b9, b10, b11, b12⟩ := h.nb
  obtain ⟨e1, e2, e3, e4, e5, e6, e7, e8⟩ := h.pos hp (show a < m.1 1 by omega)
  rw [f_M_value, (h.there hp (show a < m.1 1 by omega)).2, if_pos ha, if_neg (by decide : ¬ (1 : Int32) = 0), if_neg e7, e5, e4, h.rw.held ha hp]
theorem RR.flA (h : RR n m x) (hp : p < m.1 0) (ha : a < m.1 2) : f_M_floor m (nI (p * m.1 1 + a)) = f_X_lowest x a (nI p) := by
  obtain ⟨b0, b1, b2, b3, b4, b5, b6, b7, b8, b9, b10, b11, b12⟩ := h.nb
  obtain ⟨e1, e2, e3, e4, e5, e6, e7, e8⟩ := h.pos hp (show a < m.1 1 by omega)
  rw [f_M_floor, (h.there hp (show a < m.1 1 by omega)).2, if_pos ha, if_neg (by decide : ¬ (1 : Int32) = 0), if_pos e6, e5, e4, (h.lowest ha hp).1]
theorem RR.brk (h : RR n m x) (hp : p < m.1 0) (ha : a < m.1 2) : f_X_breaksFloor x (nI p) (nI a) = if mQ m (nI p) (nI a) < 0 then (if xH x a p + mQ m (nI p) (nI a) < f_X_lowest x a (nI p) then 1 else 0) else 0 := by
  obtain ⟨b0, b1, b2, b3, b4, b5, b6, b7, b8, b9, b10, b11, b12⟩ := h.nb
  rw [f_X_breaksFloor, if_pos ((h.isA (by omega)).mpr ha), h.gnet, nI_clamp (by omega), nI_clamp (by omega)]
theorem RR.fitA (h : RR n m x) (hp : p < m.1 0) (ha : a < m.1 2) : f_M_fits m (nI (p * m.1 1 + a)) = 0 ↔ ¬ f_X_breaksFloor x (nI p) (nI a) = 0 := by
  rw [h.brk hp ha, f_M_fits, h.netA hp ha, h.valA hp ha, h.flA hp ha]
  by_cases c1 : mQ m (nI p) (nI a) < 0
  · rw [if_pos c1, if_pos c1]
    by_cases c2 : xH x a p + mQ m (nI p) (nI a) < f_X_lowest x a (nI p)
    · rw [if_pos c2, if_pos c2]
      exact ⟨fun _ => by decide, fun _ => rfl⟩
    · rw [if_neg c2, if_neg c2]
      exact ⟨fun z => absurd z (by decide), fun z => absurd rfl z⟩
  · rw [if_neg c1, if_neg c1]
    exact ⟨fun z => absurd z (by decide), fun z => absurd rfl z⟩
theorem RR.fitA0 (h : RR n m x) (hp : p < m.1 0) (ha : a < m.1 2) (hno : ∀ k, k < m.1 7 → ¬ (m.2.2.1 8 k = nI p ∧ m.2.2.1 10 k = nI a)) : ¬ f_M_fits m (nI (p * m.1 1 + a)) = 0 := by
  have h1 := (h.mQR (nI p) (nI a)).2 hno
  have e0 : (0 : Int64).toInt = 0 := by decide
  rw [f_M_fits, h.netA hp ha, if_neg (by rw [Int64.lt_iff_toInt_lt, e0]; omega)]
  decide
theorem RR.fitR (h : RR n m x) (hp : p < m.1 0) (hq : q < m.1 0) : f_M_fits m (nI (m.1 0 * m.1 1 + (p * m.1 0 + q))) = 0 ↔ ¬ bR x (nI p) (nI q) = 0 := by
  obtain ⟨b0, b1, b2, b3, b4, b5, b6, b7, b8, b9, b10, b11, b12⟩ := h.nb
  obtain ⟨e1, e2, e3, e4, e5, e6, e7, e8, e9⟩ := h.rpos hp hq
  have e0 : (0 : Int64).toInt = 0 := by decide
  rw [bR, h.pair, f_P_has, h.limIdx hp hq, f_M_fits]
  rcases h.limAt hp hq with ⟨e, h2⟩ | ⟨k, hk, e, h2, h3, h4, h5⟩
  · have en : f_M_net m (nI (m.1 0 * m.1 1 + (p * m.1 0 + q))) = 0 := by rw [f_M_net, (h.thereR hp hq).2, e, if_pos rfl, if_pos rfl]
    rw [en, e, if_neg (by decide : ¬ (0 : Int64) < 0), if_pos rfl, if_pos rfl]
    exact ⟨fun z => absurd z (by decide), fun z => absurd rfl z⟩
  · obtain ⟨hpq, hv, -, -⟩ := h.roomV hp hq hk e
    have ev : f_M_value m (nI (m.1 0 * m.1 1 + (p * m.1 0 + q))) = m.2.2.2 4 k - f_M_netPaid m (nI p) (nI q) := by
      rw [f_M_value, (h.thereR hp hq).2, e, if_neg (nI_m1 (by omega)), if_neg (by decide : ¬ (1 : Int32) = 0), nI_mul, if_pos e7, e4, e6, e5, e, nI_clamp (by omega)]
    have ef : f_M_floor m (nI (m.1 0 * m.1 1 + (p * m.1 0 + q))) = 0 := by
      rw [f_M_floor, nI_mul, if_neg e2, ite_self]
    obtain ⟨r1, r2⟩ := (h.mRR (nI p) (nI q)).1
    rw [h.netR hp hq hk e, ev, ef, e, if_neg (nI_m1 (by omega)), if_neg (by decide : ¬ (1 : Int32) = 0), hv, h.gpaid _ _ (fun z => hpq ((nI_eq (by omega) (by omega)).mp z)), Int64.sub_eq_add_neg (m.2.2.2 4 k - f_M_netPaid m (nI p) (nI q))]
    have hi : - mR m (nI p) (nI q) < 0 ↔ 0 < mR m (nI p) (nI q) := by
      rw [Int64.lt_iff_toInt_lt, Int64.lt_iff_toInt_lt, q_neg (by omega), e0]
      omega
    by_cases c1 : 0 < mR m (nI p) (nI q)
    · rw [if_pos c1, if_pos (hi.mpr c1)]
      by_cases c2 : m.2.2.2 4 k - f_M_netPaid m (nI p) (nI q) + - mR m (nI p) (nI q) < 0
      · rw [if_pos c2, if_pos c2]
        exact ⟨fun _ => by decide, fun _ => rfl⟩
      · rw [if_neg c2, if_neg c2]
        exact ⟨fun z => absurd z (by decide), fun z => absurd rfl z⟩
    · rw [if_neg c1, if_neg (fun z => c1 (hi.mp z))]
      exact ⟨fun z => absurd z (by decide), fun z => absurd rfl z⟩
theorem RR.bR0 (h : RR n m x) (hp : p < m.1 0) (hq : q < m.1 0) (hpq : ¬ p = q) (hno : ∀ k, k < m.1 7 → ¬ (m.2.2.1 8 k = nI p ∧ m.2.2.1 9 k = nI q)) : bR x (nI p) (nI q) = 0 := by
  obtain ⟨b0, b1, b2, b3, b4, b5, b6, b7, b8, b9, b10, b11, b12⟩ := h.nb
  have h1 := (h.mRR (nI p) (nI q)).2 hno
  have e0 : (0 : Int64).toInt = 0 := by decide
  rw [bR, h.gpaid _ _ (fun z => hpq ((nI_eq (by omega) (by omega)).mp z)), if_neg (by rw [Int64.lt_iff_toInt_lt, e0]; omega : ¬ 0 < mR m (nI p) (nI q)), ite_self]
/-- what each side looks at, leg by leg -/
def XO (x : XS) (k : Nat) : Prop := f_X_breaksFloor x (x.2.2.2.1 2 k) (x.2.2.2.1 4 k) = 0 ∧ bR x (x.2.2.2.1 2 k) (x.2.2.2.1 3 k) = 0
def MO (m : MS) (k : Nat) : Prop := ¬ f_M_fits m (m.2.2.1 8 k * nI (m.1 1) + m.2.2.1 10 k) = 0 ∧ ¬ f_M_fits m (m.2.2.1 9 k * nI (m.1 1) + m.2.2.1 10 k) = 0 ∧ ¬ f_M_fits m (nI (m.1 0) * nI (m.1 1) + m.2.2.1 8 k * nI (m.1 0) + m.2.2.1 9 k) = 0 ∧ ¬ f_M_fits m (nI (m.1 0) * nI (m.1 1) + m.2.2.1 9 k * nI (m.1 0) + m.2.2.1 8 k) = 0
theorem X_holds_l (h : RR n m x) : ∀ (j k : Nat), k ≤ m.1 7 → m.1 7 < k + j → (f_X_holds_l x j k = 1 ∧ ∀ i, k ≤ i → i < m.1 7 → XO x i) ∨ (f_X_holds_l x j k = 0 ∧ ∃ i, i < m.1 7 ∧ ¬ XO x i)
  | 0, k, h1, h2 => by omega
  | j + 1, k, h1, h2 => by
    obtain ⟨b0, b1, b2, b3, b4, b5, b6, b7, b8, b9, b10, b11, b12⟩ := h.nb
    rw [f_X_holds_l_s, h.sz.2.2.2.2.1]
    by_cases e : k = m.1 7
    · rw [if_pos (nI_le (by omega) (by omega))]
      exact Or.inl ⟨rfl, fun i h3 h4 => by omega⟩
    · rw [if_neg (nI_ge (by omega) (by omega)), bR_eq, nI_clamp (by omega)]
      by_cases c1 : f_X_breaksFloor x (x.2.2.2.1 2 k) (x.2.2.2.1 4 k) = 0
      · rw [if_pos c1]
        by_cases c2 : bR x (x.2.2.2.1 2 k) (x.2.2.2.1 3 k) = 0
        · rw [if_pos c2]
          rcases X_holds_l h j (k + 1) (by omega) (by omega) with ⟨i1, i2⟩ | i1
          · refine Or.inl ⟨i1, fun i h3 h4 => ?_⟩
            by_cases z : i = k
            · rw [z]; exact ⟨c1, c2⟩
            · exact i2 i (by omega) h4
          · exact Or.inr i1
        · rw [if_neg c2]
          exact Or.inr ⟨rfl, k, by omega, fun z => c2 z.2⟩
      · rw [if_neg c1]
        exact Or.inr ⟨rfl, k, by omega, fun z => c1 z.1⟩
theorem M_holds_0 (m : MS) : ∀ (j k : Nat), f_M_holds_l m j k 0 = 0
  | 0, k => rfl
  | j + 1, k => by
    rw [f_M_holds_l_s, if_pos (rfl : (0 : Int32) = 0), M_holds_0 m j (k + 1), ite_self]
theorem M_holds_l (h : RR n m x) : ∀ (j k : Nat), k ≤ m.1 7 → m.1 7 < k + j → (f_M_holds_l m j k 1 = 1 ∧ ∀ i, k ≤ i → i < m.1 7 → MO m i) ∨ (f_M_holds_l m j k 1 = 0 ∧ ∃ i, i < m.1 7 ∧ ¬ MO m i)
  | 0, k, h1, h2 => by omega
  | j + 1, k, h1, h2 => by
    obtain ⟨b0, b1, b2, b3, b4, b5, b6, b7, b8, b9, b10, b11, b12⟩ := h.nb
    rw [f_M_holds_l_s]
    by_cases e : k = m.1 7
    · rw [if_pos (nI_le (by omega) (by omega))]
      exact Or.inl ⟨rfl, fun i h3 h4 => by omega⟩
    · rw [if_neg (nI_ge (by omega) (by omega)), if_neg (by decide : ¬ (1 : Int32) = 0), M_holds_0, nI_clamp (by omega)]
      by_cases c1 : f_M_fits m (m.2.2.1 8 k * nI (m.1 1) + m.2.2.1 10 k) = 0
      · rw [if_pos c1]
        exact Or.inr ⟨rfl, k, by omega, fun z => z.1 c1⟩
      rw [if_neg c1]
      by_cases c2 : f_M_fits m (m.2.2.1 9 k * nI (m.1 1) + m.2.2.1 10 k) = 0
      · rw [if_pos c2]
        exact Or.inr ⟨rfl, k, by omega, fun z => z.2.1 c2⟩
      rw [if_neg c2]
      by_cases c3 : f_M_fits m (nI (m.1 0) * nI (m.1 1) + m.2.2.1 8 k * nI (m.1 0) + m.2.2.1 9 k) = 0
      · rw [if_pos c3]
        exact Or.inr ⟨rfl, k, by omega, fun z => z.2.2.1 c3⟩
      rw [if_neg c3]
      by_cases c4 : f_M_fits m (nI (m.1 0) * nI (m.1 1) + m.2.2.1 9 k * nI (m.1 0) + m.2.2.1 8 k) = 0
      · rw [if_pos c4]
        exact Or.inr ⟨rfl, k, by omega, fun z => z.2.2.2 c4⟩
      rw [if_neg c4]
      rcases M_holds_l h j (k + 1) (by omega) (by omega) with ⟨i1, i2⟩ | i1
      · refine Or.inl ⟨i1, fun i h3 h4 => ?_⟩
        by_cases z : i = k
        · rw [z]; exact ⟨c1, c2, c3, c4⟩
        · exact i2 i (by omega) h4
      · exact Or.inr i1
theorem RR.hold1 (h : RR n m x) {k : Nat} (hk : k < m.1 7) (hM : MO m k) : XO x k := by
  obtain ⟨e1, e2, e3, e4, p, q, a, v, hp0, hp, hq0, hq, hpq, ha, hv1, hv2, f1, f2, f3, f4⟩ := h.g8 k hk
  obtain ⟨m1, m2, m3, m4⟩ := hM
  rw [f1, f3, nI_mul, nI_add] at m1
  rw [f1, f2, nI_mul, nI_mul, nI_add, nI_add, Nat.add_assoc] at m3
  unfold XO
  rw [e1, e2, e3, f1, f2, f3]
  refine ⟨?_, ?_⟩
  · by_cases c : f_X_breaksFloor x (nI p) (nI a) = 0
    · exact c
    · exact absurd ((h.fitA hp ha).mpr c) m1
  · by_cases c : bR x (nI p) (nI q) = 0
    · exact c
    · exact absurd ((h.fitR hp hq).mpr c) m3
theorem RR.hold2 (h : RR n m x) (hX : ∀ k, k < m.1 7 → XO x k) {k : Nat} (hk : k < m.1 7) : MO m k := by
  obtain ⟨b0, b1, b2, b3, b4, b5, b6, b7, b8, b9, b10, b11, b12⟩ := h.nb
  obtain ⟨e1, e2, e3, e4, p, q, a, v, hp0, hp, hq0, hq, hpq, ha, hv1, hv2, f1, f2, f3, f4⟩ := h.g8 k hk
  obtain ⟨x1, x2⟩ := hX k hk
  rw [e1, e3, f1, f3] at x1
  rw [e1, e2, f1, f2] at x2
  unfold MO
  rw [f1, f2, f3, nI_mul, nI_mul, nI_mul, nI_mul, nI_mul, nI_add, nI_add, nI_add, nI_add, nI_add, nI_add, Nat.add_assoc, Nat.add_assoc]
  refine ⟨fun z => (h.fitA hp ha).mp z x1, ?_, fun z => (h.fitR hp hq).mp z x2, fun z => (h.fitR hq hp).mp z ?_⟩
  · by_cases c : ∃ j, j < m.1 7 ∧ m.2.2.1 8 j = nI q ∧ m.2.2.1 10 j = nI a
    · obtain ⟨j, hj, y1, y2⟩ := c
      obtain ⟨g1, g2, g3, g4, -⟩ := h.g8 j hj
      have x3 := (hX j hj).1
      rw [g1, g3, y1, y2] at x3
      exact fun z => (h.fitA hq ha).mp z x3
    · exact h.fitA0 hq ha (fun j hj z => c ⟨j, hj, z⟩)
  · by_cases c : ∃ j, j < m.1 7 ∧ m.2.2.1 8 j = nI q ∧ m.2.2.1 9 j = nI p
    · obtain ⟨j, hj, y1, y2⟩ := c
      obtain ⟨g1, g2, g3, g4, -⟩ := h.g8 j hj
      have x3 := (hX j hj).2
      rw [g1, g2, y1, y2] at x3
      exact x3
    · exact h.bR0 hq hp (fun z => hpq z.symm) (fun j hj z => c ⟨j, hj, z⟩)
theorem RR.holdX (h : RR n m x) : (f_X_holds x = 1 ∧ ∀ i, i < m.1 7 → XO x i) ∨ (f_X_holds x = 0 ∧ ∃ i, i < m.1 7 ∧ ¬ XO x i) := by
  unfold f_X_holds
  rcases X_holds_l h (x.1 5 + 1) 0 (by omega) (by rw [h.sz.2.2.2.2.1]; omega) with ⟨i1, i2⟩ | i1
  · exact Or.inl ⟨i1, fun i hi => i2 i (by omega) hi⟩
  · exact Or.inr i1
theorem st_holds (h : RR n m x) : f_X_holds x = f_M_holds m := by
  rcases h.holdX with ⟨i1, i2⟩ | ⟨i1, i, hi, i2⟩
  · rcases M_holds_l h (m.1 7 + 1) 0 (by omega) (by omega) with ⟨j1, j2⟩ | ⟨j1, j, hj, j2⟩
    · rw [i1, f_M_holds, j1]
    · exact absurd (h.hold2 i2 hj) j2
  · rcases M_holds_l h (m.1 7 + 1) 0 (by omega) (by omega) with ⟨j1, j2⟩ | ⟨j1, j, hj, j2⟩
    · exact absurd (h.hold1 hi (j2 i (by omega) hi)) i2
    · rw [i1, f_M_holds, j1]
end Hd
