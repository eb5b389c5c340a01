/-! readers -/
/-- what the legs so far bring one in one asset -/
def qN (lf lt la : Nat → Int32) (lv : Nat → Int64) (p a : Int32) : Nat → Int64
  | 0 => 0
  | k + 1 => if la k = a then (if lf k = p then qN lf lt la lv p a k - lv k else if lt k = p then qN lf lt la lv p a k + lv k else qN lf lt la lv p a k) else qN lf lt la lv p a k
/-- what one pays the other by the legs so far -/
def qR (lf lt la : Nat → Int32) (lv : Nat → Int64) (p q mo : Int32) : Nat → Int64
  | 0 => 0
  | k + 1 => if la k = mo then (if lf k = p ∧ lt k = q then qR lf lt la lv p q mo k + lv k else if lf k = q ∧ lt k = p then qR lf lt la lv p q mo k - lv k else qR lf lt la lv p q mo k) else qR lf lt la lv p q mo k
theorem qN_range {lf lt la : Nat → Int32} {lv : Nat → Int64} {p a : Int32} : ∀ {n : Nat}, n ≤ 4 → (∀ k, k < n → 0 ≤ (lv k).toInt ∧ (lv k).toInt ≤ 999999999999999) → (-(n * 999999999999999) ≤ (qN lf lt la lv p a n).toInt ∧ (qN lf lt la lv p a n).toInt ≤ n * 999999999999999) ∧ ((∀ k, k < n → ¬ (lf k = p ∧ la k = a)) → 0 ≤ (qN lf lt la lv p a n).toInt)
  | 0, _, _ => by
    have e : (0 : Int64).toInt = 0 := by decide
    simp only [qN, e]
    refine ⟨by omega, fun _ => by omega⟩
  | n + 1, hn, h => by
    obtain ⟨⟨i1, i2⟩, i3⟩ := qN_range (lf := lf) (lt := lt) (la := la) (lv := lv) (p := p) (a := a) (n := n) (by omega) (fun k hk => h k (by omega))
    obtain ⟨j1, j2⟩ := h n (by omega)
    unfold qN
    by_cases c1 : la n = a
    · rw [if_pos c1]
      by_cases c2 : lf n = p
      · rw [if_pos c2, q_sub (by omega) (by omega)]
        exact ⟨by omega, fun z => absurd ⟨c2, c1⟩ (z n (by omega))⟩
      · rw [if_neg c2]
        by_cases c3 : lt n = p
        · rw [if_pos c3, q_add (by omega) (by omega)]
          exact ⟨by omega, fun z => by have := i3 (fun k hk => z k (by omega)); omega⟩
        · rw [if_neg c3]
          exact ⟨by omega, fun z => i3 (fun k hk => z k (by omega))⟩
    · rw [if_neg c1]
      exact ⟨by omega, fun z => i3 (fun k hk => z k (by omega))⟩
theorem qR_range {lf lt la : Nat → Int32} {lv : Nat → Int64} {p q mo : Int32} : ∀ {n : Nat}, n ≤ 4 → (∀ k, k < n → 0 ≤ (lv k).toInt ∧ (lv k).toInt ≤ 999999999999999) → (-(n * 999999999999999) ≤ (qR lf lt la lv p q mo n).toInt ∧ (qR lf lt la lv p q mo n).toInt ≤ n * 999999999999999) ∧ ((∀ k, k < n → ¬ (lf k = p ∧ lt k = q)) → (qR lf lt la lv p q mo n).toInt ≤ 0)
  | 0, _, _ => by
    have e : (0 : Int64).toInt = 0 := by decide
    simp only [qR, e]
    refine ⟨by omega, fun _ => by omega⟩
  | n + 1, hn, h => by
    obtain ⟨⟨i1, i2⟩, i3⟩ := qR_range (lf := lf) (lt := lt) (la := la) (lv := lv) (p := p) (q := q) (mo := mo) (n := n) (by omega) (fun k hk => h k (by omega))
    obtain ⟨j1, j2⟩ := h n (by omega)
    unfold qR
    by_cases c1 : la n = mo
    · rw [if_pos c1]
      by_cases c2 : lf n = p ∧ lt n = q
      · rw [if_pos c2, q_add (by omega) (by omega)]
        exact ⟨by omega, fun z => absurd c2 (z n (by omega))⟩
      · rw [if_neg c2]
        by_cases c3 : lf n = q ∧ lt n = p
        · rw [if_pos c3, q_sub (by omega) (by omega)]
          exact ⟨by omega, fun z => by have := i3 (fun k hk => z k (by omega)); omega⟩
        · rw [if_neg c3]
          exact ⟨by omega, fun z => i3 (fun k hk => z k (by omega))⟩
    · rw [if_neg c1]
      exact ⟨by omega, fun z => i3 (fun k hk => z k (by omega))⟩
section Rd
variable {n : Nat} {m : MS} {x : XS} {p q a : Nat}
/-- what the legs of the reference bring -/
def mQ (m : MS) (p a : Int32) : Int64 := qN (m.2.2.1 8) (m.2.2.1 9) (m.2.2.1 10) (m.2.2.2 5) p a (m.1 7)
def mR (m : MS) (p q : Int32) : Int64 := qR (m.2.2.1 8) (m.2.2.1 9) (m.2.2.1 10) (m.2.2.2 5) p q m.2.1 (m.1 7)
theorem RR.leg (h : RR n m x) {k : Nat} (hk : k < m.1 7) : 0 ≤ (m.2.2.2 5 k).toInt ∧ (m.2.2.2 5 k).toInt ≤ 999999999999999 := by
  obtain ⟨e1, e2, e3, e4, p, q, a, v, hp0, hp, hq0, hq, hpq, ha, hv1, hv2, f1, f2, f3, f4⟩ := h.g8 k hk
  rw [f4, pk_lT (by omega)]
  omega
theorem RR.legNe (h : RR n m x) {k : Nat} (hk : k < m.1 7) : ¬ m.2.2.1 8 k = m.2.2.1 9 k := by
  obtain ⟨b0, b1, -⟩ := h.nb
  obtain ⟨e1, e2, e3, e4, p, q, a, v, hp0, hp, hq0, hq, hpq, ha, hv1, hv2, f1, f2, f3, f4⟩ := h.g8 k hk
  rw [f1, f2]
  exact fun z => hpq ((nI_eq (by omega) (by omega)).mp z)
theorem RR.mQR (h : RR n m x) (p a : Int32) : (-3999999999999996 ≤ (mQ m p a).toInt ∧ (mQ m p a).toInt ≤ 3999999999999996) ∧ ((∀ k, k < m.1 7 → ¬ (m.2.2.1 8 k = p ∧ m.2.2.1 10 k = a)) → 0 ≤ (mQ m p a).toInt) := by
  obtain ⟨b0, b1, b2, b3, b4, b5, b6, b7, b8, b9, b10, b11, b12⟩ := h.nb
  obtain ⟨i1, i2⟩ := qN_range (lf := m.2.2.1 8) (lt := m.2.2.1 9) (la := m.2.2.1 10) (lv := m.2.2.2 5) (p := p) (a := a) (n := m.1 7) b9 (fun k hk => h.leg hk)
  refine ⟨?_, i2⟩
  unfold mQ
  omega
theorem RR.mRR (h : RR n m x) (p q : Int32) : (-3999999999999996 ≤ (mR m p q).toInt ∧ (mR m p q).toInt ≤ 3999999999999996) ∧ ((∀ k, k < m.1 7 → ¬ (m.2.2.1 8 k = p ∧ m.2.2.1 9 k = q)) → (mR m p q).toInt ≤ 0) := by
  obtain ⟨b0, b1, b2, b3, b4, b5, b6, b7, b8, b9, b10, b11, b12⟩ := h.nb
  obtain ⟨i1, i2⟩ := qR_range (lf := m.2.2.1 8) (lt := m.2.2.1 9) (la := m.2.2.1 10) (lv := m.2.2.2 5) (p := p) (q := q) (mo := m.2.1) (n := m.1 7) b9 (fun k hk => h.leg hk)
  refine ⟨?_, i2⟩
  unfold mR
  omega
theorem G_net_l (h : RR n m x) (p a : Int32) : ∀ (j k : Nat) (v : Int64), k ≤ m.1 7 → m.1 7 < k + j → v = qN (m.2.2.1 8) (m.2.2.1 9) (m.2.2.1 10) (m.2.2.2 5) p a k → f_G_netOf_l x p a j k v = mQ m p a
  | 0, k, v, h1, h2, _ => by omega
  | j + 1, k, v, h1, h2, h3 => by
    obtain ⟨b0, b1, b2, b3, b4, b5, b6, b7, b8, b9, b10, b11, b12⟩ := h.nb
    have ih := G_net_l h p a j (k + 1)
    rw [f_G_netOf_l_s, h.sz.2.2.2.2.1]
    by_cases e : k = m.1 7
    · rw [if_pos (nI_le (by omega) (by omega)), h3, e]; rfl
    · have hk : k < m.1 7 := by omega
      have hne := h.legNe hk
      obtain ⟨e1, e2, e3, e4, -⟩ := h.g8 k hk
      rw [if_neg (nI_ge (by omega) (by omega)), nI_clamp (by omega), e1, e2, e3, e4]
      by_cases c1 : m.2.2.1 10 k = a
      · rw [if_pos c1]
        by_cases c2 : m.2.2.1 8 k = p
        · have c3 : ¬ m.2.2.1 9 k = p := fun z => hne (c2.trans z.symm)
          rw [if_pos c2, if_neg c3]
          exact ih _ (by omega) (by omega) (by rw [qN, if_pos c1, if_pos c2, h3])
        · rw [if_neg c2]
          by_cases c3 : m.2.2.1 9 k = p
          · rw [if_pos c3]
            exact ih _ (by omega) (by omega) (by rw [qN, if_pos c1, if_neg c2, if_pos c3, h3])
          · rw [if_neg c3]
            exact ih _ (by omega) (by omega) (by rw [qN, if_pos c1, if_neg c2, if_neg c3, h3])
      · rw [if_neg c1]
        exact ih _ (by omega) (by omega) (by rw [qN, if_neg c1, h3])
theorem M_net_l (h : RR n m x) (id p a : Int32) (hp : id / nI (m.1 1) = p) (ha : id - id / nI (m.1 1) * nI (m.1 1) = a) : ∀ (j k : Nat) (v : Int64), k ≤ m.1 7 → m.1 7 < k + j → v = qN (m.2.2.1 8) (m.2.2.1 9) (m.2.2.1 10) (m.2.2.2 5) p a k → f_M_net_l m id j k v = mQ m p a
  | 0, k, v, h1, h2, _ => by omega
  | j + 1, k, v, h1, h2, h3 => by
    obtain ⟨b0, b1, b2, b3, b4, b5, b6, b7, b8, b9, b10, b11, b12⟩ := h.nb
    have ih := M_net_l h id p a hp ha j (k + 1)
    rw [f_M_net_l_s, ha, hp]
    by_cases e : k = m.1 7
    · rw [if_pos (nI_le (by omega) (by omega)), h3, e]; rfl
    · have hk : k < m.1 7 := by omega
      have hne := h.legNe hk
      rw [if_neg (nI_ge (by omega) (by omega)), nI_clamp (by omega)]
      by_cases c1 : m.2.2.1 10 k = a
      · rw [if_pos c1]
        by_cases c2 : m.2.2.1 8 k = p
        · have c3 : ¬ m.2.2.1 9 k = p := fun z => hne (c2.trans z.symm)
          rw [if_pos c2, if_neg c3]
          exact ih _ (by omega) (by omega) (by rw [qN, if_pos c1, if_pos c2, h3])
        · rw [if_neg c2]
          by_cases c3 : m.2.2.1 9 k = p
          · rw [if_pos c3]
            exact ih _ (by omega) (by omega) (by rw [qN, if_pos c1, if_neg c2, if_pos c3, h3])
          · rw [if_neg c3]
            exact ih _ (by omega) (by omega) (by rw [qN, if_pos c1, if_neg c2, if_neg c3, h3])
      · rw [if_neg c1]
        exact ih _ (by omega) (by omega) (by rw [qN, if_neg c1, h3])
theorem RR.gnet (h : RR n m x) (p a : Int32) : f_G_netOf x p a = mQ m p a := by
  unfold f_G_netOf
  exact G_net_l h p a _ 0 0 (by omega) (by rw [h.sz.2.2.2.2.1]; omega) rfl
theorem G_paid_l (h : RR n m x) (p q : Int32) (hpq : ¬ p = q) : ∀ (j k : Nat) (v : Int64), k ≤ m.1 7 → m.1 7 < k + j → v = qR (m.2.2.1 8) (m.2.2.1 9) (m.2.2.1 10) (m.2.2.2 5) p q m.2.1 k → f_G_paidFrom_l x p q x.2.1 j k v = mR m p q
  | 0, k, v, h1, h2, _ => by omega
  | j + 1, k, v, h1, h2, h3 => by
    obtain ⟨b0, b1, b2, b3, b4, b5, b6, b7, b8, b9, b10, b11, b12⟩ := h.nb
    have ih := G_paid_l h p q hpq j (k + 1)
    rw [f_G_paidFrom_l_s, h.sz.2.2.2.2.1]
    by_cases e : k = m.1 7
    · rw [if_pos (nI_le (by omega) (by omega)), h3, e]; rfl
    · have hk : k < m.1 7 := by omega
      obtain ⟨e1, e2, e3, e4, -⟩ := h.g8 k hk
      rw [if_neg (nI_ge (by omega) (by omega)), nI_clamp (by omega), e1, e2, e3, e4]
      by_cases c1 : m.2.2.1 10 k = x.2.1
      · have c1' : m.2.2.1 10 k = m.2.1 := c1.trans h.sz.2.2.2.2.2
        rw [if_pos c1]
        by_cases c2 : m.2.2.1 8 k = p
        · have c3 : ¬ m.2.2.1 8 k = q := fun z => hpq (c2.symm.trans z)
          rw [if_pos c2, if_neg c3]
          by_cases c4 : m.2.2.1 9 k = q
          · rw [if_pos c4]
            exact ih _ (by omega) (by omega) (by rw [qR, if_pos c1', if_pos ⟨c2, c4⟩, h3])
          · rw [if_neg c4, if_neg c3]
            exact ih _ (by omega) (by omega) (by rw [qR, if_pos c1', if_neg (fun z => c4 z.2), if_neg (fun z => c3 z.1), h3])
        · rw [if_neg c2]
          by_cases c3 : m.2.2.1 8 k = q
          · rw [if_pos c3]
            by_cases c4 : m.2.2.1 9 k = p
            · rw [if_pos c4]
              exact ih _ (by omega) (by omega) (by rw [qR, if_pos c1', if_neg (fun z => c2 z.1), if_pos ⟨c3, c4⟩, h3])
            · rw [if_neg c4]
              exact ih _ (by omega) (by omega) (by rw [qR, if_pos c1', if_neg (fun z => c2 z.1), if_neg (fun z => c4 z.2), h3])
          · rw [if_neg c3]
            exact ih _ (by omega) (by omega) (by rw [qR, if_pos c1', if_neg (fun z => c2 z.1), if_neg (fun z => c3 z.1), h3])
      · have c1' : ¬ m.2.2.1 10 k = m.2.1 := fun z => c1 (z.trans h.sz.2.2.2.2.2.symm)
        rw [if_neg c1]
        exact ih _ (by omega) (by omega) (by rw [qR, if_neg c1', h3])
theorem RR.gpaid (h : RR n m x) (p q : Int32) (hpq : ¬ p = q) : f_G_paidFrom x p q x.2.1 = mR m p q := by
  unfold f_G_paidFrom
  exact G_paid_l h p q hpq _ 0 0 (by omega) (by rw [h.sz.2.2.2.2.1]; omega) rfl
theorem M_net_l2 (h : RR n m x) (id p q : Int32) (hpq : ¬ p = q) (hp : f_M_pair m id / nI (m.1 0) = p) (hq : f_M_pair m id - f_M_pair m id / nI (m.1 0) * nI (m.1 0) = q) : ∀ (j k : Nat) (v : Int64), k ≤ m.1 7 → m.1 7 < k + j → v = - qR (m.2.2.1 8) (m.2.2.1 9) (m.2.2.1 10) (m.2.2.2 5) p q m.2.1 k → f_M_net_l2 m id j k v = - mR m p q
  | 0, k, v, h1, h2, _ => by omega
  | j + 1, k, v, h1, h2, h3 => by
    obtain ⟨b0, b1, b2, b3, b4, b5, b6, b7, b8, b9, b10, b11, b12⟩ := h.nb
    have ih := M_net_l2 h id p q hpq hp hq j (k + 1)
    rw [f_M_net_l2_s, hq, hp]
    by_cases e : k = m.1 7
    · rw [if_pos (nI_le (by omega) (by omega)), h3, e]; rfl
    · have hk : k < m.1 7 := by omega
      rw [if_neg (nI_ge (by omega) (by omega)), nI_clamp (by omega)]
      have t1 : ∀ y z : Int64, -(y + z) = -y - z := fun y z => by rw [Int64.neg_add, Int64.sub_eq_add_neg]
      have t2 : ∀ y z : Int64, -(y - z) = -y + z := fun y z => by simp [Int64.sub_eq_add_neg, Int64.neg_add]
      by_cases c1' : m.2.2.1 10 k = m.2.1
      · rw [if_pos c1']
        by_cases c2 : m.2.2.1 8 k = p
        · have c3 : ¬ m.2.2.1 8 k = q := fun z => hpq (c2.symm.trans z)
          rw [if_pos c2, if_neg c3]
          by_cases c4 : m.2.2.1 9 k = q
          · have c5 : ¬ m.2.2.1 9 k = p := fun z => hpq (z.symm.trans c4)
            rw [if_pos c4, if_neg c5]
            exact ih _ (by omega) (by omega) (by rw [qR, if_pos c1', if_pos ⟨c2, c4⟩, h3, t1])
          · rw [if_neg c4]
            have w : v = - qR (m.2.2.1 8) (m.2.2.1 9) (m.2.2.1 10) (m.2.2.2 5) p q m.2.1 (k + 1) := by rw [qR, if_pos c1', if_neg (fun z => c4 z.2), if_neg (fun z => c3 z.1), h3]
            by_cases c5 : m.2.2.1 9 k = p
            · rw [if_pos c5, if_neg c3]
              exact ih _ (by omega) (by omega) w
            · rw [if_neg c5]
              exact ih _ (by omega) (by omega) w
        · rw [if_neg c2]
          by_cases c4 : m.2.2.1 9 k = p
          · rw [if_pos c4]
            by_cases c3 : m.2.2.1 8 k = q
            · rw [if_pos c3]
              exact ih _ (by omega) (by omega) (by rw [qR, if_pos c1', if_neg (fun z => c2 z.1), if_pos ⟨c3, c4⟩, h3, t2])
            · rw [if_neg c3]
              exact ih _ (by omega) (by omega) (by rw [qR, if_pos c1', if_neg (fun z => c2 z.1), if_neg (fun z => c3 z.1), h3])
          · rw [if_neg c4]
            exact ih _ (by omega) (by omega) (by rw [qR, if_pos c1', if_neg (fun z => c2 z.1), if_neg (fun z => c4 z.2), h3])
      · rw [if_neg c1']
        exact ih _ (by omega) (by omega) (by rw [qR, if_neg c1', h3])
/-! the numbers of positions and rooms -/
theorem RR.isA (h : RR n m x) (ha : a < 2 ^ 31) : xIs x (nI a) ↔ a < m.1 2 := by
  unfold xIs
  rw [h.sz.2.2.1]
  exact ⟨fun z => Nat.lt_of_not_le (fun y => z.2 (nI_le y ha)), fun z => ⟨nI_pos ha, nI_ge z (by obtain ⟨b0, b1, b2, b3, b4, -⟩ := h.nb; omega)⟩⟩
theorem q_dm {A : Nat} (ha : a < A) : (p * A + a) / A = p ∧ (p * A + a) % A = a := by
  refine ⟨by rw [Nat.mul_comm, Nat.mul_add_div (by omega), Nat.div_eq_of_lt ha]; rfl, by rw [Nat.mul_add_mod', Nat.mod_eq_of_lt ha]⟩
theorem RR.pos (h : RR n m x) (hp : p < m.1 0) (ha : a < m.1 1) : f_X_isPosition x (nI (p * m.1 1 + a)) = 1 ∧ f_X_ownerOf x (nI (p * m.1 1 + a)) = nI p ∧ f_X_assetOf x (nI (p * m.1 1 + a)) = nI a ∧ nI (p * m.1 1 + a) / nI (m.1 1) = nI p ∧ nI (p * m.1 1 + a) - nI (p * m.1 1 + a) / nI (m.1 1) * nI (m.1 1) = nI a ∧ nI (p * m.1 1 + a) < nI (m.1 0) * nI (m.1 1) ∧ ¬ nI (m.1 0) * nI (m.1 1) ≤ nI (p * m.1 1 + a) ∧ ¬ nI (p * m.1 1 + a) < 0 := by
  obtain ⟨b0, b1, b2, b3, b4, b5, b6, b7, b8, b9, b10, b11, b12⟩ := h.nb
  have hPA : m.1 0 * m.1 1 ≤ 256 * 64 := Nat.mul_le_mul b1 b3
  have k1 := q_keylt hp ha
  obtain ⟨d1, d2⟩ := q_dm (p := p) ha
  have e1 : nI (p * m.1 1 + a) / nI (m.1 1) = nI p := by rw [pk_div (by omega) (by omega) (by omega), d1]
  have e2 : nI (p * m.1 1 + a) - nI (p * m.1 1 + a) / nI (m.1 1) * nI (m.1 1) = nI a := by rw [pk_rem (by omega) (by omega) (by omega), d2]
  have e3 : ¬ nI (p * m.1 1 + a) < 0 := nI_pos (by omega)
  have e4 : ¬ nI (m.1 0 * m.1 1) ≤ nI (p * m.1 1 + a) := nI_ge k1 (by omega)
  rw [nI_mul]
  refine ⟨?_, ?_, ?_, e1, e2, nI_lt k1 (by omega), e4, e3⟩
  · rw [f_X_isPosition, if_neg e3, h.sz.1, h.sz.2.1, if_neg e4]
  · rw [f_X_ownerOf, h.sz.2.1, e1]
  · rw [f_X_assetOf, h.sz.2.1, e2]
theorem RR.there (h : RR n m x) (hp : p < m.1 0) (ha : a < m.1 1) : f_X_isThere x (nI (p * m.1 1 + a)) = (if a < m.1 2 then 1 else 0) ∧ f_M_isThere m (nI (p * m.1 1 + a)) = (if a < m.1 2 then 1 else 0) := by
  obtain ⟨b0, b1, b2, b3, b4, b5, b6, b7, b8, b9, b10, b11, b12⟩ := h.nb
  obtain ⟨e1, e2, e3, e4, e5, e6, e7, e8⟩ := h.pos hp ha
  refine ⟨?_, ?_⟩
  · rw [f_X_isThere, e1, if_neg (by decide : ¬ (1 : Int32) = 0), e3]
    by_cases c : a < m.1 2
    · rw [if_pos c, if_pos ((h.isA (by omega)).mpr c)]
    · rw [if_neg c, if_neg (fun z => c ((h.isA (by omega)).mp z))]
  · have hr : f_M_isRoom m (nI (p * m.1 1 + a)) = 0 := by rw [f_M_isRoom, if_pos e6]
    rw [f_M_isThere, hr, if_pos rfl, if_neg e8, if_neg e7, e5]
    by_cases c : a < m.1 2
    · rw [if_pos c, if_neg (nI_ge c (by omega))]
    · rw [if_neg c, if_pos (nI_le (by omega) (by omega))]
theorem RR.rpos (h : RR n m x) (hp : p < m.1 0) (hq : q < m.1 0) : f_X_isPosition x (nI (m.1 0 * m.1 1 + (p * m.1 0 + q))) = 0 ∧ ¬ nI (m.1 0 * m.1 1 + (p * m.1 0 + q)) < nI (m.1 0 * m.1 1) ∧ nI (m.1 0 * m.1 1 + (p * m.1 0 + q)) - nI (m.1 0 * m.1 1) = nI (p * m.1 0 + q) ∧ f_M_pair m (nI (m.1 0 * m.1 1 + (p * m.1 0 + q))) = nI (p * m.1 0 + q) ∧ nI (p * m.1 0 + q) / nI (m.1 0) = nI p ∧ nI (p * m.1 0 + q) - nI (p * m.1 0 + q) / nI (m.1 0) * nI (m.1 0) = nI q ∧ nI (m.1 0 * m.1 1) ≤ nI (m.1 0 * m.1 1 + (p * m.1 0 + q)) ∧ ¬ nI (m.1 0) * nI (m.1 1) + nI (m.1 0) * nI (m.1 0) ≤ nI (m.1 0 * m.1 1 + (p * m.1 0 + q)) ∧ ¬ nI (m.1 0 * m.1 1 + (p * m.1 0 + q)) < 0 := by
  obtain ⟨b0, b1, b2, b3, b4, b5, b6, b7, b8, b9, b10, b11, b12⟩ := h.nb
  have hPA : m.1 0 * m.1 1 ≤ 256 * 64 := Nat.mul_le_mul b1 b3
  have hPP : m.1 0 * m.1 0 ≤ 256 * 256 := Nat.mul_le_mul b1 b1
  have k1 := q_keylt hp hq
  obtain ⟨d1, d2⟩ := q_dm (p := p) hq
  have e1 : nI (p * m.1 0 + q) / nI (m.1 0) = nI p := by rw [pk_div (by omega) (by omega) (by omega), d1]
  have e2 : nI (p * m.1 0 + q) - nI (p * m.1 0 + q) / nI (m.1 0) * nI (m.1 0) = nI q := by rw [pk_rem (by omega) (by omega) (by omega), d2]
  have e3 : nI (m.1 0 * m.1 1 + (p * m.1 0 + q)) - nI (m.1 0 * m.1 1) = nI (p * m.1 0 + q) := by rw [nI_subI (by omega), Nat.add_sub_cancel_left]
  have e4 : nI (m.1 0 * m.1 1) ≤ nI (m.1 0 * m.1 1 + (p * m.1 0 + q)) := nI_le (by omega) (by omega)
  have e5 : ¬ nI (m.1 0 * m.1 1 + (p * m.1 0 + q)) < 0 := nI_pos (by omega)
  rw [f_M_pair, nI_mul, nI_mul, nI_add]
  refine ⟨?_, nI_nlt (by omega) (by omega), e3, e3, e1, e2, e4, nI_ge (by omega) (by omega), e5⟩
  rw [f_X_isPosition, if_neg e5, h.sz.1, h.sz.2.1, if_pos e4]
theorem RR.thereR (h : RR n m x) (hp : p < m.1 0) (hq : q < m.1 0) : f_X_isThere x (nI (m.1 0 * m.1 1 + (p * m.1 0 + q))) = (if f_M_limitAt m (nI p) (nI q) = -1 then 0 else 1) ∧ f_M_isThere m (nI (m.1 0 * m.1 1 + (p * m.1 0 + q))) = (if f_M_limitAt m (nI p) (nI q) = -1 then 0 else 1) := by
  obtain ⟨b0, b1, b2, b3, b4, b5, b6, b7, b8, b9, b10, b11, b12⟩ := h.nb
  obtain ⟨e1, e2, e3, e4, e5, e6, e7, e8, e9⟩ := h.rpos hp hq
  refine ⟨?_, ?_⟩
  · rw [f_X_isThere, e1, if_pos rfl, h.sz.1, h.sz.2.1, if_neg e2, e3, f_P_has, h.limIdx hp hq]
    by_cases c : f_M_limitAt m (nI p) (nI q) = -1
    · rw [if_pos c, if_pos rfl]
    · rw [if_neg c, if_neg (by decide)]
  · have hr : f_M_isRoom m (nI (m.1 0 * m.1 1 + (p * m.1 0 + q))) = if f_M_limitAt m (nI p) (nI q) < 0 then 0 else 1 := by
      rw [f_M_isRoom, if_neg (by rw [nI_mul]; exact e2), if_neg e8, e4, e6, e5]
    rw [f_M_isThere, hr, if_neg e9, nI_mul, if_pos e7]
    rcases h.limAt hp hq with ⟨e, h2⟩ | ⟨k, hk, e, h2, h3, h4, h5⟩
    · rw [e, if_pos rfl, if_pos (by decide : (-1 : Int32) < 0), if_pos rfl]
    · rw [e, if_neg (nI_m1 (by omega)), if_neg (nI_pos (by omega)), if_neg (by decide)]
theorem RR.ids (h : RR n m x) (id : Int32) : (∃ p a, p < m.1 0 ∧ a < m.1 1 ∧ id = nI (p * m.1 1 + a)) ∨ (∃ p q, p < m.1 0 ∧ q < m.1 0 ∧ id = nI (m.1 0 * m.1 1 + (p * m.1 0 + q))) ∨ (f_X_isThere x id = 0 ∧ f_M_isThere m id = 0 ∧ f_X_isPosition x id = 0) := by
  obtain ⟨b0, b1, b2, b3, b4, b5, b6, b7, b8, b9, b10, b11, b12⟩ := h.nb
  have hPA : m.1 0 * m.1 1 ≤ 256 * 64 := Nat.mul_le_mul b1 b3
  have hPP : m.1 0 * m.1 0 ≤ 256 * 256 := Nat.mul_le_mul b1 b1
  by_cases c1 : id < 0
  · right; right
    have hl : id < nI (m.1 0 * m.1 1) := Int32.lt_of_lt_of_le c1 (nI_pos' (by omega))
    have e1 : f_X_isPosition x id = 0 := by rw [f_X_isPosition, if_pos c1]
    have e2 : f_M_isRoom m id = 0 := by rw [f_M_isRoom, nI_mul, if_pos hl]
    refine ⟨?_, ?_, e1⟩
    · rw [f_X_isThere, e1, if_pos rfl, h.sz.1, h.sz.2.1, if_pos hl]
    · rw [f_M_isThere, e2, if_pos rfl, if_pos c1]
  · obtain ⟨j, hj, rfl⟩ := nI_of c1
    by_cases c2 : j < m.1 0 * m.1 1
    · left
      exact ⟨j / m.1 1, j % m.1 1, Nat.div_lt_of_lt_mul (by rw [Nat.mul_comm]; exact c2), Nat.mod_lt _ (by omega), by rw [Nat.div_add_mod']⟩
    · right
      by_cases c3 : j < m.1 0 * m.1 1 + m.1 0 * m.1 0
      · left
        refine ⟨(j - m.1 0 * m.1 1) / m.1 0, (j - m.1 0 * m.1 1) % m.1 0, Nat.div_lt_of_lt_mul (by omega), Nat.mod_lt _ (by omega), ?_⟩
        rw [Nat.div_add_mod']
        exact congrArg nI (by omega)
      · right
        have hl : nI (m.1 0 * m.1 1) ≤ nI j := nI_le (by omega) hj
        have hl2 : ¬ nI j < nI (m.1 0 * m.1 1) := nI_nlt (by omega) hj
        have e1 : f_X_isPosition x (nI j) = 0 := by rw [f_X_isPosition, if_neg c1, h.sz.1, h.sz.2.1, if_pos hl]
        have e2 : f_M_isRoom m (nI j) = 0 := by rw [f_M_isRoom, nI_mul, if_neg hl2, nI_mul, nI_add, if_pos (nI_le (by omega) hj)]
        refine ⟨?_, ?_, e1⟩
        · rw [f_X_isThere, e1, if_pos rfl, h.sz.1, h.sz.2.1, if_neg hl2, nI_subI (by omega), f_P_has, P_idx_no, if_pos rfl, if_pos rfl]
          · rw [h.sz.2.2.2.1]; omega
          · intro k hk z
            rw [h.sz.2.2.2.1] at hk
            obtain ⟨f1, f2, f3, p, q, hp0, hp, hq0, hq, hpq, g1, g2, g3⟩ := h.g7.1 k hk
            have k1 := q_keylt hp hq
            rw [g3] at z
            have := (nI_eq (by omega) (by omega)).mp z
            omega
        · rw [f_M_isThere, e2, if_pos rfl, if_neg c1, nI_mul, if_pos hl]
theorem st_isThere (h : RR n m x) (id : Int32) : f_X_isThere x id = f_M_isThere m id := by
  rcases h.ids id with ⟨p, a, hp, ha, rfl⟩ | ⟨p, q, hp, hq, rfl⟩ | ⟨e1, e2, -⟩
  · rw [(h.there hp ha).1, (h.there hp ha).2]
  · rw [(h.thereR hp hq).1, (h.thereR hp hq).2]
  · rw [e1, e2]
theorem st_credit (h : RR n m x) (p : Int32) : f_X_credit x p = f_M_credit m p := by
  obtain ⟨b0, b1, b2, b3, b4, b5, b6, b7, b8, b9, b10, b11, b12⟩ := h.nb
  obtain ⟨d1, d2, d3⟩ := h.xc
  rw [f_X_credit, f_M_credit, h.isClient]
  by_cases c : f_M_isParticipant m p = 0
  · rw [if_pos c, if_pos c]
  · obtain ⟨j, h0, hj, rfl⟩ := h.client c
    have hj2 : j < x.1 0 := by rw [h.sz.1]; exact hj
    have ht : cX x j ≤ pS (cX x) (x.1 0) := pS_term h0 hj2
    rw [if_neg c, if_neg c, h.rw.creditOf hj, nI_clamp (by omega), d1 j h0 hj2, Nat.min_eq_left (by omega)]
theorem RR.roomV (h : RR n m x) (hp : p < m.1 0) (hq : q < m.1 0) {k : Nat} (hk : k < m.1 6) (e : f_M_limitAt m (nI p) (nI q) = nI k) : ¬ p = q ∧ f_X_roomOf x (nI (p * m.1 0 + q)) = m.2.2.2 4 k - f_M_netPaid m (nI p) (nI q) ∧ 0 ≤ (m.2.2.2 4 k).toInt ∧ (m.2.2.2 4 k).toInt ≤ 999999999999999 := by
  obtain ⟨b0, b1, b2, b3, b4, b5, b6, b7, b8, b9, b10, b11, b12⟩ := h.nb
  obtain ⟨e1, e2, e3, e4, e5, e6, -⟩ := h.rpos hp hq
  obtain ⟨f1, f2, f3, p', q', hp0, hp', hq0, hq', hpq, g1, g2, g3⟩ := h.g7.1 k hk
  rcases h.limAt hp hq with ⟨z, h2⟩ | ⟨k', hk', z, h2, h3, h4, h5⟩
  · exact absurd (e.symm.trans z) (nI_m1 (by omega))
  · have ek : k = k' := (nI_eq (by omega) (by omega)).mp (e.symm.trans z)
    subst ek
    have y1 : p' = p := (nI_eq (by omega) (by omega)).mp (g1.symm.trans h2)
    have y2 : q' = q := (nI_eq (by omega) (by omega)).mp (g2.symm.trans h3)
    rw [y1, y2] at hpq
    refine ⟨hpq, ?_, f2, f3⟩
    rw [f_X_roomOf, h.sz.1, e6, e5, h.paid hp hq hpq, h.sz.2.2.2.1, P_amt_at (by omega) hk h4 h5, f1]
theorem st_value (h : RR n m x) (id : Int32) : f_X_value x id = f_M_value m id := by
  obtain ⟨b0, b1, b2, b3, b4, b5, b6, b7, b8, b9, b10, b11, b12⟩ := h.nb
  rcases h.ids id with ⟨p, a, hp, ha, rfl⟩ | ⟨p, q, hp, hq, rfl⟩ | ⟨e1, e2, e3⟩
  · obtain ⟨e1, e2, e3, e4, e5, e6, e7, e8⟩ := h.pos hp ha
    rw [f_X_value, f_M_value, (h.there hp ha).2, e1, if_neg (by decide : ¬ (1 : Int32) = 0), e3, if_neg e7, e5, e4, e2]
    by_cases c : a < m.1 2
    · rw [if_pos c, if_pos ((h.isA (by omega)).mpr c), if_neg (by decide : ¬ (1 : Int32) = 0), h.rw.held c hp, nI_clamp (by omega), nI_clamp (by omega)]
    · rw [if_neg c, if_neg (fun z => c ((h.isA (by omega)).mp z)), if_pos rfl]
  · obtain ⟨e1, e2, e3, e4, e5, e6, e7, e8, e9⟩ := h.rpos hp hq
    rw [f_X_value, f_M_value, (h.thereR hp hq).2, (h.thereR hp hq).1, e1, if_pos rfl, nI_mul, if_pos e7, h.sz.1, h.sz.2.1, e3, e4, e6, e5]
    rcases h.limAt hp hq with ⟨e, h2⟩ | ⟨k, hk, e, h2, h3, h4, h5⟩
    · rw [e, if_pos rfl, if_pos rfl, if_pos rfl]
    · rw [e, if_neg (nI_m1 (by omega)), if_neg (by decide), if_neg (by decide), (h.roomV hp hq hk e).2.1, nI_clamp (by omega)]
  · rw [f_X_value, f_M_value, e3, if_pos rfl, e1, if_pos rfl, e2, if_pos rfl]
theorem st_floor (h : RR n m x) (id : Int32) : f_X_floor x id = f_M_floor m id := by
  obtain ⟨b0, b1, b2, b3, b4, b5, b6, b7, b8, b9, b10, b11, b12⟩ := h.nb
  rcases h.ids id with ⟨p, a, hp, ha, rfl⟩ | ⟨p, q, hp, hq, rfl⟩ | ⟨e1, e2, e3⟩
  · obtain ⟨e1, e2, e3, e4, e5, e6, e7, e8⟩ := h.pos hp ha
    rw [f_X_floor, f_M_floor, (h.there hp ha).2, e1, if_neg (by decide : ¬ (1 : Int32) = 0), e3, if_pos e6, e5, e4, e2]
    by_cases c : a < m.1 2
    · rw [if_pos c, if_pos ((h.isA (by omega)).mpr c), if_neg (by decide : ¬ (1 : Int32) = 0), nI_clamp (by omega), (h.lowest c hp).1]
    · rw [if_neg c, if_neg (fun z => c ((h.isA (by omega)).mp z)), if_pos rfl]
  · obtain ⟨e1, e2, e3, e4, e5, e6, e7, e8, e9⟩ := h.rpos hp hq
    rw [f_X_floor, f_M_floor, e1, if_pos rfl, nI_mul, if_neg e2, ite_self]
  · rw [f_X_floor, f_M_floor, e3, if_pos rfl, e2, if_pos rfl]
theorem RR.netA (h : RR n m x) (hp : p < m.1 0) (ha : a < m.1 2) : f_M_net m (nI (p * m.1 1 + a)) = mQ m (nI p) (nI a) := by
  obtain ⟨b0, b1, b2, b3, b4, b5, b6, b7, b8, b9, b10, b11, b12⟩ := h.nb
  obtain ⟨e1, e2, e3, e4, e5, e6, e7, e8⟩ := h.pos hp (show a < m.1 1 by omega)
  rw [f_M_net, (h.there hp (show a < m.1 1 by omega)).2, if_pos ha, if_neg (by decide : ¬ (1 : Int32) = 0), if_pos e6]
  exact M_net_l h _ _ _ e4 e5 _ 0 0 (by omega) (by omega) rfl
theorem RR.netR (h : RR n m x) (hp : p < m.1 0) (hq : q < m.1 0) {k : Nat} (hk : k < m.1 6) (e : f_M_limitAt m (nI p) (nI q) = nI k) : f_M_net m (nI (m.1 0 * m.1 1 + (p * m.1 0 + q))) = - mR m (nI p) (nI q) := by
  obtain ⟨b0, b1, b2, b3, b4, b5, b6, b7, b8, b9, b10, b11, b12⟩ := h.nb
  obtain ⟨e1, e2, e3, e4, e5, e6, e7, e8, e9⟩ := h.rpos hp hq
  rw [f_M_net, (h.thereR hp hq).2, e, if_neg (nI_m1 (by omega)), if_neg (by decide : ¬ (1 : Int32) = 0), nI_mul, if_neg e2]
  exact M_net_l2 h _ _ _ (fun z => (h.roomV hp hq hk e).1 ((nI_eq (by omega) (by omega)).mp z)) (by rw [e4, e5]) (by rw [e4, e6]) _ 0 0 (by omega) (by omega) (by rw [qR]; rfl)
theorem st_net (h : RR n m x) (id : Int32) : f_X_net x id = f_M_net m id := by
  obtain ⟨b0, b1, b2, b3, b4, b5, b6, b7, b8, b9, b10, b11, b12⟩ := h.nb
  rcases h.ids id with ⟨p, a, hp, ha, rfl⟩ | ⟨p, q, hp, hq, rfl⟩ | ⟨e1, e2, e3⟩
  · obtain ⟨e1, e2, e3, e4, e5, e6, e7, e8⟩ := h.pos hp ha
    by_cases c : a < m.1 2
    · rw [h.netA hp c, f_X_net, (h.there hp ha).1, if_pos c, if_neg (by decide : ¬ (1 : Int32) = 0), e1, if_neg (by decide : ¬ (1 : Int32) = 0), e2, e3, h.gnet]
    · rw [f_X_net, f_M_net, (h.there hp ha).1, (h.there hp ha).2, if_neg c, if_pos rfl, if_pos rfl]
  · obtain ⟨e1, e2, e3, e4, e5, e6, e7, e8, e9⟩ := h.rpos hp hq
    rcases h.limAt hp hq with ⟨e, h2⟩ | ⟨k, hk, e, h2, h3, h4, h5⟩
    · rw [f_X_net, f_M_net, (h.thereR hp hq).1, (h.thereR hp hq).2, e, if_pos rfl, if_pos rfl, if_pos rfl]
    · rw [h.netR hp hq hk e, f_X_net, (h.thereR hp hq).1, e, if_neg (nI_m1 (by omega)), if_neg (by decide : ¬ (1 : Int32) = 0), e1, if_pos rfl, h.sz.1, h.sz.2.1, e3, e6, e5, h.gpaid _ _ (fun z => (h.roomV hp hq hk e).1 ((nI_eq (by omega) (by omega)).mp z))]
  · rw [f_X_net, f_M_net, e1, e2, if_pos rfl, if_pos rfl]
end Rd
