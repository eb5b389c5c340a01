/-! limits and payments -/
theorem va_same {α : Type} {f : Nat → α} {k : Nat} {v : α} (h : f k = v) : va_up f k v = f := by
  funext j
  by_cases e : j = k
  · subst e; rw [va_up_self, h]
  · rw [va_up_ne _ _ e]
theorem P_idx_l {cnt : Nat} {f : Nat → Int32} {g : Nat → Int64} {pair : Int32} (hc : cnt < 2 ^ 31) : ∀ (n k : Nat), k ≤ cnt → cnt < k + n → (∀ j, j < k → ¬ f j = pair) → (f_P_indexOf_l cnt f g pair n k = -1 ∧ ∀ j, j < cnt → ¬ f j = pair) ∨ ∃ i, i < cnt ∧ f_P_indexOf_l cnt f g pair n k = nI i ∧ f i = pair ∧ ∀ j, j < i → ¬ f j = pair
  | 0, k, h1, h2, _ => by omega
  | n + 1, k, h1, h2, h3 => by
    rw [f_P_indexOf_l_s]
    by_cases e : k = cnt
    · left
      rw [if_pos (nI_le (by omega) (by omega))]
      exact ⟨rfl, fun j hj => h3 j (by omega)⟩
    · rw [if_neg (nI_ge (by omega) (by omega)), nI_clamp (by omega)]
      by_cases c : f k = pair
      · right
        rw [if_pos c]
        exact ⟨k, by omega, rfl, c, h3⟩
      · rw [if_neg c]
        refine P_idx_l hc n (k + 1) (by omega) (by omega) (fun j hj => ?_)
        by_cases z : j = k
        · rw [z]; exact c
        · exact h3 j (by omega)
theorem P_idx {cnt : Nat} (f : Nat → Int32) (g : Nat → Int64) (pair : Int32) (hc : cnt < 2 ^ 31) : (f_P_indexOf cnt f g pair = -1 ∧ ∀ j, j < cnt → ¬ f j = pair) ∨ ∃ i, i < cnt ∧ f_P_indexOf cnt f g pair = nI i ∧ f i = pair ∧ ∀ j, j < i → ¬ f j = pair := P_idx_l hc _ 0 (by omega) (by omega) (fun j hj => by omega)
theorem nI_m1 {k : Nat} (h : k < 2 ^ 31) : ¬ nI k = -1 := fun z => absurd (z ▸ nI_pos (n := k) h) (fun q => q (by decide))
/-- found at a place, or nowhere -/
theorem P_idx_at {cnt : Nat} {f : Nat → Int32} {g : Nat → Int64} {pair : Int32} {i : Nat} (hc : cnt < 2 ^ 31) (hi : i < cnt) (h : f i = pair) (h2 : ∀ j, j < i → ¬ f j = pair) : f_P_indexOf cnt f g pair = nI i := by
  rcases P_idx f g pair hc with ⟨-, h3⟩ | ⟨k, hk, e, h3, h4⟩
  · exact absurd h (h3 i hi)
  · rcases Nat.lt_trichotomy i k with z | z | z
    · exact absurd h (h4 i z)
    · rw [e, z]
    · exact absurd h3 (h2 k z)
theorem P_idx_no {cnt : Nat} {f : Nat → Int32} {g : Nat → Int64} {pair : Int32} (hc : cnt < 2 ^ 31) (h : ∀ j, j < cnt → ¬ f j = pair) : f_P_indexOf cnt f g pair = -1 := by
  rcases P_idx f g pair hc with ⟨e, -⟩ | ⟨k, hk, e, h3, h4⟩
  · exact e
  · exact absurd h3 (h k hk)
theorem P_amt_at {cnt : Nat} {f : Nat → Int32} {g : Nat → Int64} {pair : Int32} {i : Nat} (hc : cnt < 2 ^ 31) (hi : i < cnt) (h : f i = pair) (h2 : ∀ j, j < i → ¬ f j = pair) : f_P_amountOf cnt f g pair = g i := by
  rw [f_P_amountOf, P_idx_at hc hi h h2, if_neg (nI_m1 (by omega)), nI_clamp (by omega)]
theorem P_amt_no {cnt : Nat} {f : Nat → Int32} {g : Nat → Int64} {pair : Int32} (hc : cnt < 2 ^ 31) (h : ∀ j, j < cnt → ¬ f j = pair) : f_P_amountOf cnt f g pair = 0 := by
  rw [f_P_amountOf, P_idx_no hc h, if_pos rfl]
/-- an amount was put: there it is, and no other has changed -/
theorem P_put {len cnt : Nat} (f : Nat → Int32) (g : Nat → Int64) (pair : Int32) (v : Int64) (hl : len < 2 ^ 31) (hc : cnt < len) : ∃ (cnt' : Nat) (f' : Nat → Int32) (g' : Nat → Int64), g_P_put len cnt f g pair v = (1, (cnt', f', g')) ∧ cnt' ≤ cnt + 1 ∧ ∀ pair', f_P_amountOf cnt' f' g' pair' = if pair' = pair then v else f_P_amountOf cnt f g pair' := by
  unfold g_P_put
  rcases P_idx f g pair (by omega : cnt < 2 ^ 31) with ⟨e, h3⟩ | ⟨k, hk, e, h3, h4⟩
  · rw [if_pos e, if_pos ((nI_ltI (by omega) (by omega)).mpr hc), nI_clamp (by omega)]
    refine ⟨_, _, _, rfl, by omega, fun pair' => ?_⟩
    by_cases z : pair' = pair
    · subst z
      rw [if_pos rfl, P_amt_at (i := cnt) (by omega) (by omega) (va_up_self _ _ _) (fun j hj => by rw [va_up_ne _ _ (by omega)]; exact h3 j hj), va_up_self]
    · rw [if_neg z]
      rcases P_idx f g pair' (by omega : cnt < 2 ^ 31) with ⟨e2, h5⟩ | ⟨k2, hk2, e2, h5, h6⟩
      · rw [P_amt_no (by omega) h5, P_amt_no (by omega) (fun j hj => ?_)]
        by_cases y : j = cnt
        · rw [y, va_up_self]; exact fun w => z w.symm
        · rw [va_up_ne _ _ y]; exact h5 j (by omega)
      · rw [P_amt_at (by omega) hk2 h5 h6, P_amt_at (i := k2) (by omega) (by omega) (by rw [va_up_ne _ _ (by omega)]; exact h5) (fun j hj => by rw [va_up_ne _ _ (by omega)]; exact h6 j hj), va_up_ne _ _ (by omega)]
  · rw [if_neg (by rw [e]; exact nI_m1 (by omega)), e, nI_clamp (by omega), va_same h3]
    refine ⟨_, _, _, rfl, by omega, fun pair' => ?_⟩
    by_cases z : pair' = pair
    · subst z
      rw [if_pos rfl, P_amt_at (by omega) hk h3 h4, va_up_self]
    · rw [if_neg z]
      rcases P_idx f g pair' (by omega : cnt < 2 ^ 31) with ⟨e2, h5⟩ | ⟨k2, hk2, e2, h5, h6⟩
      · rw [P_amt_no (by omega) h5, P_amt_no (by omega) h5]
      · rw [P_amt_at (by omega) hk2 h5 h6, P_amt_at (by omega) hk2 h5 h6, va_up_ne]
        intro y
        rw [y, h3] at h5
        exact z h5.symm
/-! payments -/
theorem M_netPaid_l {m : MS} (hB : MB m) (p q : Int32) : ∀ (n k : Nat) (v : Int64), k ≤ m.1 4 → m.1 4 < k + n → v = qT (m.2.2.1 3) (m.2.2.1 4) (m.2.2.2 2) p q k → f_M_netPaid_l m p q n k v = qT (m.2.2.1 3) (m.2.2.1 4) (m.2.2.2 2) p q (m.1 4)
  | 0, k, v, h1, h2, _ => by omega
  | n + 1, k, v, h1, h2, h3 => by
    obtain ⟨hb0, hb1, hb2, hb3, hb4, hb5, hb6, hb7, hb8, hb9, hb10⟩ := id hB
    rw [f_M_netPaid_l_s]
    by_cases e : k = m.1 4
    · rw [if_pos (nI_le (by omega) (by omega)), h3, e]
    · rw [if_neg (nI_ge (by omega) (by omega)), nI_clamp (by omega)]
      have ih := M_netPaid_l hB p q n (k + 1)
      by_cases c1 : m.2.2.1 3 k = p
      · rw [if_pos c1]
        by_cases c2 : m.2.2.1 4 k = q
        · rw [if_pos c2]
          exact ih _ (by omega) (by omega) (by rw [qT, if_pos ⟨c1, c2⟩, h3])
        · rw [if_neg c2]
          by_cases c3 : m.2.2.1 3 k = q
          · rw [if_pos c3]
            by_cases c4 : m.2.2.1 4 k = p
            · rw [if_pos c4]
              exact ih _ (by omega) (by omega) (by rw [qT, if_neg (fun z => c2 z.2), if_pos ⟨c3, c4⟩, h3])
            · rw [if_neg c4]
              exact ih _ (by omega) (by omega) (by rw [qT, if_neg (fun z => c2 z.2), if_neg (fun z => c4 z.2), h3])
          · rw [if_neg c3]
            exact ih _ (by omega) (by omega) (by rw [qT, if_neg (fun z => c2 z.2), if_neg (fun z => c3 z.1), h3])
      · rw [if_neg c1]
        by_cases c3 : m.2.2.1 3 k = q
        · rw [if_pos c3]
          by_cases c4 : m.2.2.1 4 k = p
          · rw [if_pos c4]
            exact ih _ (by omega) (by omega) (by rw [qT, if_neg (fun z => c1 z.1), if_pos ⟨c3, c4⟩, h3])
          · rw [if_neg c4]
            exact ih _ (by omega) (by omega) (by rw [qT, if_neg (fun z => c1 z.1), if_neg (fun z => c4 z.2), h3])
        · rw [if_neg c3]
          exact ih _ (by omega) (by omega) (by rw [qT, if_neg (fun z => c1 z.1), if_neg (fun z => c3 z.1), h3])
theorem M_netPaid_eq {m : MS} (hB : MB m) (p q : Int32) : f_M_netPaid m p q = qT (m.2.2.1 3) (m.2.2.1 4) (m.2.2.2 2) p q (m.1 4) := M_netPaid_l hB p q _ 0 0 (by omega) (by omega) rfl
section Lim
variable {n : Nat} {m : MS} {x : XS} {p q : Nat}
theorem RR.pair (h : RR n m x) : f_X_pairOf x (nI p) (nI q) = nI (p * m.1 0 + q) := by
  rw [f_X_pairOf, h.sz.1, nI_mul, nI_add]
theorem RR.paid (h : RR n m x) (hp : p < m.1 0) (hq : q < m.1 0) (hpq : ¬ p = q) : f_X_paidFrom x (nI p) (nI q) = f_M_netPaid m (nI p) (nI q) := by
  obtain ⟨b0, b1, b2, b3, b4, b5, b6, b7, b8, b9, b10, b11, b12⟩ := h.nb
  rw [f_X_paidFrom, M_netPaid_eq h.rw.mb, h.pair, h.pair]
  by_cases c : q < p
  · rw [if_pos (nI_le (by omega) (by omega)), h.g6.2.1 q p c hp, ← qT_swap (fun z => hpq ((nI_eq (by omega) (by omega)).mp z).symm)]
  · rw [if_neg (nI_ge (by omega) (by omega)), h.g6.2.1 p q (by omega) hq]
theorem RR.paidR (h : RR n m x) (p q : Int32) : -519999999999999480 ≤ (f_M_netPaid m p q).toInt ∧ (f_M_netPaid m p q).toInt ≤ 519999999999999480 := by
  obtain ⟨b0, b1, b2, b3, b4, b5, b6, b7, b8, b9, b10, b11, b12⟩ := h.nb
  rw [M_netPaid_eq h.rw.mb]
  have b : (m.1 4 : Int) * 999999999999999 ≤ 520 * 999999999999999 := by omega
  obtain ⟨r1, r2⟩ := qT_range (f := m.2.2.1 3) (h := m.2.2.1 4) (g := m.2.2.2 2) (p := p) (q := q) (B := 999999999999999) (by decide) (n := m.1 4) (fun k hk => h.g6.2.2 k hk) (by omega)
  omega
theorem M_limitAt_l {m : MS} (hB : MB m) (p q : Int32) : ∀ (n k : Nat) (at9 : Int32), k ≤ m.1 6 → m.1 6 < k + n → ((at9 = -1 ∧ ∀ j, j < k → ¬ (m.2.2.1 6 j = p ∧ m.2.2.1 7 j = q)) ∨ ∃ j, j < k ∧ at9 = nI j ∧ m.2.2.1 6 j = p ∧ m.2.2.1 7 j = q) → (f_M_limitAt_l m p q n k at9 = -1 ∧ ∀ j, j < m.1 6 → ¬ (m.2.2.1 6 j = p ∧ m.2.2.1 7 j = q)) ∨ ∃ j, j < m.1 6 ∧ f_M_limitAt_l m p q n k at9 = nI j ∧ m.2.2.1 6 j = p ∧ m.2.2.1 7 j = q
  | 0, k, v, h1, h2, _ => by omega
  | n + 1, k, v, h1, h2, h3 => by
    obtain ⟨hb0, hb1, hb2, hb3, hb4, hb5, hb6, hb7, hb8, hb9, hb10⟩ := id hB
    rw [f_M_limitAt_l_s]
    by_cases e : k = m.1 6
    · rw [if_pos (nI_le (by omega) (by omega)), ← e]
      exact h3
    · rw [if_neg (nI_ge (by omega) (by omega)), nI_clamp (by omega)]
      have ih := M_limitAt_l hB p q n (k + 1)
      have no : ¬ (m.2.2.1 6 k = p ∧ m.2.2.1 7 k = q) → ((v = -1 ∧ ∀ j, j < k + 1 → ¬ (m.2.2.1 6 j = p ∧ m.2.2.1 7 j = q)) ∨ ∃ j, j < k + 1 ∧ v = nI j ∧ m.2.2.1 6 j = p ∧ m.2.2.1 7 j = q) := by
        intro hno
        rcases h3 with ⟨y, h4⟩ | ⟨j, hj, y⟩
        · refine Or.inl ⟨y, fun j hj => ?_⟩
          by_cases z : j = k
          · rw [z]; exact hno
          · exact h4 j (by omega)
        · exact Or.inr ⟨j, by omega, y⟩
      by_cases c1 : m.2.2.1 6 k = p
      · rw [if_pos c1]
        by_cases c2 : m.2.2.1 7 k = q
        · rw [if_pos c2]
          exact ih _ (by omega) (by omega) (Or.inr ⟨k, by omega, rfl, c1, c2⟩)
        · rw [if_neg c2]
          exact ih _ (by omega) (by omega) (no (fun z => c2 z.2))
      · rw [if_neg c1]
        exact ih _ (by omega) (by omega) (no (fun z => c1 z.1))
theorem M_limitAt_eq {m : MS} (hB : MB m) (p q : Int32) : (f_M_limitAt m p q = -1 ∧ ∀ j, j < m.1 6 → ¬ (m.2.2.1 6 j = p ∧ m.2.2.1 7 j = q)) ∨ ∃ j, j < m.1 6 ∧ f_M_limitAt m p q = nI j ∧ m.2.2.1 6 j = p ∧ m.2.2.1 7 j = q := M_limitAt_l hB p q _ 0 (-1) (by omega) (by omega) (Or.inl ⟨rfl, fun j hj => by omega⟩)
/-- the limit of a pair: at one place in both, or in neither -/
theorem RR.limAt (h : RR n m x) (hp : p < m.1 0) (hq : q < m.1 0) : (f_M_limitAt m (nI p) (nI q) = -1 ∧ (∀ j, j < m.1 6 → ¬ x.2.2.2.1 0 j = nI (p * m.1 0 + q))) ∨ ∃ k, k < m.1 6 ∧ f_M_limitAt m (nI p) (nI q) = nI k ∧ m.2.2.1 6 k = nI p ∧ m.2.2.1 7 k = nI q ∧ x.2.2.2.1 0 k = nI (p * m.1 0 + q) ∧ ∀ j, j < k → ¬ x.2.2.2.1 0 j = nI (p * m.1 0 + q) := by
  obtain ⟨b0, b1, b2, b3, b4, b5, b6, b7, b8, b9, b10, b11, b12⟩ := h.nb
  have hPP : m.1 0 * m.1 0 ≤ 256 * 256 := Nat.mul_le_mul b1 b1
  have hkey : ∀ j, j < m.1 6 → (x.2.2.2.1 0 j = nI (p * m.1 0 + q) ↔ (m.2.2.1 6 j = nI p ∧ m.2.2.1 7 j = nI q)) := by
    intro j hj
    obtain ⟨e1, e2, e3, p', q', hp0, hp', hq0, hq', hpq, f1, f2, f3⟩ := h.g7.1 j hj
    rw [f1, f2, f3]
    have k1 := q_keylt hp hq
    have k2 := q_keylt hp' hq'
    refine ⟨fun z => ?_, fun z => ?_⟩
    · obtain ⟨y1, y2⟩ := q_key hq' hq ((nI_eq (by omega) (by omega)).mp z)
      rw [y1, y2]
      exact ⟨rfl, rfl⟩
    · rw [(nI_eq (by omega) (by omega)).mp z.1, (nI_eq (by omega) (by omega)).mp z.2]
  rcases M_limitAt_eq h.rw.mb (nI p) (nI q) with ⟨e, h2⟩ | ⟨k, hk, e, h2, h3⟩
  · exact Or.inl ⟨e, fun j hj z => h2 j hj ((hkey j hj).mp z)⟩
  · have hkk := (hkey k hk).mpr ⟨h2, h3⟩
    refine Or.inr ⟨k, hk, e, h2, h3, hkk, fun j hj z => ?_⟩
    have := h.g7.2 j k (by omega) hk (z.trans hkk.symm)
    omega
theorem RR.limIdx (h : RR n m x) (hp : p < m.1 0) (hq : q < m.1 0) : f_P_indexOf (x.1 3) (x.2.2.2.1 0) (x.2.2.2.2.1 1) (nI (p * m.1 0 + q)) = f_M_limitAt m (nI p) (nI q) := by
  obtain ⟨b0, b1, b2, b3, b4, b5, b6, b7, b8, b9, b10, b11, b12⟩ := h.nb
  rw [h.sz.2.2.2.1]
  rcases h.limAt hp hq with ⟨e, h2⟩ | ⟨k, hk, e, h2, h3, h4, h5⟩
  · rw [e, P_idx_no (by omega) h2]
  · rw [e, P_idx_at (by omega) hk h4 h5]
theorem G7.upd {P c : Nat} {lf lt : Nat → Int32} {lv : Nat → Int64} {pairs : Nat → Int32} {am : Nat → Int64} (h : G7 P c lf lt lv pairs am) {k v : Nat} (hv : v ≤ 999999999999999) : G7 P c lf lt (va_up lv k (lN v)) pairs (va_up am k (lN v)) := by
  refine ⟨fun j hj => ?_, h.2⟩
  by_cases e : j = k
  · rw [e, va_up_self, va_up_self, pk_lT (by omega)]
    rw [e] at hj
    exact ⟨rfl, by omega, by omega, (h.1 k hj).2.2.2⟩
  · rw [va_up_ne _ _ e, va_up_ne _ _ e]
    exact h.1 j hj
theorem G7.push {P c : Nat} {lf lt : Nat → Int32} {lv : Nat → Int64} {pairs : Nat → Int32} {am : Nat → Int64} (h : G7 P c lf lt lv pairs am) {p q v : Nat} (hv : v ≤ 999999999999999) (hp0 : 0 < p) (hp : p < P) (hq0 : 0 < q) (hq : q < P) (hpq : ¬ p = q) (hno : ∀ j, j < c → ¬ pairs j = nI (p * P + q)) : G7 P (c + 1) (va_up lf c (nI p)) (va_up lt c (nI q)) (va_up lv c (lN v)) (va_up pairs c (nI (p * P + q))) (va_up am c (lN v)) := by
  refine ⟨fun j hj => ?_, fun i j hi hj z => ?_⟩
  · by_cases e : j = c
    · subst e
      simp only [va_up_self]
      rw [pk_lT (by omega)]
      exact ⟨trivial, by omega, by omega, p, q, hp0, hp, hq0, hq, hpq, rfl, rfl, rfl⟩
    · simp only [va_up_ne _ _ e]
      exact h.1 j (by omega)
  · by_cases ei : i = c
    · by_cases ej : j = c
      · omega
      · rw [ei, va_up_self, va_up_ne _ _ ej] at z
        exact absurd z.symm (hno j (by omega))
    · by_cases ej : j = c
      · rw [ej, va_up_self, va_up_ne _ _ ei] at z
        exact absurd z (hno i (by omega))
      · rw [va_up_ne _ _ ei, va_up_ne _ _ ej] at z
        exact h.2 i j (by omega) (by omega) z
theorem G7.cut {P c : Nat} {lf lt : Nat → Int32} {lv : Nat → Int64} {pairs : Nat → Int32} {am : Nat → Int64} (h : G7 P c lf lt lv pairs am) {k : Nat} (hk : k < c) : G7 P (c - 1) (va_up lf k (lf (c - 1))) (va_up lt k (lt (c - 1))) (va_up lv k (lv (c - 1))) (va_up pairs k (pairs (c - 1))) (va_up am k (am (c - 1))) := by
  refine ⟨fun j hj => ?_, fun i j hi hj z => ?_⟩
  · by_cases e : j = k
    · subst e
      simp only [va_up_self]
      exact h.1 (c - 1) (by omega)
    · simp only [va_up_ne _ _ e]
      exact h.1 j (by omega)
  · by_cases ei : i = k
    · by_cases ej : j = k
      · omega
      · rw [ei, va_up_self, va_up_ne _ _ ej] at z
        have := h.2 _ _ (by omega) (by omega) z
        omega
    · by_cases ej : j = k
      · rw [ej, va_up_self, va_up_ne _ _ ei] at z
        have := h.2 _ _ (by omega) (by omega) z
        omega
      · rw [va_up_ne _ _ ei, va_up_ne _ _ ej] at z
        exact h.2 i j (by omega) (by omega) z
theorem st_limit (h : RR n m x) (hn : n < 512) (p q : Int32) (v : Int64) : (g_X_limit x p q v).1 = (g_M_limit m p q v).1 ∧ RR (n + 1) (g_M_limit m p q v).2 (g_X_limit x p q v).2 := by
  obtain ⟨b0, b1, b2, b3, b4, b5, b6, b7, b8, b9, b10, b11, b12⟩ := h.nb
  obtain ⟨s0, s1, s2, s3, s5, smo⟩ := h.sz
  unfold g_X_limit g_M_limit
  rw [h.two]
  by_cases c1 : f_M_isParticipant m p = 0
  · rw [if_pos c1, if_pos c1, if_pos rfl]
    exact ⟨rfl, h.up⟩
  rw [if_neg c1, if_neg c1]
  by_cases c2 : f_M_isParticipant m q = 0
  · rw [if_pos c2, if_pos c2, if_pos rfl]
    exact ⟨rfl, h.up⟩
  rw [if_neg c2, if_neg c2]
  by_cases c3 : p = q
  · rw [if_pos c3, if_pos c3, if_pos rfl]
    exact ⟨rfl, h.up⟩
  rw [if_neg c3, if_neg c3, if_neg (by decide : ¬ (1 : Int32) = 0)]
  obtain ⟨p, hp0, hp, rfl⟩ := h.client c1
  obtain ⟨q, hq0, hq, rfl⟩ := h.client c2
  have hpq : ¬ p = q := fun z => c3 (by rw [z])
  by_cases c4 : v < 0
  · rw [if_pos c4, if_pos c4]
    exact ⟨rfl, h.up⟩
  rw [if_neg c4, if_neg c4]
  by_cases c5 : 999999999999999 < v
  · rw [if_pos c5, if_pos c5]
    exact ⟨rfl, h.up⟩
  rw [if_neg c5, if_neg c5, h.paid hp hq hpq]
  obtain ⟨w, hw, rfl⟩ := pk_lOf c4
  have hw2 : w ≤ 999999999999999 := by
    rw [show (999999999999999 : Int64) = lN 999999999999999 from rfl, pk_lLT (by decide) hw] at c5
    omega
  obtain ⟨r1, r2⟩ := h.paidR (nI p) (nI q)
  have e2 : (lN w).toInt = w := pk_lT hw
  have e0 : (0 : Int64).toInt = 0 := by decide
  by_cases c6 : lN w < f_M_netPaid m (nI p) (nI q)
  · have c7 : lN w - f_M_netPaid m (nI p) (nI q) < 0 := by
      rw [Int64.lt_iff_toInt_lt, e2] at c6
      rw [Int64.lt_iff_toInt_lt, q_sub (by omega) (by omega), e0, e2]
      omega
    rw [if_pos c6, if_pos c7]
    exact ⟨rfl, h.up⟩
  have c7 : ¬ lN w - f_M_netPaid m (nI p) (nI q) < 0 := by
    rw [Int64.lt_iff_toInt_lt, e2] at c6
    rw [Int64.lt_iff_toInt_lt, q_sub (by omega) (by omega), e0, e2]
    omega
  have hu := h.up
  rw [if_neg c6, if_neg c7, h.pair]
  unfold g_P_put
  rw [h.limIdx hp hq]
  rcases h.limAt hp hq with ⟨e, h2⟩ | ⟨k, hk, e, h2, h3, h4, h5⟩
  · rw [e, if_neg (by decide : ¬ (0 : Int32) ≤ -1), if_pos rfl, s3, show (40 : Int32) = nI 40 from rfl]
    by_cases c8 : m.1 6 = 40
    · rw [c8, if_pos rfl, if_neg (by rw [nI_ltI (by decide) (by decide)]; decide : ¬ nI 40 < nI 40), if_pos rfl]
      refine ⟨rfl, ?_⟩
      exact ⟨hu.nb, ⟨s0, s1, s2, by show 40 = m.1 6; omega, s5, smo⟩, hu.g1, hu.g2, hu.g3, hu.xc, hu.xf, hu.g6, hu.g7, hu.g8⟩
    · have z1 : ¬ nI (m.1 6) = nI 40 := fun z => c8 ((nI_eq (by omega) (by decide)).mp z)
      have z2 : nI (m.1 6) < nI 40 := (nI_ltI (by omega) (by decide)).mpr (by omega)
      rw [if_neg z1, if_pos rfl, if_pos z2, if_neg (by show ¬ (1 : Int32) = 0; decide), nI_clamp (by omega)]
      refine ⟨rfl, ?_⟩
      have hN : NB (n + 1) (va_up m.1 6 (m.1 6 + 1)) := ⟨b0, b1, b2, b3, b4, b5, b6, b7, (by show m.1 6 + 1 ≤ 40; omega), b9, (by show m.1 3 + 2 * m.1 7 ≤ _; omega), (by show m.1 4 + m.1 7 ≤ _; omega), (by show m.1 5 ≤ _; omega)⟩
      exact ⟨hN, ⟨s0, s1, s2, rfl, s5, smo⟩, hu.g1, hu.g2, hu.g3, hu.xc, hu.xf, hu.g6, h.g7.push hw2 hp0 hp hq0 hq hpq h2, hu.g8⟩
  · have z0 : (0 : Int32) ≤ nI k := nI_pos' (by omega)
    have z1 : ¬ nI k = nI (m.1 6) := fun z => by have := (nI_eq (by omega) (by omega)).mp z; omega
    rw [e, if_pos z0, if_neg z1, if_neg (nI_m1 (by omega) : ¬ nI k = -1), if_neg (by show ¬ (1 : Int32) = 0; decide), nI_clamp (by omega), va_same h2, va_same h3, va_same h4]
    refine ⟨rfl, ?_⟩
    exact ⟨hu.nb, ⟨s0, s1, s2, s3, s5, smo⟩, hu.g1, hu.g2, hu.g3, hu.xc, hu.xf, hu.g6, h.g7.upd hw2, hu.g8⟩
theorem st_open (h : RR n m x) (hn : n < 512) (p q : Int32) : (g_X_open x p q).1 = (g_M_open m p q).1 ∧ RR (n + 1) (g_M_open m p q).2 (g_X_open x p q).2 := by
  obtain ⟨b0, b1, b2, b3, b4, b5, b6, b7, b8, b9, b10, b11, b12⟩ := h.nb
  obtain ⟨s0, s1, s2, s3, s5, smo⟩ := h.sz
  have hu := h.up
  unfold g_X_open g_M_open
  have hno : f_X_areTwoClients x p q = 0 → f_M_limitAt m p q = -1 := by
    intro hz
    rcases M_limitAt_eq h.rw.mb p q with ⟨e, -⟩ | ⟨k, hk, e, h2, h3⟩
    · exact e
    · obtain ⟨e1, e2, e3, p', q', hp0, hp', hq0, hq', hpq, f1, f2, f3⟩ := h.g7.1 k hk
      rw [h.two, ← h2, ← h3, f1, f2, h.client1 hp0 hp', h.client1 hq0 hq', if_neg (by decide), if_neg (by decide), if_neg (fun z => hpq ((nI_eq (by omega) (by omega)).mp z))] at hz
      exact absurd hz (by decide)
  by_cases c1 : f_X_areTwoClients x p q = 0
  · rw [if_pos c1, hno c1, if_neg (by decide)]
    exact ⟨rfl, hu⟩
  rw [if_neg c1]
  rw [h.two] at c1
  by_cases d1 : f_M_isParticipant m p = 0
  · rw [if_pos d1] at c1; exact absurd rfl c1
  rw [if_neg d1] at c1
  by_cases d2 : f_M_isParticipant m q = 0
  · rw [if_pos d2] at c1; exact absurd rfl c1
  obtain ⟨p, hp0, hp, rfl⟩ := h.client d1
  obtain ⟨q, hq0, hq, rfl⟩ := h.client d2
  rw [h.pair]
  unfold g_P_remove
  rw [h.limIdx hp hq]
  rcases h.limAt hp hq with ⟨e, h2⟩ | ⟨k, hk, e, h2, h3, h4, h5⟩
  · rw [e, if_neg (by decide : ¬ (0 : Int32) ≤ -1), if_pos rfl, if_pos rfl]
    refine ⟨rfl, ?_⟩
    exact ⟨hu.nb, ⟨s0, s1, s2, s3, s5, smo⟩, hu.g1, hu.g2, hu.g3, hu.xc, hu.xf, hu.g6, hu.g7, hu.g8⟩
  · have z0 : (0 : Int32) ≤ nI k := nI_pos' (by omega)
    rw [e, if_pos z0, if_neg (nI_m1 (by omega) : ¬ nI k = -1), if_neg (by show ¬ (1 : Int32) = 0; decide), nI_clamp (by omega), s3, nI_clamp (by omega)]
    refine ⟨rfl, ?_⟩
    have hN : NB (n + 1) (va_up m.1 6 (m.1 6 - 1)) := ⟨b0, b1, b2, b3, b4, b5, b6, b7, (by show m.1 6 - 1 ≤ 40; omega), b9, (by show m.1 3 + 2 * m.1 7 ≤ _; omega), (by show m.1 4 + m.1 7 ≤ _; omega), (by show m.1 5 ≤ _; omega)⟩
    exact ⟨hN, ⟨s0, s1, s2, rfl, s5, smo⟩, hu.g1, hu.g2, hu.g3, hu.xc, hu.xf, hu.g6, h.g7.cut hk, hu.g8⟩
end Lim
