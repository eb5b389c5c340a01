/-! the weak relation: assets, held and pledged; and what the two read there -/
def G1 (n : Nat) (s : Nat → Int32) (pr : Nat → Int64) (cut : Nat → Int32) (mo : Int32) (xs : Nat → Int32) (xr : Nat → Int64) : Prop := (∀ a, a < n → xs a = s a ∧ (s a = 0 ∨ (s a = 1 ∧ ∃ e c : Nat, e ≤ 999999999999999 ∧ c ≤ 99 ∧ pr a = lN e ∧ cut a = nI c ∧ xr a = lN (e * (100 - c))))) ∧ (mo = -1 ∨ ∃ k : Nat, k < n ∧ mo = nI k ∧ s k = 0)
def G2 (P A n cnt : Nat) (f : Nat → Int32) (g : Nat → Int64) (h : Nat → Nat → Int64) : Prop := (∀ a p, a < n → p < P → h a p = qS f g (nI (p * A + a)) cnt) ∧ ∀ k, k < cnt → (∃ p a, p < P ∧ a < n ∧ f k = nI (p * A + a)) ∧ -999999999999999 ≤ (g k).toInt ∧ (g k).toInt ≤ 999999999999999
def RW (m : MS) (x : XS) : Prop := MB m ∧ x.1 0 = m.1 0 ∧ x.1 1 = m.1 1 ∧ x.1 2 = m.1 2 ∧ x.2.1 = m.2.1 ∧ G1 (m.1 2) (m.2.2.1 0) (m.2.2.2 0) (m.2.2.1 1) m.2.1 (xS x) (xR x) ∧ G2 (m.1 0) (m.1 1) (m.1 2) (m.1 3) (m.2.2.1 2) (m.2.2.2 1) (xH x) ∧ G2 (m.1 0) (m.1 1) (m.1 2) (m.1 5) (m.2.2.1 5) (m.2.2.2 3) (xP x) ∧ ∀ a p, a < m.1 2 → p < m.1 0 → 0 ≤ (xP x a p).toInt
theorem RW.mb {m : MS} {x : XS} (h : RW m x) : MB m := h.1
theorem RW.s0 {m : MS} {x : XS} (h : RW m x) : x.1 0 = m.1 0 := h.2.1
theorem RW.s1 {m : MS} {x : XS} (h : RW m x) : x.1 1 = m.1 1 := h.2.2.1
theorem RW.s2 {m : MS} {x : XS} (h : RW m x) : x.1 2 = m.1 2 := h.2.2.2.1
theorem RW.mo {m : MS} {x : XS} (h : RW m x) : x.2.1 = m.2.1 := h.2.2.2.2.1
theorem RW.g1 {m : MS} {x : XS} (h : RW m x) : G1 (m.1 2) (m.2.2.1 0) (m.2.2.2 0) (m.2.2.1 1) m.2.1 (xS x) (xR x) := h.2.2.2.2.2.1
theorem RW.g2 {m : MS} {x : XS} (h : RW m x) : G2 (m.1 0) (m.1 1) (m.1 2) (m.1 3) (m.2.2.1 2) (m.2.2.2 1) (xH x) := h.2.2.2.2.2.2.1
theorem RW.g3 {m : MS} {x : XS} (h : RW m x) : G2 (m.1 0) (m.1 1) (m.1 2) (m.1 5) (m.2.2.1 5) (m.2.2.2 3) (xP x) := h.2.2.2.2.2.2.2.1
theorem RW.pos {m : MS} {x : XS} (h : RW m x) : ∀ a p, a < m.1 2 → p < m.1 0 → 0 ≤ (xP x a p).toInt := h.2.2.2.2.2.2.2.2
theorem G2.range {P A n cnt : Nat} {f : Nat → Int32} {g : Nat → Int64} {h : Nat → Nat → Int64} (hG : G2 P A n cnt f g h) {N : Nat} (hc : cnt ≤ N) (hN : N ≤ 1040) {a p : Nat} (ha : a < n) (hp : p < P) : -(N * 999999999999999) ≤ (h a p).toInt ∧ (h a p).toInt ≤ N * 999999999999999 := by
  rw [hG.1 a p ha hp]
  have b : (cnt : Int) * 999999999999999 ≤ N * 999999999999999 := by omega
  obtain ⟨r1, r2⟩ := qS_range (f := f) (g := g) (key := nI (p * A + a)) (B := 999999999999999) (by decide) (n := cnt) (fun k hk => (hG.2 k hk).2) (by omega)
  omega
theorem M_position_l {m : MS} (hB : MB m) (p a : Int32) : ∀ (n k : Nat) (v : Int64), k ≤ m.1 3 → m.1 3 < k + n → v = qS (m.2.2.1 2) (m.2.2.2 1) (p * nI (m.1 1) + a) k → f_M_position_l m p a n k v = qS (m.2.2.1 2) (m.2.2.2 1) (p * nI (m.1 1) + a) (m.1 3)
  | 0, k, v, h1, h2, _ => by omega
  | n + 1, k, v, h1, h2, h3 => by
    obtain ⟨hb0, hb1, hb2, hb3, hb4, hb5, hb6, hb7, hb8, hb9, hb10⟩ := id hB
    rw [f_M_position_l_s]
    by_cases e : k = m.1 3
    · rw [if_pos (nI_le (by omega) (by omega)), h3, e]
    · rw [if_neg (nI_ge (by omega) (by omega)), nI_clamp (by omega)]
      by_cases c : m.2.2.1 2 k = p * nI (m.1 1) + a
      · rw [if_pos c]
        exact M_position_l hB p a n (k + 1) _ (by omega) (by omega) (by rw [qS, if_pos c, h3])
      · rw [if_neg c]
        exact M_position_l hB p a n (k + 1) _ (by omega) (by omega) (by rw [qS, if_neg c, h3])
theorem M_position_eq {m : MS} (hB : MB m) (p a : Int32) : f_M_position m p a = qS (m.2.2.1 2) (m.2.2.2 1) (p * nI (m.1 1) + a) (m.1 3) := M_position_l hB p a _ 0 0 (by omega) (by omega) rfl
theorem M_pledged_l {m : MS} (hB : MB m) (p a : Int32) : ∀ (n k : Nat) (v : Int64), k ≤ m.1 5 → m.1 5 < k + n → v = qS (m.2.2.1 5) (m.2.2.2 3) (p * nI (m.1 1) + a) k → f_M_pledged_l m p a n k v = qS (m.2.2.1 5) (m.2.2.2 3) (p * nI (m.1 1) + a) (m.1 5)
  | 0, k, v, h1, h2, _ => by omega
  | n + 1, k, v, h1, h2, h3 => by
    obtain ⟨hb0, hb1, hb2, hb3, hb4, hb5, hb6, hb7, hb8, hb9, hb10⟩ := id hB
    rw [f_M_pledged_l_s]
    by_cases e : k = m.1 5
    · rw [if_pos (nI_le (by omega) (by omega)), h3, e]
    · rw [if_neg (nI_ge (by omega) (by omega)), nI_clamp (by omega)]
      by_cases c : m.2.2.1 5 k = p * nI (m.1 1) + a
      · rw [if_pos c]
        exact M_pledged_l hB p a n (k + 1) _ (by omega) (by omega) (by rw [qS, if_pos c, h3])
      · rw [if_neg c]
        exact M_pledged_l hB p a n (k + 1) _ (by omega) (by omega) (by rw [qS, if_neg c, h3])
theorem M_pledged_eq {m : MS} (hB : MB m) (p a : Int32) : f_M_pledged m p a = qS (m.2.2.1 5) (m.2.2.2 3) (p * nI (m.1 1) + a) (m.1 5) := M_pledged_l hB p a _ 0 0 (by omega) (by omega) rfl
theorem RW.held {m : MS} {x : XS} (h : RW m x) {a p : Nat} (ha : a < m.1 2) (hp : p < m.1 0) : f_M_position m (nI p) (nI a) = xH x a p := by
  rw [M_position_eq h.mb, nI_mul, nI_add, h.g2.1 a p ha hp]
theorem RW.pled {m : MS} {x : XS} (h : RW m x) {a p : Nat} (ha : a < m.1 2) (hp : p < m.1 0) : f_M_pledged m (nI p) (nI a) = xP x a p := by
  rw [M_pledged_eq h.mb, nI_mul, nI_add, h.g3.1 a p ha hp]
theorem RW.heldR {m : MS} {x : XS} (h : RW m x) {a p : Nat} (ha : a < m.1 2) (hp : p < m.1 0) : -1039999999999998960 ≤ (xH x a p).toInt ∧ (xH x a p).toInt ≤ 1039999999999998960 := by
  have := h.g2.range (N := 1040) (by obtain ⟨hb0, hb1, hb2, hb3, hb4, hb5, hb6, hb7, hb8, hb9, hb10⟩ := h.mb; omega) (by decide) ha hp
  omega
theorem RW.pledR {m : MS} {x : XS} (h : RW m x) {a p : Nat} (ha : a < m.1 2) (hp : p < m.1 0) : 0 ≤ (xP x a p).toInt ∧ (xP x a p).toInt ≤ 519999999999999480 := by
  have := h.g3.range (N := 520) (by obtain ⟨hb0, hb1, hb2, hb3, hb4, hb5, hb6, hb7, hb8, hb9, hb10⟩ := h.mb; omega) (by decide) ha hp
  have := h.pos a p ha hp
  omega
/-- the credit of one, as the given says it -/
def cX (x : XS) (p : Nat) : Nat := cS (xS x) (fun a => q_n (xP x a p)) (fun a => q_n (xR x a)) (x.1 2)
theorem RW.rate {m : MS} {x : XS} (h : RW m x) {a : Nat} (ha : a < m.1 2) (hs : xS x a = 1) : ∃ e c : Nat, e ≤ 999999999999999 ∧ c ≤ 99 ∧ m.2.2.2 0 a = lN e ∧ m.2.2.1 1 a = nI c ∧ xR x a = lN (e * (100 - c)) ∧ q_n (xR x a) = e * (100 - c) ∧ e * (100 - c) ≤ 99999999999999900 := by
  obtain ⟨h1, h2⟩ := h.g1.1 a ha
  rcases h2 with h2 | ⟨h2, e, c, he, hc, h3, h4, h5⟩
  · rw [h1, h2] at hs
    exact absurd hs (by decide)
  · have b : e * (100 - c) ≤ 999999999999999 * 100 := Nat.mul_le_mul he (by omega)
    exact ⟨e, c, he, hc, h3, h4, h5, by rw [h5, q_n_lN (by omega)], by omega⟩
theorem M_creditOf_l {m : MS} {x : XS} (h : RW m x) {p : Nat} (hp : p < m.1 0) : ∀ (n a : Nat) (v : Int64), a ≤ m.1 2 → m.1 2 < a + n → v = lN (min (cS (xS x) (fun a => q_n (xP x a p)) (fun a => q_n (xR x a)) a) 4100000000000000000) → f_M_creditOf_l m (nI p) n a v = lN (min (cX x p) 4100000000000000000)
  | 0, k, v, h1, h2, _ => by omega
  | n + 1, k, v, h1, h2, h3 => by
    obtain ⟨hb0, hb1, hb2, hb3, hb4, hb5, hb6, hb7, hb8, hb9, hb10⟩ := id h.mb
    rw [f_M_creditOf_l_s]
    by_cases e : k = m.1 2
    · rw [if_pos (nI_le (by omega) (by omega)), h3, cX, h.s2, e]
    · rw [if_neg (nI_ge (by omega) (by omega)), nI_clamp (by omega)]
      have hk : k < m.1 2 := by omega
      have M : (4100000000000000000 : Int64) = lN 4100000000000000000 := rfl
      by_cases c : m.2.2.1 0 k = 1
      · have hs : xS x k = 1 := (h.g1.1 k hk).1.trans c
        rw [if_pos c, h.pled hk hp]
        obtain ⟨e1, c1, he, hc, h4, h5, h6, h7, h8⟩ := h.rate hk hs
        obtain ⟨p1, p2⟩ := h.pledR hk hp
        have p3 := q_n_int p1
        have hw : f_M_worth (xP x k p) (m.2.2.2 0 k) (m.2.2.1 1 k) = lN (min (q_n (xP x k p) * q_n (xR x k) / 100) 4100000000000000000) := by
          rw [h7, h4, h5, ← M_worth_eq (by omega) he hc, q_n_back p1]
        rw [hw, h3, lN_add, M]
        have hn : cS (xS x) (fun a => q_n (xP x a p)) (fun a => q_n (xR x a)) (k + 1) = cS (xS x) (fun a => q_n (xP x a p)) (fun a => q_n (xR x a)) k + q_n (xP x k p) * q_n (xR x k) / 100 := by
          rw [cS, if_pos hs]
        generalize cS (xS x) (fun a => q_n (xP x a p)) (fun a => q_n (xR x a)) k = S at *
        generalize q_n (xP x k p) * q_n (xR x k) / 100 = T at *
        by_cases c2 : 4100000000000000000 < min S 4100000000000000000 + min T 4100000000000000000
        · rw [if_pos ((pk_lLT (by decide) (by omega)).mpr c2)]
          exact M_creditOf_l h hp n (k + 1) _ (by omega) (by omega) (by rw [hn]; exact congrArg lN (by omega))
        · rw [if_neg (fun q => c2 ((pk_lLT (by decide) (by omega)).mp q))]
          exact M_creditOf_l h hp n (k + 1) _ (by omega) (by omega) (by rw [hn]; exact congrArg lN (by omega))
      · have hs : ¬ xS x k = 1 := fun q => c ((h.g1.1 k hk).1.symm.trans q)
        rw [if_neg c, h3, M, if_neg (fun q => absurd ((pk_lLT (by decide) (by omega)).mp q) (by omega))]
        exact M_creditOf_l h hp n (k + 1) _ (by omega) (by omega) (by rw [cS, if_neg hs, Nat.add_zero])
theorem RW.creditOf {m : MS} {x : XS} (h : RW m x) {p : Nat} (hp : p < m.1 0) : f_M_creditOf m (nI p) = lN (min (cX x p) 4100000000000000000) := M_creditOf_l h hp _ 0 0 (by omega) (by omega) rfl
theorem M_isOwed_l {m : MS} {x : XS} (h : RW m x) : ∀ (n p : Nat) (v : Int64), 0 < p → p ≤ m.1 0 → m.1 0 < p + n → v = lN (min (pS (cX x) p) 4100000000000000000) → f_M_isOwed_l m n p v = if 4000000000000000000 < pS (cX x) (m.1 0) then 1 else 0
  | 0, k, v, h0, h1, h2, _ => by omega
  | n + 1, k, v, h0, h1, h2, h3 => by
    obtain ⟨hb0, hb1, hb2, hb3, hb4, hb5, hb6, hb7, hb8, hb9, hb10⟩ := id h.mb
    rw [f_M_isOwed_l_s]
    have M : (4100000000000000000 : Int64) = lN 4100000000000000000 := rfl
    have M2 : (4000000000000000000 : Int64) = lN 4000000000000000000 := rfl
    by_cases e : k = m.1 0
    · rw [if_pos (nI_le (by omega) (by omega)), h3, e, M2]
      by_cases c : 4000000000000000000 < pS (cX x) (m.1 0)
      · rw [if_pos c, if_pos ((pk_lLT (by decide) (by omega)).mpr (by omega))]
      · rw [if_neg c, if_neg (fun q => c (Nat.lt_of_lt_of_le ((pk_lLT (by decide) (by omega)).mp q) (Nat.min_le_left _ _)))]
    · rw [if_neg (nI_ge (by omega) (by omega)), h.creditOf (by omega), h3, lN_add, M]
      have hn := pS_succ (cX x) h0
      generalize hS : pS (cX x) k = S at *
      generalize hT : cX x k = T at *
      by_cases c2 : 4100000000000000000 < min S 4100000000000000000 + min T 4100000000000000000
      · rw [if_pos ((pk_lLT (by decide) (by omega)).mpr c2)]
        exact M_isOwed_l h n (k + 1) _ (by omega) (by omega) (by omega) (by rw [hn]; exact congrArg lN (by omega))
      · rw [if_neg (fun q => c2 ((pk_lLT (by decide) (by omega)).mp q))]
        exact M_isOwed_l h n (k + 1) _ (by omega) (by omega) (by omega) (by rw [hn]; exact congrArg lN (by omega))
theorem RW.isOwed {m : MS} {x : XS} (h : RW m x) : f_M_isOwed m = if 4000000000000000000 < pS (cX x) (m.1 0) then 1 else 0 := M_isOwed_l h _ 1 0 (by decide) (by obtain ⟨hb0, hb1, hb2, hb3, hb4, hb5, hb6, hb7, hb8, hb9, hb10⟩ := h.mb; omega) (by omega) rfl
/-- less than the credit's other side: with a cap, and without it -/
theorem l_short {v : Int64} {c C : Nat} (h : -1039999999999998960 ≤ v.toInt) (hC : C < 2 ^ 63) (hC2 : 4000000000000000000 ≤ C) : v < -(lN (min c C)) ↔ v.toInt < -(c : Int) := by
  rw [Int64.lt_iff_toInt_lt, q_neg (by rw [pk_lT (by omega)]; omega), pk_lT (by omega)]
  omega
theorem RW.isShort {m : MS} {x : XS} (h : RW m x) {k p : Nat} (hp : p < m.1 0) (hk : k < m.1 2) (hm : m.2.1 = nI k) : f_M_isShort m (nI p) = if (xH x k p).toInt < -(cX x p : Int) then 1 else 0 := by
  obtain ⟨hb0, hb1, hb2, hb3, hb4, hb5, hb6, hb7, hb8, hb9, hb10⟩ := id h.mb
  have hr := (h.heldR hk hp).1
  rw [f_M_isShort, hm, if_neg (nI_pos (by omega)), h.held hk hp, h.creditOf hp]
  by_cases c : (xH x k p).toInt < -(cX x p : Int)
  · rw [if_pos c, if_pos ((l_short hr (by decide) (by decide)).mpr c)]
  · rw [if_neg c, if_neg (fun q => c ((l_short hr (by decide) (by decide)).mp q))]
theorem M_isShort_none {m : MS} {p : Int32} (hm : m.2.1 = -1) : f_M_isShort m p = 0 := by
  rw [f_M_isShort, hm, if_pos (by decide)]
