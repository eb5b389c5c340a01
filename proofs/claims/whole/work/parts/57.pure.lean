/-! price -/
theorem va_back {α : Type} (f : Nat → α) (a : Nat) (v : α) : va_up (va_up f a v) a (f a) = f := by
  funext j
  by_cases e : j = a
  · subst e; rw [va_up_self]
  · rw [va_up_ne _ _ e, va_up_ne _ _ e]
theorem va_twice {α : Type} (f : Nat → α) (a : Nat) (v w : α) : va_up (va_up f a v) a w = va_up f a w := by
  funext j
  by_cases e : j = a
  · subst e; rw [va_up_self, va_up_self]
  · rw [va_up_ne _ _ e, va_up_ne _ _ e, va_up_ne _ _ e]
theorem G1.price {n : Nat} {s : Nat → Int32} {pr : Nat → Int64} {cut : Nat → Int32} {mo : Int32} {xs : Nat → Int32} {xr : Nat → Int64} (h : G1 n s pr cut mo xs xr) {i e c : Nat} (hs : s i = 1) (he : e ≤ 999999999999999) (hc : c ≤ 99) : G1 n s (va_up pr i (lN e)) (va_up cut i (nI c)) mo xs (va_up xr i (lN (e * (100 - c)))) := by
  refine ⟨fun a ha => ⟨(h.1 a ha).1, ?_⟩, h.2⟩
  by_cases ea : a = i
  · subst ea
    right
    rw [va_up_self, va_up_self, va_up_self]
    exact ⟨hs, e, c, he, hc, rfl, rfl, rfl⟩
  · rw [va_up_ne _ _ ea, va_up_ne _ _ ea, va_up_ne _ _ ea]
    exact (h.1 a ha).2
theorem cX_rate {x : XS} {i p r : Nat} (hi : i < x.1 2) (hs : xS x i = 1) (hr : r < 2 ^ 63) : cX (xR1 x i (lN r)) p + q_n (xP x i p) * q_n (xR x i) / 100 = cX x p + q_n (xP x i p) * r / 100 := by
  have hu := cS_upd (s := xS x) (pl := fun a => q_n (xP x a p)) (r := fun a => q_n (xR x a)) (pl' := fun a => q_n (xP x a p)) (r' := fun a => q_n (va_up (xR x) i (lN r) a)) (i := i) hs (n := x.1 2) (fun k hk hne _ => by simp only [va_up_ne _ _ hne]) hi
  simp only [va_up_self, q_n_lN hr] at hu
  exact hu
section Price
variable {n : Nat} {m : MS} {x : XS} {i : Nat} {e c : Nat}
/-- the reference with another price -/
abbrev mPr (m : MS) (i e c : Nat) : MS := mI (mL m 0 (va_up (m.2.2.2 0) i (lN e))) 1 (va_up (m.2.2.1 1) i (nI c))
theorem RR.priceW (h : RR n m x) (hi : i < m.1 2) (hs : xS x i = 1) (he : e ≤ 999999999999999) (hc : c ≤ 99) : RW (mPr m i e c) (xR1 x i (lN (e * (100 - c)))) := by
  have hg := h.g1.price (i := i) (by rw [← (h.sort hi).1]; exact hs) he hc
  exact ⟨mkMB (n := n) (m := mPr m i e c) (x := xR1 x i (lN (e * (100 - c)))) h.nb hg, h.sz.1, h.sz.2.1, h.sz.2.2.1, h.sz.2.2.2.2.2, hg, h.g2, h.g3.1, h.g3.2⟩
theorem RR.cwr (h : RR n m x) (hi : i < m.1 2) (hs : xS x i = 1) (he : e ≤ 999999999999999) (hc : c ≤ 99) {p : Nat} (h0 : 0 < p) (hp : p < m.1 0) {cr : Nat → Int64} (hcr : cr p = x.2.2.2.2.1 0 p) : f_X_creditWith (xL x 0 cr) i (nI p) (xP x i p) (lN (e * (100 - c))) = lN (min (cX (xR1 x i (lN (e * (100 - c)))) p) 4000000000000000001) := by
  obtain ⟨b0, b1, b2, b3, b4, b5, b6, b7, b8, b9, b10, b11, b12⟩ := h.nb
  obtain ⟨s0, s1, s2, s3, s5, smo⟩ := h.sz
  obtain ⟨c1, c2, c3⟩ := h.xc
  obtain ⟨e1, c9, he', hc', h4, h5, h6, h7, h8⟩ := h.rw.rate hi hs
  obtain ⟨p1, p2⟩ := h.rw.pledR hi hp
  have p3 := q_n_int p1
  have bR : e * (100 - c) ≤ 999999999999999 * 100 := Nat.mul_le_mul he (by omega)
  have ht : cX x p ≤ pS (cX x) (x.1 0) := pS_term h0 (by omega)
  have ht2 : q_n (xP x i p) * q_n (xR x i) / 100 ≤ cX x p := cS_term (s := xS x) (pl := fun a => q_n (xP x a p)) (r := fun a => q_n (xR x a)) hs (by omega)
  have hu := cX_rate (x := x) (i := i) (p := p) (r := e * (100 - c)) (by omega) hs (by omega)
  have hr : xR x i = lN (q_n (xR x i)) := by rw [h7, h6]
  have hcw := X_creditWith (x := xL x 0 cr) (i := i) (p := p) (c := cX x p) (po := q_n (xP x i p)) (ro := q_n (xR x i)) (w := q_n (xP x i p)) (r := e * (100 - c)) (by omega) (hcr.trans (c1 p h0 (by omega))) (by omega) (q_n_back p1).symm hr (by omega) (by omega) ht2 (by omega) (by omega)
  rw [q_n_back p1] at hcw
  rw [hcw]
  exact congrArg lN (by omega)
theorem RR.cwr0 (h : RR n m x) (hi : i < m.1 2) (hs : xS x i = 1) (he : e ≤ 999999999999999) (hc : c ≤ 99) {p : Nat} (h0 : 0 < p) (hp : p < m.1 0) : f_X_creditWith x i (nI p) (xP x i p) (lN (e * (100 - c))) = lN (min (cX (xR1 x i (lN (e * (100 - c)))) p) 4000000000000000001) := h.cwr hi hs he hc h0 hp (cr := x.2.2.2.2.1 0) rfl
theorem RR.fault9 (h : RR n m x) (hi : i < m.1 2) (hs : xS x i = 1) (he : e ≤ 999999999999999) (hc : c ≤ 99) : ∀ (k p : Nat) (all : Int64), 0 < p → p ≤ m.1 0 → m.1 0 < p + k → (∃ q, p ≤ q ∧ q < m.1 0 ∧ sh x q (cX (xR1 x i (lN (e * (100 - c)))) q)) → f_X_faultOfRate_l x i (lN (e * (100 - c))) k p all = 9
  | 0, p, all, h0, h1, h2, _ => by omega
  | k + 1, p, all, h0, h1, h2, ⟨q, hq1, hq2, hq3⟩ => by
    obtain ⟨b0, b1, b2, b3, b4, b5, b6, b7, b8, b9, b10, b11, b12⟩ := h.nb
    rw [f_X_faultOfRate_l_s, h.sz.1, if_neg (nI_ge (by omega) (by omega)), nI_clamp (by omega), h.cwr0 hi hs he hc h0 (by omega)]
    by_cases z : f_X_isOverdrawn x (nI p) (lN (min (cX (xR1 x i (lN (e * (100 - c)))) p) 4000000000000000001)) = 0
    · rw [if_pos z]
      have hne : ¬ q = p := by
        intro y
        subst y
        exact (X_over h.rw hq2).mp z hq3
      exact h.fault9 hi hs he hc k (p + 1) _ (by omega) (by omega) (by omega) ⟨q, by omega, hq2, hq3⟩
    · rw [if_neg z]
theorem RR.fault0 (h : RR n m x) (hi : i < m.1 2) (hs : xS x i = 1) (he : e ≤ 999999999999999) (hc : c ≤ 99) (hsh : ∀ q, 0 < q → q < m.1 0 → ¬ sh x q (cX (xR1 x i (lN (e * (100 - c)))) q)) : ∀ (k p : Nat) (all : Int64), 0 < p → p ≤ m.1 0 → m.1 0 < p + k → all = lN (min (pS (cX (xR1 x i (lN (e * (100 - c))))) p) 4000000000000000001) → f_X_faultOfRate_l x i (lN (e * (100 - c))) k p all = if 4000000000000000000 < pS (cX (xR1 x i (lN (e * (100 - c))))) (m.1 0) then 10 else 0
  | 0, p, all, h0, h1, h2, _ => by omega
  | k + 1, p, all, h0, h1, h2, h3 => by
    obtain ⟨b0, b1, b2, b3, b4, b5, b6, b7, b8, b9, b10, b11, b12⟩ := h.nb
    rw [f_X_faultOfRate_l_s, h.sz.1]
    by_cases y : p = m.1 0
    · rw [if_pos (nI_le (by omega) (by omega)), h3, y, show (4000000000000000000 : Int64) = lN 4000000000000000000 from rfl]
      by_cases z : 4000000000000000000 < pS (cX (xR1 x i (lN (e * (100 - c))))) (m.1 0)
      · rw [if_pos z, if_pos ((pk_lLT (by decide) (by omega)).mpr (by omega))]
      · rw [if_neg z, if_neg (fun q => z (Nat.lt_of_lt_of_le ((pk_lLT (by decide) (by omega)).mp q) (Nat.min_le_left _ _)))]
    · rw [if_neg (nI_ge (by omega) (by omega)), nI_clamp (by omega), h.cwr0 hi hs he hc h0 (by omega), if_pos ((X_over h.rw (by omega)).mpr (hsh p h0 (by omega))), h3, lN_add, show (4000000000000000001 : Int64) = lN 4000000000000000001 from rfl, l_cap (by omega) (by decide)]
      have hn := pS_succ (cX (xR1 x i (lN (e * (100 - c))))) h0
      exact h.fault0 hi hs he hc hsh k (p + 1) _ (by omega) (by omega) (by omega) (by rw [hn]; exact congrArg lN (by omega))
theorem RR.setRate (h : RR n m x) (hi : i < m.1 2) (hs : xS x i = 1) (he : e ≤ 999999999999999) (hc : c ≤ 99) (hall : pS (cX (xR1 x i (lN (e * (100 - c))))) (m.1 0) ≤ 4000000000000000000) : ∀ (k p : Nat) (all : Int64) (cr : Nat → Int64), 0 < p → p ≤ m.1 0 → m.1 0 < p + k → all = lN (pS (cX (xR1 x i (lN (e * (100 - c))))) p) → (∀ q, 0 < q → q < p → cr q = lN (cX (xR1 x i (lN (e * (100 - c)))) q)) → (∀ q, p ≤ q → cr q = x.2.2.2.2.1 0 q) → ∃ cr' : Nat → Int64, g_X_setRate_l x i (lN (e * (100 - c))) k p all cr = xA (xR1 (xL x 0 cr') i (lN (e * (100 - c)))) (lN (pS (cX (xR1 x i (lN (e * (100 - c))))) (m.1 0))) ∧ ∀ q, 0 < q → q < m.1 0 → cr' q = lN (cX (xR1 x i (lN (e * (100 - c)))) q)
  | 0, p, all, cr, h0, h1, h2, _, _, _ => by omega
  | k + 1, p, all, cr, h0, h1, h2, h3, h4, h5 => by
    obtain ⟨b0, b1, b2, b3, b4, b5, b6, b7, b8, b9, b10, b11, b12⟩ := h.nb
    rw [g_X_setRate_l_s, h.sz.1]
    by_cases y : p = m.1 0
    · rw [if_pos (nI_le (by omega) (by omega)), h3, y]
      exact ⟨cr, rfl, fun q hq0 hq => h4 q hq0 (by omega)⟩
    · have ht : cX (xR1 x i (lN (e * (100 - c)))) p ≤ pS (cX (xR1 x i (lN (e * (100 - c))))) (m.1 0) := pS_term h0 (by omega)
      rw [if_neg (nI_ge (by omega) (by omega)), nI_clamp (by omega), h.cwr hi hs he hc h0 (by omega) (h5 p (Nat.le_refl _)), va_up_self, h3, lN_add, Nat.min_eq_left (by omega)]
      have hn := pS_succ (cX (xR1 x i (lN (e * (100 - c))))) h0
      refine h.setRate hi hs he hc hall k (p + 1) _ _ (by omega) (by omega) (by omega) (by rw [hn]) (fun q hq0 hq => ?_) (fun q hq => ?_)
      · by_cases z : q = p
        · rw [z, va_up_self]
        · rw [va_up_ne _ _ z]
          exact h4 q hq0 (by omega)
      · rw [va_up_ne _ _ (by omega)]
        exact h5 q (by omega)
/-- the reference with the price as it was -/
abbrev mPrB (m : MS) (i e c : Nat) : MS := mI (mL (mPr m i e c) 0 (va_up (va_up (m.2.2.2 0) i (lN e)) i (m.2.2.2 0 i))) 1 (va_up (va_up (m.2.2.1 1) i (nI c)) i (m.2.2.1 1 i))
abbrev mPrY (m : MS) (i e c : Nat) : MS := mI (mL (mPr m i e c) 0 (va_up (va_up (m.2.2.2 0) i (lN e)) i (lN e))) 1 (va_up (va_up (m.2.2.1 1) i (nI c)) i (nI c))
theorem RR.priceNo (h : RR n m x) : RR (n + 1) (mPrB m i e c) x := by
  unfold mPrB
  rw [va_back, va_back]
  have h2 := h.up
  exact ⟨h2.nb, h2.sz, h2.g1, h2.g2, h2.g3, h2.xc, h2.xf, h2.g6, h2.g7, h2.g8⟩
theorem M_price_9 {m : MS} (hB : MB m) {i : Nat} (hi : i < m.1 2) : ∀ (k p : Nat), 0 < p → p ≤ m.1 0 → m.1 0 < p + k → g_M_price_l m (nI i) (lN e) (nI c) k p 1 = (9, mPrB m i e c)
  | 0, p, h0, h1, h2 => by omega
  | k + 1, p, h0, h1, h2 => by
    obtain ⟨hb0, hb1, hb2, hb3, hb4, hb5, hb6, hb7, hb8, hb9, hb10⟩ := id hB
    rw [g_M_price_l_s]
    by_cases y : p = m.1 0
    · rw [if_pos (nI_le (by omega) (by omega)), if_neg (by decide), nI_clamp (by omega)]
    · rw [if_neg (nI_ge (by omega) (by omega)), if_neg (by decide)]
      exact M_price_9 hB hi k (p + 1) (by omega) (by omega) (by omega)
theorem RR.price9 (h : RR n m x) (hi : i < m.1 2) (hs : xS x i = 1) (he : e ≤ 999999999999999) (hc : c ≤ 99) : ∀ (k p : Nat), 0 < p → p ≤ m.1 0 → m.1 0 < p + k → (∃ q, p ≤ q ∧ q < m.1 0 ∧ sh x q (cX (xR1 x i (lN (e * (100 - c)))) q)) → g_M_price_l m (nI i) (lN e) (nI c) k p 0 = (9, mPrB m i e c)
  | 0, p, h0, h1, h2, _ => by omega
  | k + 1, p, h0, h1, h2, ⟨q, hq1, hq2, hq3⟩ => by
    obtain ⟨b0, b1, b2, b3, b4, b5, b6, b7, b8, b9, b10, b11, b12⟩ := h.nb
    rw [g_M_price_l_s, if_neg (nI_ge (by omega) (by omega)), if_pos rfl, nI_clamp (by omega)]
    have hm := M_short (h.priceW hi hs he hc) (p := p) (show p < m.1 0 by omega)
    by_cases z : f_M_isShort (mPr m i e c) (nI p) = 0
    · rw [if_pos z]
      have hne : ¬ q = p := by
        intro y
        subst y
        exact hm.mp z hq3
      exact h.price9 hi hs he hc k (p + 1) (by omega) (by omega) (by omega) ⟨q, by omega, hq2, hq3⟩
    · rw [if_neg z]
      exact M_price_9 h.rw.mb hi k (p + 1) (by omega) (by omega) (by omega)
theorem RR.price0 (h : RR n m x) (hi : i < m.1 2) (hs : xS x i = 1) (he : e ≤ 999999999999999) (hc : c ≤ 99) (hsh : ∀ q, 0 < q → q < m.1 0 → ¬ sh x q (cX (xR1 x i (lN (e * (100 - c)))) q)) : ∀ (k p : Nat), 0 < p → p ≤ m.1 0 → m.1 0 < p + k → g_M_price_l m (nI i) (lN e) (nI c) k p 0 = if 4000000000000000000 < pS (cX (xR1 x i (lN (e * (100 - c))))) (m.1 0) then (10, mPrB m i e c) else (0, mPrY m i e c)
  | 0, p, h0, h1, h2 => by omega
  | k + 1, p, h0, h1, h2 => by
    obtain ⟨b0, b1, b2, b3, b4, b5, b6, b7, b8, b9, b10, b11, b12⟩ := h.nb
    have hW := h.priceW hi hs he hc
    rw [g_M_price_l_s, nI_clamp (by omega)]
    by_cases y : p = m.1 0
    · rw [if_pos (nI_le (by omega) (by omega)), if_pos rfl, hW.isOwed]
      show (if (if 4000000000000000000 < pS (cX (xR1 x i (lN (e * (100 - c))))) (m.1 0) then (1 : Int32) else 0) = 0 then _ else _) = _
      by_cases z : 4000000000000000000 < pS (cX (xR1 x i (lN (e * (100 - c))))) (m.1 0)
      · rw [if_pos z, if_neg (by decide), if_pos z]
      · rw [if_neg z, if_pos rfl, if_neg z]
    · rw [if_neg (nI_ge (by omega) (by omega)), if_pos rfl, if_pos ((M_short hW (p := p) (show p < m.1 0 by omega)).mpr (hsh p h0 (by omega)))]
      exact h.price0 hi hs he hc hsh k (p + 1) (by omega) (by omega) (by omega)
theorem RR.priceYes (h : RR n m x) (hi : i < m.1 2) (hs : xS x i = 1) (he : e ≤ 999999999999999) (hc : c ≤ 99) (hsh : ∀ q, 0 < q → q < m.1 0 → ¬ sh x q (cX (xR1 x i (lN (e * (100 - c)))) q)) (hall : pS (cX (xR1 x i (lN (e * (100 - c))))) (m.1 0) ≤ 4000000000000000000) {cr : Nat → Int64} (hcr : ∀ q, 0 < q → q < m.1 0 → cr q = lN (cX (xR1 x i (lN (e * (100 - c)))) q)) : RR (n + 1) (mPrY m i e c) (xA (xR1 (xL x 0 cr) i (lN (e * (100 - c)))) (lN (pS (cX (xR1 x i (lN (e * (100 - c))))) (m.1 0)))) := by
  have hW := h.priceW hi hs he hc
  unfold mPrY
  rw [va_twice, va_twice]
  have h2 := h.up
  refine ⟨h2.nb, h2.sz, hW.g1, h2.g2, h2.g3, ⟨?_, ?_, ?_⟩, ?_, h2.g6, h2.g7, h2.g8⟩
  · intro q hq0 hq
    exact hcr q hq0 (by rw [← h.sz.1]; exact hq)
  · show lN (pS (cX (xR1 x i (lN (e * (100 - c))))) (m.1 0)) = lN (pS (cX (xR1 x i (lN (e * (100 - c))))) (x.1 0))
    rw [h.sz.1]
  · show pS (cX (xR1 x i (lN (e * (100 - c))))) (x.1 0) ≤ _
    rw [h.sz.1]
    exact hall
  · intro a q ha hq0 hq
    refine ⟨(h.xf a q ha hq0 hq).1, fun z => ?_⟩
    exact Int.not_lt.mp (fun z2 => hsh q hq0 (by rw [← h.sz.1]; exact hq) ⟨a, ha, z, z2⟩)
theorem st_price (h : RR n m x) (hn : n < 512) (a : Int32) (v : Int64) (cut : Int32) : (g_X_price x a v cut).1 = (g_M_price m a v cut).1 ∧ RR (n + 1) (g_M_price m a v cut).2 (g_X_price x a v cut).2 := by
  obtain ⟨b0, b1, b2, b3, b4, b5, b6, b7, b8, b9, b10, b11, b12⟩ := h.nb
  unfold g_X_price g_M_price
  rw [q_priceX]
  rcases h.asset a with ⟨ha, hma, i, hi, rfl⟩ | ⟨ha, hma⟩
  · rw [if_neg (by rw [hma]; decide : ¬ f_M_isAsset m (nI i) = 0)]
    obtain ⟨hs1, hs2⟩ := h.sort hi
    unfold xSec
    rw [nI_clamp (by omega), hs1]
    by_cases c2 : m.2.2.1 0 i = 0
    · rw [if_pos c2, if_neg (fun q => q.2 c2)]
      exact ⟨rfl, h.up⟩
    · rw [if_neg c2, if_pos ⟨ha, c2⟩]
      have hs : xS x i = 1 := hs1.trans (hs2.resolve_left c2)
      by_cases c3 : f_M_isPrice v cut = 0
      · rw [if_pos c3, if_pos c3]
        exact ⟨rfl, h.up⟩
      · rw [if_neg c3, if_neg c3]
        obtain ⟨e, c, he, hc, rfl, rfl⟩ := q_price c3
        rw [q_rate he hc]
        by_cases c4 : ∃ q, 1 ≤ q ∧ q < m.1 0 ∧ sh x q (cX (xR1 x i (lN (e * (100 - c)))) q)
        · have f9 : f_X_faultOfRate x i (lN (e * (100 - c))) = 9 := h.fault9 hi hs he hc (x.1 0 + 1) 1 0 (by decide) (by omega) (by rw [h.sz.1]; omega) c4
          rw [f9, if_neg (by decide), h.price9 hi hs he hc _ 1 (by decide) (by omega) (by omega) c4]
          exact ⟨rfl, h.priceNo⟩
        · have hsh : ∀ q, 0 < q → q < m.1 0 → ¬ sh x q (cX (xR1 x i (lN (e * (100 - c)))) q) := fun q hq0 hq z => c4 ⟨q, hq0, hq, z⟩
          have f0 : f_X_faultOfRate x i (lN (e * (100 - c))) = _ := h.fault0 hi hs he hc hsh (x.1 0 + 1) 1 0 (by decide) (by omega) (by rw [h.sz.1]; omega) (by rw [pS_one]; rfl)
          rw [f0, h.price0 hi hs he hc hsh _ 1 (by decide) (by omega) (by omega)]
          by_cases c5 : 4000000000000000000 < pS (cX (xR1 x i (lN (e * (100 - c))))) (m.1 0)
          · rw [if_pos c5, if_pos c5, if_neg (by decide)]
            exact ⟨rfl, h.priceNo⟩
          · rw [if_neg c5, if_neg c5, if_pos rfl]
            obtain ⟨cr, hcr1, hcr2⟩ := h.setRate hi hs he hc (by omega) (x.1 0 + 1) 1 0 (x.2.2.2.2.1 0) (by decide) (by omega) (by rw [h.sz.1]; omega) (by rw [pS_one]; rfl) (fun q h1 h2 => by omega) (fun q _ => rfl)
            rw [g_X_setRate, hcr1]
            exact ⟨rfl, h.priceYes hi hs he hc hsh (by omega) hcr2⟩
  · rw [if_pos hma, if_neg (fun q => ha q.1)]
    exact ⟨rfl, h.up⟩
end Price
