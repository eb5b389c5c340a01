/-! give, back, legs, day; new assets -/
section Mv
variable {n : Nat} {m : MS} {x : XS} {i p q : Nat}
theorem move_eq (hN : m.1 3 < 2 ^ 31) (v : Int64) : g_M_move m (nI p) (nI i) v = mN (mL (mI m 2 (va_up (m.2.2.1 2) (m.1 3) (nI (p * m.1 1 + i)))) 1 (va_up (m.2.2.2 1) (m.1 3) v)) 3 (m.1 3 + 1) := by
  rw [g_M_move, nI_clamp hN, nI_mul, nI_add]
/-- both sides of a move -/
abbrev mMv (m : MS) (p q i v : Nat) : MS := g_M_move (g_M_move m (nI p) (nI i) (-lN v)) (nI q) (nI i) (lN v)
theorem mv_eq (hN : m.1 3 < 1040) {v : Nat} : mMv m p q i v = mN (mL (mI (mN (mL (mI m 2 (va_up (m.2.2.1 2) (m.1 3) (nI (p * m.1 1 + i)))) 1 (va_up (m.2.2.2 1) (m.1 3) (-lN v))) 3 (m.1 3 + 1)) 2 (va_up (va_up (m.2.2.1 2) (m.1 3) (nI (p * m.1 1 + i))) (m.1 3 + 1) (nI (q * m.1 1 + i)))) 1 (va_up (va_up (m.2.2.2 1) (m.1 3) (-lN v)) (m.1 3 + 1) (lN v))) 3 (m.1 3 + 1 + 1) := by
  unfold mMv
  rw [move_eq (m := m) (by omega), move_eq (by show m.1 3 + 1 < 2 ^ 31; omega)]
  rfl
theorem mv_g2 (hN : m.1 3 < 1040) (hG : G2 (m.1 0) (m.1 1) (m.1 2) (m.1 3) (m.2.2.1 2) (m.2.2.2 1) (xH x)) (hp : p < m.1 0) (hq : q < m.1 0) (hi : i < m.1 2) (hn : m.1 2 ≤ m.1 1) (hP : m.1 0 ≤ 256) (hA : m.1 1 ≤ 64) {v : Nat} (hv : v ≤ 999999999999999) : G2 ((mMv m p q i v).1 0) ((mMv m p q i v).1 1) ((mMv m p q i v).1 2) ((mMv m p q i v).1 3) ((mMv m p q i v).2.2.1 2) ((mMv m p q i v).2.2.2 1) (xH (g_A_move x i (nI p) (nI q) (lN v))) := by
  have e2 : (lN v).toInt = v := pk_lT (by omega)
  have e3 : (-lN v).toInt = -v := by rw [q_neg (by omega), e2]
  have h1 := hG.push hp hi hn hP hA (v := -lN v) (by omega) (by omega)
  have h2 := h1.push hq hi hn hP hA (v := lN v) (by omega) (by omega)
  rw [mv_eq hN]
  unfold g_A_move
  rw [nI_clamp (by omega), nI_clamp (by omega), Int64.sub_eq_add_neg]
  exact h2
theorem mv_held (hp : p < 256) (hq : q < 256) (hpq : ¬ p = q) (v : Int64) (a r : Nat) : xH (g_A_move x i (nI p) (nI q) v) a r = if a = i ∧ r = p then xH x a r - v else if a = i ∧ r = q then xH x a r + v else xH x a r := by
  unfold g_A_move
  rw [nI_clamp (by omega), nI_clamp (by omega)]
  show va_up (va_up (xH x) i (va_up (xH x i) p (xH x i p - v))) i (va_up (va_up (xH x) i (va_up (xH x i) p (xH x i p - v)) i) q (va_up (xH x) i (va_up (xH x i) p (xH x i p - v)) i q + v)) a r = _
  rw [va_up_self]
  by_cases ea : a = i
  · subst ea
    rw [va_up_self]
    by_cases er : r = p
    · subst er
      rw [if_pos ⟨rfl, rfl⟩, va_up_ne _ _ hpq, va_up_self]
    · rw [if_neg (fun z => er z.2)]
      by_cases eq : r = q
      · subst eq
        rw [if_pos ⟨rfl, rfl⟩, va_up_self, va_up_ne _ _ er]
      · rw [if_neg (fun z => eq z.2), va_up_ne _ _ eq, va_up_ne _ _ er]
  · rw [if_neg (fun z => ea z.1), if_neg (fun z => ea z.1), va_up_ne _ _ ea, va_up_ne _ _ ea]
/-- an amount went from one to another, and no floor broke -/
theorem RR.moved (h : RR n m x) (hn : n < 512) (hp : p < m.1 0) (hq : q < m.1 0) (hpq : ¬ p = q) (hi : i < m.1 2) {v : Nat} (hv : v ≤ 999999999999999) (hfl : 0 < p → (xS x i = 1 → (xP x i p).toInt ≤ (xH x i p).toInt - v) ∧ (x.2.1 = nI i → -(cX x p : Int) ≤ (xH x i p).toInt - v)) : RR (n + 1) (mMv m p q i v) (g_A_move x i (nI p) (nI q) (lN v)) := by
  obtain ⟨b0, b1, b2, b3, b4, b5, b6, b7, b8, b9, b10, b11, b12⟩ := h.nb
  have hg := mv_g2 (x := x) (by omega) h.g2 hp hq hi b4 b1 b3 hv
  have e2 : (lN v).toInt = v := pk_lT (by omega)
  rw [mv_eq (by omega)] at hg ⊢
  have hN : NB (n + 1) (va_up (va_up m.1 3 (m.1 3 + 1)) 3 (m.1 3 + 1 + 1)) := ⟨b0, b1, b2, b3, b4, (by show m.1 3 + 1 + 1 ≤ 1040; omega), b6, b7, b8, b9, (by show m.1 3 + 1 + 1 + 2 * m.1 7 ≤ _; omega), (by show m.1 4 + m.1 7 ≤ _; omega), (by show m.1 5 ≤ _; omega)⟩
  refine ⟨hN, h.sz, h.g1, hg, h.g3, h.xc, ?_, h.g6, h.g7, h.g8⟩
  intro a r ha hr0 hr
  obtain ⟨f1, f2⟩ := h.xf a r ha hr0 hr
  have hrr : r < m.1 0 := by rw [← h.sz.1]; exact hr
  have ha2 : a < m.1 2 := by rw [← h.sz.2.2.1]; exact ha
  obtain ⟨k1, k2⟩ := h.rw.heldR ha2 hrr
  show (xS x a = 1 → (xP x a r).toInt ≤ (xH (g_A_move x i (nI p) (nI q) (lN v)) a r).toInt) ∧ (x.2.1 = nI a → -(cX x r : Int) ≤ (xH (g_A_move x i (nI p) (nI q) (lN v)) a r).toInt)
  rw [mv_held (by omega) (by omega) hpq]
  by_cases c1 : a = i ∧ r = p
  · obtain ⟨rfl, rfl⟩ := c1
    rw [if_pos ⟨rfl, rfl⟩, q_sub (by omega) (by omega), e2]
    exact hfl hr0
  · rw [if_neg c1]
    by_cases c2 : a = i ∧ r = q
    · rw [if_pos c2, q_add (by omega) (by omega), e2]
      exact ⟨fun z => by have := f1 z; omega, fun z => by have := f2 z; omega⟩
    · rw [if_neg c2]
      exact ⟨f1, f2⟩
theorem st_give (h : RR n m x) (hn : n < 512) (p a : Int32) (v : Int64) : (g_X_give x p a v).1 = (g_M_give m p a v).1 ∧ RR (n + 1) (g_M_give m p a v).2 (g_X_give x p a v).2 := by
  obtain ⟨b0, b1, b2, b3, b4, b5, b6, b7, b8, b9, b10, b11, b12⟩ := h.nb
  unfold g_X_give g_M_give
  rw [h.isClient, q_amountX]
  by_cases c1 : f_M_isParticipant m p = 0
  · rw [if_pos c1, if_pos c1, if_pos c1]
    by_cases z : xIs x a
    · rw [if_pos z]; exact ⟨rfl, h.up⟩
    · rw [if_neg z]; exact ⟨rfl, h.up⟩
  rw [if_neg c1, if_neg c1, if_neg c1]
  obtain ⟨p, h0, hp, rfl⟩ := h.client c1
  rcases h.asset a with ⟨ha, hma, i, hi, rfl⟩ | ⟨ha, hma⟩
  · rw [if_neg (by rw [hma]; decide : ¬ f_M_isAsset m (nI i) = 0), if_pos ha]
    by_cases c3 : f_M_isAmount v = 0
    · rw [if_pos c3, if_pos c3]
      exact ⟨rfl, h.up⟩
    · rw [if_neg c3, if_neg c3]
      obtain ⟨w, hw1, hw2, rfl⟩ := q_amount c3
      have e0 : f_M_position m 0 (nI i) = xH x i 0 := by
        have := h.rw.held hi (p := 0) (by omega)
        rwa [nI_0] at this
      rw [e0, nI_clamp (by omega), show (0 : Int32).toNatClampNeg = 0 from rfl]
      by_cases c4 : xH x i 0 - lN w < -4000000000000000000
      · rw [if_pos c4, if_pos c4]
        exact ⟨rfl, h.up⟩
      · rw [if_neg c4, if_neg c4]
        have hm := h.moved hn (p := 0) (q := p) (by omega) hp (by omega) hi hw2 (fun z => by omega)
        unfold mMv at hm
        rw [nI_0] at hm
        exact ⟨rfl, hm⟩
  · rw [if_pos hma, if_neg ha]
    exact ⟨rfl, h.up⟩
theorem RR.lowest (h : RR n m x) (hi : i < m.1 2) (hp : p < m.1 0) : f_X_lowest x i (nI p) = f_M_floorOf m (nI p) (nI i) ∧ (0 < p → (xS x i = 1 → f_X_lowest x i (nI p) = xP x i p) ∧ (x.2.1 = nI i → f_X_lowest x i (nI p) = -lN (cX x p))) := by
  obtain ⟨b0, b1, b2, b3, b4, b5, b6, b7, b8, b9, b10, b11, b12⟩ := h.nb
  obtain ⟨d1, d2, d3⟩ := h.xc
  unfold f_X_lowest f_M_floorOf
  rcases Nat.eq_zero_or_pos p with h0 | h0
  · subst h0
    rw [nI_0, if_pos rfl, if_pos rfl]
    exact ⟨rfl, fun z => by omega⟩
  rw [if_neg (nI_ne0 h0 (by omega)), if_neg (nI_ne0 h0 (by omega)), nI_clamp (by omega), nI_clamp (by omega), h.rw.pled hi hp, h.rw.creditOf hp, d1 p h0 (by rw [h.sz.1]; exact hp)]
  have ht : cX x p ≤ pS (cX x) (x.1 0) := pS_term h0 (by rw [h.sz.1]; exact hp)
  rw [Nat.min_eq_left (by omega)]
  obtain ⟨hs1, hs2⟩ := h.sort hi
  rw [hs1, ← h.sz.2.2.2.2.2]
  rcases hs2 with hs2 | hs2
  · rw [hs2, if_pos rfl, if_neg (by decide : ¬ (0 : Int32) = 1)]
    rcases h.g1.2 with e | ⟨k, hk, e, hk2⟩
    · have e' : x.2.1 = -1 := h.sz.2.2.2.2.2.trans e
      have hne : ¬ nI i = (-1 : Int32) := fun z => absurd (z ▸ nI_pos (n := i) (by omega)) (fun q => q (by decide))
      rw [e', if_neg (fun q => q.1 (by decide)), if_neg hne]
      exact ⟨rfl, fun _ => ⟨fun z => absurd z (by decide), fun z => absurd z.symm hne⟩⟩
    · have e' : x.2.1 = nI k := h.sz.2.2.2.2.2.trans e
      have hx : xIs x (nI k) := ⟨nI_pos (by omega), by rw [h.sz.2.2.1]; exact nI_ge hk (by omega)⟩
      rw [e', if_pos hx, nI_clamp (by omega)]
      by_cases z : i = k
      · rw [if_pos z, if_pos (by rw [z])]
        exact ⟨rfl, fun _ => ⟨fun z => absurd z (by decide), fun _ => rfl⟩⟩
      · have hne : ¬ nI i = nI k := fun y => z ((nI_eq (by omega) (by omega)).mp y)
        rw [if_neg z, if_neg hne]
        exact ⟨rfl, fun _ => ⟨fun z => absurd z (by decide), fun z => absurd z.symm hne⟩⟩
  · rw [hs2, if_neg (by decide : ¬ (1 : Int32) = 0), if_pos rfl]
    refine ⟨rfl, fun _ => ⟨fun _ => rfl, fun z => ?_⟩⟩
    rcases h.g1.2 with e | ⟨k, hk, e, hk2⟩
    · rw [h.sz.2.2.2.2.2, e] at z
      exact absurd (z ▸ nI_pos (n := i) (by omega)) (fun q => q (by decide))
    · rw [h.sz.2.2.2.2.2, e] at z
      rw [(nI_eq (by omega) (by omega)).mp z] at hk2
      exact absurd (hk2.symm.trans hs2) (by decide)
theorem st_back (h : RR n m x) (hn : n < 512) (p a : Int32) (v : Int64) : (g_X_back x p a v).1 = (g_M_back m p a v).1 ∧ RR (n + 1) (g_M_back m p a v).2 (g_X_back x p a v).2 := by
  obtain ⟨b0, b1, b2, b3, b4, b5, b6, b7, b8, b9, b10, b11, b12⟩ := h.nb
  unfold g_X_back g_M_back
  rw [h.isClient, q_amountX]
  by_cases c1 : f_M_isParticipant m p = 0
  · rw [if_pos c1, if_pos c1, if_pos c1]
    by_cases z : xIs x a
    · rw [if_pos z]; exact ⟨rfl, h.up⟩
    · rw [if_neg z]; exact ⟨rfl, h.up⟩
  rw [if_neg c1, if_neg c1, if_neg c1]
  obtain ⟨p, h0, hp, rfl⟩ := h.client c1
  rcases h.asset a with ⟨ha, hma, i, hi, rfl⟩ | ⟨ha, hma⟩
  · rw [if_neg (by rw [hma]; decide : ¬ f_M_isAsset m (nI i) = 0), if_pos ha]
    by_cases c3 : f_M_isAmount v = 0
    · rw [if_pos c3, if_pos c3]
      exact ⟨rfl, h.up⟩
    · rw [if_neg c3, if_neg c3]
      obtain ⟨w, hw1, hw2, rfl⟩ := q_amount c3
      have e2 : (lN w).toInt = w := pk_lT (by omega)
      obtain ⟨l1, l2⟩ := h.lowest hi hp
      obtain ⟨k1, k2⟩ := h.rw.heldR hi hp
      rw [h.rw.held hi hp, nI_clamp (by omega), nI_clamp (by omega), ← l1]
      by_cases c4 : xH x i p - lN w < f_X_lowest x i (nI p)
      · rw [if_pos c4, if_pos c4]
        exact ⟨rfl, h.up⟩
      · rw [if_neg c4, if_neg c4]
        rw [Int64.lt_iff_toInt_lt, q_sub (by omega) (by omega), e2] at c4
        have hm := h.moved hn (p := p) (q := 0) hp (by omega) (by omega) hi hw2 (fun z => by
          refine ⟨fun z1 => ?_, fun z1 => ?_⟩
          · rw [(l2 h0).1 z1] at c4
            omega
          · have ht : cX x p ≤ pS (cX x) (x.1 0) := pS_term h0 (by rw [h.sz.1]; exact hp)
            have hc := h.xc.2.2
            rw [(l2 h0).2 z1, q_neg (by rw [pk_lT (by omega)]; omega), pk_lT (by omega)] at c4
            omega)
        unfold mMv at hm
        rw [nI_0] at hm
        exact ⟨rfl, hm⟩
  · rw [if_pos hma, if_neg ha]
    exact ⟨rfl, h.up⟩
theorem st_drop (h : RR n m x) (hn : n < 512) : (g_X_drop x).1 = (g_M_drop m).1 ∧ RR (n + 1) (g_M_drop m).2 (g_X_drop x).2 := by
  obtain ⟨b0, b1, b2, b3, b4, b5, b6, b7, b8, b9, b10, b11, b12⟩ := h.nb
  obtain ⟨s0, s1, s2, s3, s5, smo⟩ := h.sz
  refine ⟨congrArg nI s5, ?_⟩
  have hN : NB (n + 1) (va_up m.1 7 0) := ⟨b0, b1, b2, b3, b4, b5, b6, b7, b8, Nat.zero_le _, (by show m.1 3 + 2 * 0 ≤ _; omega), (by show m.1 4 + 0 ≤ _; omega), (by show m.1 5 ≤ _; omega)⟩
  exact ⟨hN, ⟨s0, s1, s2, s3, rfl, smo⟩, h.g1, h.g2, h.g3, h.xc, h.xf, h.g6, h.g7, fun k hk => absurd hk (Nat.not_lt_zero k)⟩
theorem st_day (h : RR n m x) (hn : n < 512) : RR (n + 1) (g_M_day m) (g_X_day x) := by
  obtain ⟨b0, b1, b2, b3, b4, b5, b6, b7, b8, b9, b10, b11, b12⟩ := h.nb
  have hN : NB (n + 1) (va_up m.1 4 0) := ⟨b0, b1, b2, b3, b4, b5, Nat.zero_le _, b7, b8, b9, (by show m.1 3 + 2 * m.1 7 ≤ _; omega), (by show 0 + m.1 7 ≤ _; omega), (by show m.1 5 ≤ _; omega)⟩
  refine ⟨hN, h.sz, h.g1, h.g2, h.g3, h.xc, h.xf, ⟨⟨Nat.le_refl _, Nat.zero_le _⟩, fun p q _ _ => ?_, fun k hk => absurd hk (Nat.not_lt_zero k)⟩, h.g7, h.g8⟩
  rfl
theorem RR.two (h : RR n m x) (p q : Int32) : f_X_areTwoClients x p q = if f_M_isParticipant m p = 0 then 0 else if f_M_isParticipant m q = 0 then 0 else if p = q then 0 else 1 := by
  rw [f_X_areTwoClients, h.isClient, h.isClient]
theorem st_leg (h : RR n m x) (hn : n < 512) (p q a : Int32) (v : Int64) : (g_X_leg x p q a v).1 = (g_M_leg m p q a v).1 ∧ RR (n + 1) (g_M_leg m p q a v).2 (g_X_leg x p q a v).2 := by
  obtain ⟨b0, b1, b2, b3, b4, b5, b6, b7, b8, b9, b10, b11, b12⟩ := h.nb
  obtain ⟨s0, s1, s2, s3, s5, smo⟩ := h.sz
  unfold g_X_leg g_M_leg
  rw [h.two, q_amountX]
  by_cases c1 : f_M_isParticipant m p = 0
  · rw [if_pos c1, if_pos c1, if_pos rfl]
    exact ⟨rfl, h.up⟩
  rw [if_neg c1, if_neg c1]
  by_cases c2 : f_M_isParticipant m q = 0
  · rw [if_pos c2, if_pos c2, if_pos rfl]
    exact ⟨rfl, h.up⟩
  rw [if_neg c2, if_neg c2]
  by_cases c3 : p = q
  · rw [if_pos c3, if_pos c3, if_pos rfl]
    exact ⟨rfl, h.up⟩
  rw [if_neg c3, if_neg c3, if_neg (by decide)]
  obtain ⟨p, hp0, hp, rfl⟩ := h.client c1
  obtain ⟨q, hq0, hq, rfl⟩ := h.client c2
  rcases h.asset a with ⟨ha, hma, i, hi, rfl⟩ | ⟨ha, hma⟩
  · rw [if_neg (by rw [hma]; decide : ¬ f_M_isAsset m (nI i) = 0), if_pos ha]
    by_cases c4 : f_M_isAmount v = 0
    · rw [if_pos c4, if_pos c4]
      exact ⟨rfl, h.up⟩
    · rw [if_neg c4, if_neg c4]
      obtain ⟨w, hw1, hw2, rfl⟩ := q_amount c4
      unfold g_G_add
      rw [s5, nI_clamp (by omega), show (4 : Int32) = nI 4 from rfl]
      by_cases c5 : m.1 7 = 4
      · have z1 : nI (m.1 7) = nI 4 := by rw [c5]
        have z2 : ¬ nI (m.1 7) < nI 4 := by rw [nI_ltI (by omega) (by decide)]; omega
        rw [if_neg z2, if_pos z1, if_pos (rfl : ((0 : Int32), x).1 = 0)]
        exact ⟨rfl, h.up⟩
      · rw [if_neg (fun z => c5 ((nI_eq (by omega) (by decide)).mp z)), if_pos ((nI_ltI (by omega) (by decide)).mpr (by omega)), if_neg (by show ¬ (1 : Int32) = 0; decide)]
        refine ⟨rfl, ?_⟩
        have hN : NB (n + 1) (va_up m.1 7 (m.1 7 + 1)) := ⟨b0, b1, b2, b3, b4, b5, b6, b7, b8, (by show m.1 7 + 1 ≤ 4; omega), (by show m.1 3 + 2 * (m.1 7 + 1) ≤ _; omega), (by show m.1 4 + (m.1 7 + 1) ≤ _; omega), (by show m.1 5 ≤ _; omega)⟩
        refine ⟨hN, ⟨s0, s1, s2, s3, rfl, smo⟩, h.g1, h.g2, h.g3, h.xc, h.xf, h.g6, h.g7, ?_⟩
        intro k hk
        show va_up (x.2.2.2.1 2) (m.1 7) (nI p) k = va_up (m.2.2.1 8) (m.1 7) (nI p) k ∧ va_up (x.2.2.2.1 3) (m.1 7) (nI q) k = va_up (m.2.2.1 9) (m.1 7) (nI q) k ∧ va_up (x.2.2.2.1 4) (m.1 7) (nI i) k = va_up (m.2.2.1 10) (m.1 7) (nI i) k ∧ va_up (x.2.2.2.2.1 3) (m.1 7) (lN w) k = va_up (m.2.2.2 5) (m.1 7) (lN w) k ∧ ∃ p' q' a v : Nat, 0 < p' ∧ p' < m.1 0 ∧ 0 < q' ∧ q' < m.1 0 ∧ ¬ p' = q' ∧ a < m.1 2 ∧ 1 ≤ v ∧ v ≤ 999999999999999 ∧ va_up (m.2.2.1 8) (m.1 7) (nI p) k = nI p' ∧ va_up (m.2.2.1 9) (m.1 7) (nI q) k = nI q' ∧ va_up (m.2.2.1 10) (m.1 7) (nI i) k = nI a ∧ va_up (m.2.2.2 5) (m.1 7) (lN w) k = lN v
        have hk' : k < m.1 7 + 1 := hk
        by_cases e : k = m.1 7
        · subst e
          simp only [va_up_self]
          exact ⟨trivial, trivial, trivial, trivial, p, q, i, w, hp0, hp, hq0, hq, fun z => c3 (by rw [z]), hi, hw1, hw2, rfl, rfl, rfl, rfl⟩
        · simp only [va_up_ne _ _ e]
          exact h.g8 k (by omega)
  · rw [if_pos hma, if_neg ha]
    exact ⟨rfl, h.up⟩
end Mv
