section PF
variable {n : Nat} {m : MS} {x : XS}
theorem RR.sort (h : RR n m x) {j : Nat} (hj : j < m.1 2) : xS x j = m.2.2.1 0 j ∧ (m.2.2.1 0 j = 0 ∨ m.2.2.1 0 j = 1) := ⟨(h.g1.1 j hj).1, (h.g1.1 j hj).2.imp_right (fun q => q.1)⟩
theorem st_pledge (h : RR n m x) (hn : n < 512) (p a : Int32) (v : Int64) : (g_X_pledge x p a v).1 = (g_M_pledge m p a v).1 ∧ RR (n + 1) (g_M_pledge m p a v).2 (g_X_pledge x p a v).2 := by
  obtain ⟨b0, b1, b2, b3, b4, b5, b6, b7, b8, b9, b10, b11, b12⟩ := h.nb
  unfold g_X_pledge g_M_pledge
  rw [h.isClient, q_amountX]
  by_cases c1 : f_M_isParticipant m p = 0
  · rw [if_pos c1, if_pos c1, if_pos c1]
    by_cases z : xSec x a
    · rw [if_pos z]; exact ⟨rfl, h.up⟩
    · rw [if_neg z]; exact ⟨rfl, h.up⟩
  rw [if_neg c1, if_neg c1, if_neg c1]
  obtain ⟨p, h0, hp, rfl⟩ := h.client c1
  rcases h.asset a with ⟨ha, hma, i, hi, rfl⟩ | ⟨ha, hma⟩
  · rw [if_neg (by rw [hma]; decide : ¬ f_M_isAsset m (nI i) = 0)]
    obtain ⟨hs1, hs2⟩ := h.sort hi
    unfold xSec
    rw [nI_clamp (by omega), nI_clamp (by omega), hs1]
    by_cases c2 : m.2.2.1 0 i = 0
    · rw [if_pos c2, if_neg (fun q => q.2 c2)]
      exact ⟨rfl, h.up⟩
    · rw [if_neg c2, if_pos ⟨ha, c2⟩]
      have hs : xS x i = 1 := hs1.trans (hs2.resolve_left c2)
      by_cases c3 : f_M_isAmount v = 0
      · rw [if_pos c3, if_pos c3]
        exact ⟨rfl, h.up⟩
      · rw [if_neg c3, if_neg c3, h.rw.held hi hp, h.rw.pled hi hp]
        obtain ⟨w0, hw1, hw2, rfl⟩ := q_amount c3
        obtain ⟨p1, p2⟩ := h.rw.pledR hi hp
        have p3 := q_n_int p1
        have e : lN (q_n (xP x i p) + w0) = xP x i p + lN w0 := by rw [← lN_add, q_n_back p1]
        have e2 : (lN w0).toInt = w0 := pk_lT (by omega)
        rw [← e]
        generalize hW : q_n (xP x i p) + w0 = w at *
        have hw : w ≤ 10 ^ 18 := by omega
        by_cases c4 : (xH x i p).toInt < (w : Int)
        · rw [if_pos (by rw [Int64.lt_iff_toInt_lt, pk_lT (by omega)]; exact c4), h.set9a hi hp hw c4]
          exact ⟨rfl, h.up⟩
        · rw [if_neg (by rw [Int64.lt_iff_toInt_lt, pk_lT (by omega)]; exact c4)]
          have hu := cX_pled (x := x) (i := i) (p := p) (w := w) (by rw [h.sz.2.2.1]; exact hi) hs (by omega)
          have hle : q_n (xP x i p) * q_n (xR x i) / 100 ≤ w * q_n (xR x i) / 100 := Nat.div_le_div_right (Nat.mul_le_mul_right _ (by omega))
          have c5 : ¬ sh x p (cX (xPl2 x i p w) p) := by
            rintro ⟨k, hk, z1, z2⟩
            have := (h.xf k p hk h0 (by rw [h.sz.1]; exact hp)).2 z1
            omega
          have hRW := h.pledW hn hi hp (v := lN w0) (by omega) (by omega) e (by omega)
          rw [hRW.isOwed, show (g_M_pledgeMore m (nI p) (nI i) (lN w0)).1 0 = m.1 0 from rfl]
          by_cases c6 : 4000000000000000000 < pS (cX (xPl2 x i p w)) (m.1 0)
          · rw [if_pos c6, if_neg (by decide), h.set10 hi hs h0 hp hw c4 c5 c6]
            exact ⟨rfl, h.pledNo _⟩
          · rw [if_neg c6, if_pos rfl, h.set0 hi hs h0 hp hw c4 c5 c6]
            exact ⟨rfl, h.pledYes hn hi hs h0 hp (by omega) (by omega) e hw c4 c5 c6⟩
  · rw [if_pos hma, if_neg (fun q => ha q.1)]
    exact ⟨rfl, h.up⟩
theorem st_free (h : RR n m x) (hn : n < 512) (p a : Int32) (v : Int64) : (g_X_free x p a v).1 = (g_M_free m p a v).1 ∧ RR (n + 1) (g_M_free m p a v).2 (g_X_free x p a v).2 := by
  obtain ⟨b0, b1, b2, b3, b4, b5, b6, b7, b8, b9, b10, b11, b12⟩ := h.nb
  unfold g_X_free g_M_free
  rw [h.isClient, q_amountX]
  by_cases c1 : f_M_isParticipant m p = 0
  · rw [if_pos c1, if_pos c1, if_pos c1]
    by_cases z : xSec x a
    · rw [if_pos z]; exact ⟨rfl, h.up⟩
    · rw [if_neg z]; exact ⟨rfl, h.up⟩
  rw [if_neg c1, if_neg c1, if_neg c1]
  obtain ⟨p, h0, hp, rfl⟩ := h.client c1
  rcases h.asset a with ⟨ha, hma, i, hi, rfl⟩ | ⟨ha, hma⟩
  · rw [if_neg (by rw [hma]; decide : ¬ f_M_isAsset m (nI i) = 0)]
    obtain ⟨hs1, hs2⟩ := h.sort hi
    unfold xSec
    rw [nI_clamp (by omega), nI_clamp (by omega), hs1]
    by_cases c2 : m.2.2.1 0 i = 0
    · rw [if_pos c2, if_neg (fun q => q.2 c2)]
      exact ⟨rfl, h.up⟩
    · rw [if_neg c2, if_pos ⟨ha, c2⟩]
      have hs : xS x i = 1 := hs1.trans (hs2.resolve_left c2)
      by_cases c3 : f_M_isAmount v = 0
      · rw [if_pos c3, if_pos c3]
        exact ⟨rfl, h.up⟩
      · rw [if_neg c3, if_neg c3, h.rw.pled hi hp]
        obtain ⟨w0, hw1, hw2, rfl⟩ := q_amount c3
        by_cases c4 : xP x i p < lN w0
        · rw [if_pos c4, if_pos c4]
          exact ⟨rfl, h.up⟩
        · rw [if_neg c4, if_neg c4]
          obtain ⟨p1, p2⟩ := h.rw.pledR hi hp
          have p3 := q_n_int p1
          have e2 : (lN w0).toInt = w0 := pk_lT (by omega)
          rw [Int64.lt_iff_toInt_lt, e2] at c4
          have e0 : lN (q_n (xP x i p) - w0) = xP x i p - lN w0 := by rw [← lN_sub (by omega), q_n_back p1]
          have e : lN (q_n (xP x i p) - w0) = xP x i p + -lN w0 := by rw [e0, Int64.sub_eq_add_neg]
          have e3 : (-lN w0).toInt = -w0 := by rw [q_neg (by omega), e2]
          rw [← e0]
          generalize hW : q_n (xP x i p) - w0 = w at *
          have hw : w ≤ 10 ^ 18 := by omega
          have hfl := (h.xf i p (by rw [h.sz.2.2.1]; exact hi) h0 (by rw [h.sz.1]; exact hp)).1 hs
          have c5 : ¬ (xH x i p).toInt < (w : Int) := by omega
          have hu := cX_pled (x := x) (i := i) (p := p) (w := w) (by rw [h.sz.2.2.1]; exact hi) hs (by omega)
          have hu2 := pS_pled (x := x) (i := i) (w := w) h0 (by rw [h.sz.1]; exact hp)
          have hle : w * q_n (xR x i) / 100 ≤ q_n (xP x i p) * q_n (xR x i) / 100 := Nat.div_le_div_right (Nat.mul_le_mul_right _ (by omega))
          have hall := h.xc.2.2
          have c6 : ¬ 4000000000000000000 < pS (cX (xPl2 x i p w)) (m.1 0) := by
            rw [h.sz.1] at hu2 hall
            omega
          have hRW := h.pledW hn hi hp (v := -lN w0) (by omega) (by omega) e (by omega)
          have hsh := M_short hRW (p := p) hp
          by_cases c7 : f_M_isShort (g_M_pledgeMore m (nI p) (nI i) (-lN w0)) (nI p) = 0
          · have c8 : ¬ sh x p (cX (xPl2 x i p w) p) := hsh.mp c7
            rw [if_pos c7, h.set0 hi hs h0 hp hw c5 c8 c6]
            exact ⟨rfl, h.pledYes hn hi hs h0 hp (by omega) (by omega) e hw c5 c8 c6⟩
          · have c8 : sh x p (cX (xPl2 x i p w) p) := Classical.byContradiction (fun q => c7 (hsh.mpr q))
            rw [if_neg c7, h.set9b hi hs h0 hp hw c5 c8]
            exact ⟨rfl, h.pledNo _⟩
  · rw [if_pos hma, if_neg (fun q => ha q.1)]
    exact ⟨rfl, h.up⟩
end PF
