/-! the whole relation -/
def G6 (P cm cx : Nat) (pf pt : Nat → Int32) (pb : Nat → Int64) (pairs : Nat → Int32) (am : Nat → Int64) : Prop := (cx ≤ cm ∧ cx ≤ 512) ∧ (∀ p q, p < q → q < P → f_P_amountOf cx pairs am (nI (p * P + q)) = qT pf pt pb (nI p) (nI q) cm) ∧ ∀ k, k < cm → -999999999999999 ≤ (pb k).toInt ∧ (pb k).toInt ≤ 999999999999999
def G7 (P c : Nat) (lf lt : Nat → Int32) (lv : Nat → Int64) (pairs : Nat → Int32) (am : Nat → Int64) : Prop := (∀ k, k < c → am k = lv k ∧ 0 ≤ (lv k).toInt ∧ (lv k).toInt ≤ 999999999999999 ∧ ∃ p q : Nat, 0 < p ∧ p < P ∧ 0 < q ∧ q < P ∧ ¬ p = q ∧ lf k = nI p ∧ lt k = nI q ∧ pairs k = nI (p * P + q)) ∧ ∀ j k, j < c → k < c → pairs j = pairs k → j = k
def G8 (P n c : Nat) (lf lt la : Nat → Int32) (lv : Nat → Int64) (xf xt xa : Nat → Int32) (xv : Nat → Int64) : Prop := ∀ k, k < c → xf k = lf k ∧ xt k = lt k ∧ xa k = la k ∧ xv k = lv k ∧ ∃ p q a v : Nat, 0 < p ∧ p < P ∧ 0 < q ∧ q < P ∧ ¬ p = q ∧ a < n ∧ 1 ≤ v ∧ v ≤ 999999999999999 ∧ lf k = nI p ∧ lt k = nI q ∧ la k = nI a ∧ lv k = lN v
/-- the credits that the given keeps -/
def XC (x : XS) : Prop := (∀ p, 0 < p → p < x.1 0 → x.2.2.2.2.1 0 p = lN (cX x p)) ∧ x.2.2.1 = lN (pS (cX x) (x.1 0)) ∧ pS (cX x) (x.1 0) ≤ 4000000000000000000
/-- no client is below a floor -/
def XF (x : XS) : Prop := ∀ a p, a < x.1 2 → 0 < p → p < x.1 0 → (xS x a = 1 → (xP x a p).toInt ≤ (xH x a p).toInt) ∧ (x.2.1 = nI a → -(cX x p : Int) ≤ (xH x a p).toInt)
def NB (n : Nat) (f : Nat → Nat) : Prop := 2 ≤ f 0 ∧ f 0 ≤ 256 ∧ 1 ≤ f 1 ∧ f 1 ≤ 64 ∧ f 2 ≤ f 1 ∧ f 3 ≤ 1040 ∧ f 4 ≤ 520 ∧ f 5 ≤ 520 ∧ f 6 ≤ 40 ∧ f 7 ≤ 4 ∧ f 3 + 2 * f 7 ≤ 2 * n ∧ f 4 + f 7 ≤ n ∧ f 5 ≤ n
def RS (m : MS) (x : XS) : Prop := x.1 0 = m.1 0 ∧ x.1 1 = m.1 1 ∧ x.1 2 = m.1 2 ∧ x.1 3 = m.1 6 ∧ x.1 5 = m.1 7 ∧ x.2.1 = m.2.1
def RR (n : Nat) (m : MS) (x : XS) : Prop := NB n m.1 ∧ RS m x ∧ G1 (m.1 2) (m.2.2.1 0) (m.2.2.2 0) (m.2.2.1 1) m.2.1 (xS x) (xR x) ∧ G2 (m.1 0) (m.1 1) (m.1 2) (m.1 3) (m.2.2.1 2) (m.2.2.2 1) (xH x) ∧ (G2 (m.1 0) (m.1 1) (m.1 2) (m.1 5) (m.2.2.1 5) (m.2.2.2 3) (xP x) ∧ ∀ a p, a < m.1 2 → p < m.1 0 → 0 ≤ (xP x a p).toInt) ∧ XC x ∧ XF x ∧ G6 (m.1 0) (m.1 4) (x.1 4) (m.2.2.1 3) (m.2.2.1 4) (m.2.2.2 2) (x.2.2.2.1 1) (x.2.2.2.2.1 2) ∧ G7 (m.1 0) (m.1 6) (m.2.2.1 6) (m.2.2.1 7) (m.2.2.2 4) (x.2.2.2.1 0) (x.2.2.2.2.1 1) ∧ G8 (m.1 0) (m.1 2) (m.1 7) (m.2.2.1 8) (m.2.2.1 9) (m.2.2.1 10) (m.2.2.2 5) (x.2.2.2.1 2) (x.2.2.2.1 3) (x.2.2.2.1 4) (x.2.2.2.2.1 3)
section RRp
variable {n : Nat} {m : MS} {x : XS}
theorem RR.nb (h : RR n m x) : NB n m.1 := h.1
theorem RR.sz (h : RR n m x) : RS m x := h.2.1
theorem RR.g1 (h : RR n m x) : G1 (m.1 2) (m.2.2.1 0) (m.2.2.2 0) (m.2.2.1 1) m.2.1 (xS x) (xR x) := h.2.2.1
theorem RR.g2 (h : RR n m x) : G2 (m.1 0) (m.1 1) (m.1 2) (m.1 3) (m.2.2.1 2) (m.2.2.2 1) (xH x) := h.2.2.2.1
theorem RR.g3 (h : RR n m x) : G2 (m.1 0) (m.1 1) (m.1 2) (m.1 5) (m.2.2.1 5) (m.2.2.2 3) (xP x) ∧ ∀ a p, a < m.1 2 → p < m.1 0 → 0 ≤ (xP x a p).toInt := h.2.2.2.2.1
theorem RR.xc (h : RR n m x) : XC x := h.2.2.2.2.2.1
theorem RR.xf (h : RR n m x) : XF x := h.2.2.2.2.2.2.1
theorem RR.g6 (h : RR n m x) : G6 (m.1 0) (m.1 4) (x.1 4) (m.2.2.1 3) (m.2.2.1 4) (m.2.2.2 2) (x.2.2.2.1 1) (x.2.2.2.2.1 2) := h.2.2.2.2.2.2.2.1
theorem RR.g7 (h : RR n m x) : G7 (m.1 0) (m.1 6) (m.2.2.1 6) (m.2.2.1 7) (m.2.2.2 4) (x.2.2.2.1 0) (x.2.2.2.2.1 1) := h.2.2.2.2.2.2.2.2.1
theorem RR.g8 (h : RR n m x) : G8 (m.1 0) (m.1 2) (m.1 7) (m.2.2.1 8) (m.2.2.1 9) (m.2.2.1 10) (m.2.2.2 5) (x.2.2.2.1 2) (x.2.2.2.1 3) (x.2.2.2.1 4) (x.2.2.2.2.1 3) := h.2.2.2.2.2.2.2.2.2
theorem mkMB (hN : NB n m.1) (h1 : G1 (m.1 2) (m.2.2.1 0) (m.2.2.2 0) (m.2.2.1 1) m.2.1 (xS x) (xR x)) : MB m := by
  obtain ⟨b0, b1, b2, b3, b4, b5, b6, b7, b8, b9, b10, b11, b12⟩ := hN
  refine ⟨b0, b1, b2, b3, b4, b5, b6, b7, b8, b9, fun k hk hs => ?_⟩
  rcases (h1.1 k hk).2 with h2 | ⟨h2, e, c, he, hc, h3, h4, h5⟩
  · rw [h2] at hs
    exact absurd hs (by decide)
  · rw [h3, h4]
    refine ⟨?_, ?_, ?_, ?_⟩
    · rw [show (0 : Int64) = lN 0 from rfl, pk_lLE (by decide) (by omega)]; omega
    · rw [show (999999999999999 : Int64) = lN 999999999999999 from rfl, pk_lLE (by omega) (by decide)]; omega
    · rw [show (0 : Int32) = nI 0 from rfl, nI_leI (by decide) (by omega)]; omega
    · rw [show (99 : Int32) = nI 99 from rfl, nI_leI (by omega) (by decide)]; omega
theorem RR.rw (h : RR n m x) : RW m x := ⟨mkMB h.nb h.g1, h.sz.1, h.sz.2.1, h.sz.2.2.1, h.sz.2.2.2.2.2, h.g1, h.g2, h.g3.1, h.g3.2⟩
theorem RR.rb (h : RR n m x) : RB n m x := by
  obtain ⟨b0, b1, b2, b3, b4, b5, b6, b7, b8, b9, b10, b11, b12⟩ := h.nb
  obtain ⟨s0, s1, s2, s3, s5, smo⟩ := h.sz
  refine ⟨h.rw.mb, ?_, b10, b11, b12⟩
  unfold XB
  rw [s0, s1, s2, s3, s5]
  refine ⟨b0, b1, b2, b3, b4, b8, h.g6.1.2, b9, fun k hk => ?_⟩
  obtain ⟨e1, e2, e3, e4, p, q, a, v, hp0, hp, hq0, hq, hpq, ha, hv1, hv2, f1, f2, f3, f4⟩ := h.g8 k hk
  rw [e1, e2, f1, f2]
  exact ⟨vp_in_nI hp (by omega), vp_in_nI hq (by omega)⟩
theorem RR.up (h : RR n m x) : RR (n + 1) m x := by
  refine ⟨?_, h.2⟩
  obtain ⟨b0, b1, b2, b3, b4, b5, b6, b7, b8, b9, b10, b11, b12⟩ := h.nb
  exact ⟨b0, b1, b2, b3, b4, b5, b6, b7, b8, b9, by omega, by omega, by omega⟩
/-- a client's number -/
theorem RR.client (h : RR n m x) {p : Int32} (hc : ¬ f_M_isParticipant m p = 0) : ∃ j : Nat, 0 < j ∧ j < m.1 0 ∧ p = nI j := by
  obtain ⟨b0, b1, b2, b3, b4, b5, b6, b7, b8, b9, b10, b11, b12⟩ := h.nb
  unfold f_M_isParticipant at hc
  by_cases c1 : p ≤ 0
  · rw [if_pos c1] at hc; exact absurd rfl hc
  · rw [if_neg c1] at hc
    by_cases c2 : nI (m.1 0) ≤ p
    · rw [if_pos c2] at hc; exact absurd rfl hc
    · have h0 : ¬ p < 0 := fun q => c1 (Int32.le_of_lt q)
      obtain ⟨j, hj, rfl⟩ := nI_of h0
      refine ⟨j, ?_, Nat.lt_of_not_le (fun q => c2 (nI_le q hj)), rfl⟩
      rcases Nat.eq_zero_or_pos j with e | e
      · subst e; exact absurd (by decide) c1
      · exact e
theorem RR.isClient (h : RR n m x) (p : Int32) : f_X_isClient x p = f_M_isParticipant m p := by
  unfold f_X_isClient f_M_isParticipant
  rw [h.sz.1]
theorem RR.client1 (h : RR n m x) {j : Nat} (h0 : 0 < j) (hj : j < m.1 0) : f_M_isParticipant m (nI j) = 1 := by
  obtain ⟨b0, b1, b2, b3, b4, b5, b6, b7, b8, b9, b10, b11, b12⟩ := h.nb
  unfold f_M_isParticipant
  rw [if_neg (nI_nle h0 (by omega)), if_neg (nI_ge hj (by omega))]
theorem RR.asset (h : RR n m x) (a : Int32) : (xIs x a ∧ f_M_isAsset m a = 1 ∧ ∃ j : Nat, j < m.1 2 ∧ a = nI j) ∨ (¬ xIs x a ∧ f_M_isAsset m a = 0) := by
  obtain ⟨b0, b1, b2, b3, b4, b5, b6, b7, b8, b9, b10, b11, b12⟩ := h.nb
  unfold f_M_isAsset xIs
  rw [h.sz.2.2.1]
  by_cases c1 : a < 0
  · right
    rw [if_pos c1]
    exact ⟨fun q => q.1 c1, rfl⟩
  · rw [if_neg c1]
    by_cases c2 : nI (m.1 2) ≤ a
    · right
      rw [if_pos c2]
      exact ⟨fun q => q.2 c2, rfl⟩
    · left
      rw [if_neg c2]
      obtain ⟨j, hj, rfl⟩ := nI_of c1
      exact ⟨⟨c1, c2⟩, rfl, j, Nat.lt_of_not_le (fun q => c2 (nI_le q hj)), rfl⟩
theorem q_amount {v : Int64} (h : ¬ f_M_isAmount v = 0) : ∃ w : Nat, 1 ≤ w ∧ w ≤ 999999999999999 ∧ v = lN w := by
  unfold f_M_isAmount at h
  by_cases c1 : v < 1
  · rw [if_pos c1] at h; exact absurd rfl h
  · rw [if_neg c1] at h
    by_cases c2 : 999999999999999 < v
    · rw [if_pos c2] at h; exact absurd rfl h
    · rw [Int64.lt_iff_toInt_lt] at c1 c2
      have e1 : (1 : Int64).toInt = 1 := by decide
      have e2 : (999999999999999 : Int64).toInt = 999999999999999 := by decide
      rw [e1] at c1
      rw [e2] at c2
      exact ⟨q_n v, by unfold q_n; omega, by unfold q_n; omega, (q_n_back (by omega)).symm⟩
theorem q_amountX (v : Int64) : f_X_isAmount v = f_M_isAmount v := rfl
theorem q_price {e : Int64} {c : Int32} (h : ¬ f_M_isPrice e c = 0) : ∃ e' c' : Nat, e' ≤ 999999999999999 ∧ c' ≤ 99 ∧ e = lN e' ∧ c = nI c' := by
  unfold f_M_isPrice at h
  by_cases c1 : e < 0
  · rw [if_pos c1] at h; exact absurd rfl h
  · rw [if_neg c1] at h
    by_cases c2 : 999999999999999 < e
    · rw [if_pos c2] at h; exact absurd rfl h
    · rw [if_neg c2] at h
      by_cases c3 : c < 0
      · rw [if_pos c3] at h; exact absurd rfl h
      · rw [if_neg c3] at h
        by_cases c4 : 99 < c
        · rw [if_pos c4] at h; exact absurd rfl h
        · obtain ⟨j, hj, rfl⟩ := nI_of c3
          obtain ⟨w, hw, rfl⟩ := pk_lOf c1
          refine ⟨w, j, ?_, ?_, rfl, rfl⟩
          · rw [show (999999999999999 : Int64) = lN 999999999999999 from rfl, pk_lLT (by decide) hw] at c2; omega
          · rw [show (99 : Int32) = nI 99 from rfl, nI_ltI (by decide) hj] at c4; omega
theorem q_priceX (e : Int64) (c : Int32) : f_X_isPriced e c = f_M_isPrice e c := rfl
theorem q_rate {e c : Nat} (he : e ≤ 999999999999999) (hc : c ≤ 99) : f_X_rateOf (lN e) (nI c) = lN (e * (100 - c)) := by
  unfold f_X_rateOf
  rw [show (100 : Int32) = nI 100 from rfl, nI_subI (by omega), nI_l (by omega), lN_mul]
end RRp
/-- one move or pledge more -/
theorem G2.push {P A n cnt : Nat} {f : Nat → Int32} {g : Nat → Int64} {h : Nat → Nat → Int64} (hG : G2 P A n cnt f g h) {p a : Nat} (hp : p < P) (ha : a < n) (hn : n ≤ A) (hP : P ≤ 256) (hA : A ≤ 64) {v : Int64} (h1 : -999999999999999 ≤ v.toInt) (h2 : v.toInt ≤ 999999999999999) : G2 P A n (cnt + 1) (va_up f cnt (nI (p * A + a))) (va_up g cnt v) (va_up h a (va_up (h a) p (h a p + v))) := by
  have hPA : P * A ≤ 256 * 64 := Nat.mul_le_mul hP hA
  refine ⟨fun a' p' ha' hp' => ?_, fun k hk => ?_⟩
  · rw [qS_push]
    have k1 := q_keylt hp (show a < A by omega)
    have k2 := q_keylt hp' (show a' < A by omega)
    by_cases e : nI (p * A + a) = nI (p' * A + a')
    · rw [if_pos e]
      obtain ⟨rfl, rfl⟩ := q_key (by omega) (by omega) ((nI_eq (by omega) (by omega)).mp e)
      rw [va_up_self, va_up_self, hG.1 _ _ ha hp]
    · rw [if_neg e]
      by_cases ea : a' = a
      · subst ea
        have ep : p' ≠ p := fun q => e (by rw [q])
        rw [va_up_self, va_up_ne _ _ ep, hG.1 _ _ ha hp']
      · rw [va_up_ne _ _ ea, hG.1 _ _ ha' hp']
  · by_cases e : k = cnt
    · subst e
      rw [va_up_self, va_up_self]
      exact ⟨⟨p, a, hp, ha, rfl⟩, h1, h2⟩
    · rw [va_up_ne _ _ e, va_up_ne _ _ e]
      exact hG.2 k (by omega)
