/-! post -/
theorem pay_g6 {P cm p q v : Nat} {pf pt : Nat → Int32} {pb : Nat → Int64} {xs : XS} (h : G6 P cm (xs.1 4) pf pt pb (xs.2.2.2.1 1) (xs.2.2.2.2.1 2)) (h0 : xs.1 0 = P) (hP : P ≤ 256) (hp : p < P) (hq : q < P) (hpq : ¬ p = q) (hv : v ≤ 999999999999999) (hc : cm < 512) : ∃ (c' : Nat) (f' : Nat → Int32) (g' : Nat → Int64), g_X_addPaid xs (nI p) (nI q) (lN v) = xPS24 xs (c', f', g') ∧ G6 P (cm + 1) c' (va_up pf cm (nI p)) (va_up pt cm (nI q)) (va_up pb cm (lN v)) f' g' := by
  obtain ⟨⟨h1, h2⟩, h3, h4⟩ := h
  have hPP : P * P ≤ 256 * 256 := Nat.mul_le_mul hP hP
  have hb : ∀ k, k < cm + 1 → -999999999999999 ≤ (va_up pb cm (lN v) k).toInt ∧ (va_up pb cm (lN v) k).toInt ≤ 999999999999999 := by
    intro k hk
    by_cases e : k = cm
    · rw [e, va_up_self, pk_lT (by omega)]
      omega
    · rw [va_up_ne _ _ e]
      exact h4 k (by omega)
  have hne : ∀ y z : Nat, y < P → z < P → (nI y = nI z ↔ y = z) := fun y z hy hz => nI_eq (by omega) (by omega)
  unfold g_X_addPaid
  by_cases c : q < p
  · rw [if_pos (nI_le (by omega) (by omega))]
    have ep : f_X_pairOf xs (nI q) (nI p) = nI (q * P + p) := by rw [f_X_pairOf, h0, nI_mul, nI_add]
    rw [ep]
    obtain ⟨c', f', g', e, hc', hg⟩ := P_put (len := 512) (xs.2.2.2.1 1) (xs.2.2.2.2.1 2) (nI (q * P + p)) (f_P_amountOf (xs.1 4) (xs.2.2.2.1 1) (xs.2.2.2.2.1 2) (nI (q * P + p)) + -lN v) (by decide) (show xs.1 4 < 512 by omega)
    rw [e]
    refine ⟨c', f', g', rfl, ⟨by omega, by omega⟩, fun r s hrs hs => ?_, hb⟩
    have hr : r < P := by omega
    rw [hg, qT_push]
    have k1 := q_keylt hq hp
    have k2 := q_keylt hr hs
    have n1 : ¬ (nI p = nI r ∧ nI q = nI s) := fun y => by
      have y1 := (hne p r hp hr).mp y.1
      have y2 := (hne q s hq hs).mp y.2
      omega
    rw [if_neg n1]
    by_cases z : nI (r * P + s) = nI (q * P + p)
    · obtain ⟨rfl, rfl⟩ := q_key hs hp ((nI_eq (by omega) (by omega)).mp z)
      rw [if_pos z, if_pos ⟨rfl, rfl⟩, h3 _ _ hrs hs, Int64.sub_eq_add_neg]
    · have n2 : ¬ (nI p = nI s ∧ nI q = nI r) := fun y => by
        have y1 := (hne p s hp hs).mp y.1
        have y2 := (hne q r hq hr).mp y.2
        exact z (by rw [y1, y2])
      rw [if_neg z, if_neg n2, h3 _ _ hrs hs]
  · rw [if_neg (nI_ge (by omega) (by omega))]
    have ep : f_X_pairOf xs (nI p) (nI q) = nI (p * P + q) := by rw [f_X_pairOf, h0, nI_mul, nI_add]
    rw [ep]
    obtain ⟨c', f', g', e, hc', hg⟩ := P_put (len := 512) (xs.2.2.2.1 1) (xs.2.2.2.2.1 2) (nI (p * P + q)) (f_P_amountOf (xs.1 4) (xs.2.2.2.1 1) (xs.2.2.2.2.1 2) (nI (p * P + q)) + lN v) (by decide) (show xs.1 4 < 512 by omega)
    rw [e]
    refine ⟨c', f', g', rfl, ⟨by omega, by omega⟩, fun r s hrs hs => ?_, hb⟩
    have hr : r < P := by omega
    rw [hg, qT_push]
    have k1 := q_keylt hp hq
    have k2 := q_keylt hr hs
    have n2 : ¬ (nI p = nI s ∧ nI q = nI r) := fun y => by
      have y1 := (hne p s hp hs).mp y.1
      have y2 := (hne q r hq hr).mp y.2
      omega
    rw [if_neg n2]
    by_cases z : nI (r * P + s) = nI (p * P + q)
    · obtain ⟨rfl, rfl⟩ := q_key hs hq ((nI_eq (by omega) (by omega)).mp z)
      rw [if_pos z, if_pos ⟨rfl, rfl⟩, h3 _ _ hrs hs]
    · have n1 : ¬ (nI p = nI r ∧ nI q = nI s) := fun y => by
        have y1 := (hne p r hp hr).mp y.1
        have y2 := (hne q s hq hs).mp y.2
        exact z (by rw [y1, y2])
      rw [if_neg z, if_neg n1, h3 _ _ hrs hs]
/-- k legs are done: what the moves and payments are, and that nothing else is touched -/
def PM (m : MS) (k : Nat) (ms : MS) : Prop := (∀ j, ¬ j = 3 → ¬ j = 4 → ms.1 j = m.1 j) ∧ ms.1 3 = m.1 3 + 2 * k ∧ ms.1 4 ≤ m.1 4 + k ∧ ms.2.1 = m.2.1 ∧ (∀ j, ¬ j = 2 → ¬ j = 3 → ¬ j = 4 → ms.2.2.1 j = m.2.2.1 j) ∧ (∀ j, ¬ j = 1 → ¬ j = 2 → ms.2.2.2 j = m.2.2.2 j)
def PX (x : XS) (xs : XS) : Prop := (∀ j, ¬ j = 4 → xs.1 j = x.1 j) ∧ xs.2.1 = x.2.1 ∧ xs.2.2.1 = x.2.2.1 ∧ (∀ j, ¬ j = 1 → xs.2.2.2.1 j = x.2.2.2.1 j) ∧ (∀ j, ¬ j = 2 → xs.2.2.2.2.1 j = x.2.2.2.2.1 j) ∧ xS xs = xS x ∧ xR xs = xR x ∧ xP xs = xP x
def PL (m : MS) (x : XS) (k : Nat) (ms : MS) (xs : XS) : Prop := PM m k ms ∧ PX x xs ∧ G2 (m.1 0) (m.1 1) (m.1 2) (ms.1 3) (ms.2.2.1 2) (ms.2.2.2 1) (xH xs) ∧ G6 (m.1 0) (ms.1 4) (xs.1 4) (ms.2.2.1 3) (ms.2.2.1 4) (ms.2.2.2 2) (xs.2.2.2.1 1) (xs.2.2.2.2.1 2) ∧ ∀ a p, a < m.1 2 → p < m.1 0 → xH xs a p = xH x a p + qN (m.2.2.1 8) (m.2.2.1 9) (m.2.2.1 10) (m.2.2.2 5) (nI p) (nI a) k
section Po
variable {n : Nat} {m ms : MS} {x xs : XS} {p q a i v k : Nat}
theorem mv_frame (hN : ms.1 3 < 1040) : (∀ j, ¬ j = 3 → (mMv ms p q i v).1 j = ms.1 j) ∧ (mMv ms p q i v).1 3 = ms.1 3 + 1 + 1 ∧ (mMv ms p q i v).2.1 = ms.2.1 ∧ (∀ j, ¬ j = 2 → (mMv ms p q i v).2.2.1 j = ms.2.2.1 j) ∧ (∀ j, ¬ j = 1 → (mMv ms p q i v).2.2.2 j = ms.2.2.2 j) := by
  rw [mv_eq hN]
  refine ⟨fun j hj => ?_, ?_, rfl, fun j hj => ?_, fun j hj => ?_⟩
  · show va_up (va_up ms.1 3 _) 3 _ j = _
    rw [va_up_ne _ _ hj, va_up_ne _ _ hj]
  · rfl
  · show va_up (va_up ms.2.2.1 2 _) 2 _ j = _
    rw [va_up_ne _ _ hj, va_up_ne _ _ hj]
  · show va_up (va_up ms.2.2.2 1 _) 1 _ j = _
    rw [va_up_ne _ _ hj, va_up_ne _ _ hj]
theorem PL.moved (h : RR n m x) (hn : n < 512) (hk : k < m.1 7) (hL : PL m x k ms xs) (hp : p < m.1 0) (hq : q < m.1 0) (hpq : ¬ p = q) (ha : a < m.1 2) (hv2 : v ≤ 999999999999999) (f1 : m.2.2.1 8 k = nI p) (f2 : m.2.2.1 9 k = nI q) (f3 : m.2.2.1 10 k = nI a) (f4 : m.2.2.2 5 k = lN v) : PL m x (k + 1) (mMv ms p q a v) (g_A_move xs a (nI p) (nI q) (lN v)) := by
  obtain ⟨b0, b1, b2, b3, b4, b5, b6, b7, b8, b9, b10, b11, b12⟩ := h.nb
  obtain ⟨⟨p1, p2, p3, p4, p5, p6⟩, ⟨y1, y2, y3, y4, y5, y6, y7, y8⟩, g2, g6, hh⟩ := hL
  have q0 := p1 0 (by decide) (by decide)
  have q1 := p1 1 (by decide) (by decide)
  have q2 := p1 2 (by decide) (by decide)
  have hN : ms.1 3 < 1040 := by omega
  obtain ⟨t1, t2, t3, t4, t5⟩ := mv_frame (p := p) (q := q) (i := a) (v := v) hN
  have hg := mv_g2 (m := ms) (x := xs) hN (by rw [q0, q1, q2]; exact g2) (p := p) (q := q) (i := a) (by omega) (by omega) (by omega) (by omega) (by omega) (by omega) hv2
  rw [t1 0 (by decide), t1 1 (by decide), t1 2 (by decide), q0, q1, q2] at hg
  refine ⟨⟨fun j z1 z2 => (t1 j z1).trans (p1 j z1 z2), by omega, by rw [t1 4 (by decide)]; omega, t3.trans p4, fun j z1 z2 z3 => (t4 j z1).trans (p5 j z1 z2 z3), fun j z1 z2 => (t5 j z1).trans (p6 j z1 z2)⟩, ⟨y1, y2, y3, y4, y5, y6, y7, y8⟩, hg, ?_, fun b r hb hr => ?_⟩
  · rw [t1 4 (by decide), t4 3 (by decide), t4 4 (by decide), t5 2 (by decide)]
    exact g6
  · rw [mv_held (by omega) (by omega) hpq, hh b r hb hr, qN, f1, f2, f3, f4]
    have z1 : nI a = nI b ↔ b = a := (nI_eq (by omega) (by omega)).trans ⟨Eq.symm, Eq.symm⟩
    have z2 : nI p = nI r ↔ r = p := (nI_eq (by omega) (by omega)).trans ⟨Eq.symm, Eq.symm⟩
    have z3 : nI q = nI r ↔ r = q := (nI_eq (by omega) (by omega)).trans ⟨Eq.symm, Eq.symm⟩
    by_cases c1 : b = a
    · rw [if_pos (z1.mpr c1)]
      by_cases c2 : r = p
      · rw [if_pos ⟨c1, c2⟩, if_pos (z2.mpr c2), Int64.sub_eq_add_neg, Int64.sub_eq_add_neg, Int64.add_assoc]
      · rw [if_neg (fun z => c2 z.2), if_neg (fun z => c2 (z2.mp z))]
        by_cases c3 : r = q
        · rw [if_pos ⟨c1, c3⟩, if_pos (z3.mpr c3), Int64.add_assoc]
        · rw [if_neg (fun z => c3 z.2), if_neg (fun z => c3 (z3.mp z))]
    · rw [if_neg (fun z => c1 (z1.mp z)), if_neg (fun z => c1 z.1), if_neg (fun z => c1 z.1)]
theorem mN21 (m : MS) (j v : Nat) : (mN m j v).2.1 = m.2.1 := rfl
theorem mI21 (m : MS) (j : Nat) (f : Nat → Int32) : (mI m j f).2.1 = m.2.1 := rfl
theorem mL21 (m : MS) (j : Nat) (f : Nat → Int64) : (mL m j f).2.1 = m.2.1 := rfl
/-- and the payment of the same leg is written -/
theorem PL.paid (h : RR n m x) (hn : n < 512) (hk : k < m.1 7) (hL : PL m x k ms xs) (hV : PL m x (k + 1) (mMv ms p q a v) (g_A_move xs a (nI p) (nI q) (lN v))) (hp : p < m.1 0) (hq : q < m.1 0) (hpq : ¬ p = q) (hv2 : v ≤ 999999999999999) : PL m x (k + 1) (mN (mL (mI (mI (mMv ms p q a v) 3 (va_up (ms.2.2.1 3) (ms.1 4) (nI p))) 4 (va_up (ms.2.2.1 4) (ms.1 4) (nI q))) 2 (va_up (ms.2.2.2 2) (ms.1 4) (lN v))) 4 (ms.1 4 + 1)) (g_X_addPaid (g_A_move xs a (nI p) (nI q) (lN v)) (nI p) (nI q) (lN v)) := by
  obtain ⟨b0, b1, b2, b3, b4, b5, b6, b7, b8, b9, b10, b11, b12⟩ := h.nb
  obtain ⟨⟨p1, p2, p3, -⟩, -⟩ := hL
  obtain ⟨⟨P1, P2, P3, P4, P5, P6⟩, ⟨Y1, Y2, Y3, Y4, Y5, Y6, Y7, Y8⟩, G2', G6', hh'⟩ := hV
  obtain ⟨t1, t2, t3, t4, t5⟩ := mv_frame (ms := ms) (p := p) (q := q) (i := a) (v := v) (by omega)
  have d4 := t1 4 (by decide)
  obtain ⟨c', f', g', ee, hg⟩ := pay_g6 (xs := g_A_move xs a (nI p) (nI q) (lN v)) G6' ((Y1 0 (by decide)).trans h.sz.1) b1 hp hq hpq hv2 (by omega)
  rw [ee]
  rw [d4, t4 3 (by decide), t4 4 (by decide), t5 2 (by decide)] at hg
  generalize mMv ms p q a v = mv at *
  generalize g_A_move xs a (nI p) (nI q) (lN v) = xv at *
  refine ⟨⟨fun j z1 z2 => ?_, ?_, ?_, by rw [mN21, mL21, mI21, mI21]; exact P4, fun j z1 z2 z3 => ?_, fun j z1 z2 => ?_⟩, ⟨fun j z1 => ?_, Y2, Y3, fun j z1 => ?_, fun j z1 => ?_, Y6, Y7, Y8⟩, ?_, ?_, hh'⟩
  · show va_up mv.1 4 (ms.1 4 + 1) j = _
    rw [va_up_ne _ _ z2]; exact P1 j z1 z2
  · show va_up mv.1 4 (ms.1 4 + 1) 3 = _
    rw [va_up_ne _ _ (by decide)]; exact P2
  · show va_up mv.1 4 (ms.1 4 + 1) 4 ≤ _
    rw [va_up_self]; omega
  · show va_up (va_up mv.2.2.1 3 _) 4 _ j = _
    rw [va_up_ne _ _ z3, va_up_ne _ _ z2]; exact P5 j z1 z2 z3
  · show va_up mv.2.2.2 2 _ j = _
    rw [va_up_ne _ _ z2]; exact P6 j z1 z2
  · show va_up xv.1 4 _ j = _
    rw [va_up_ne _ _ z1]; exact Y1 j z1
  · show va_up xv.2.2.2.1 1 _ j = _
    rw [va_up_ne _ _ z1]; exact Y4 j z1
  · show va_up xv.2.2.2.2.1 2 _ j = _
    rw [va_up_ne _ _ z1]; exact Y5 j z1
  · show G2 (m.1 0) (m.1 1) (m.1 2) (va_up mv.1 4 (ms.1 4 + 1) 3) (va_up (va_up mv.2.2.1 3 (va_up (ms.2.2.1 3) (ms.1 4) (nI p))) 4 (va_up (ms.2.2.1 4) (ms.1 4) (nI q)) 2) (va_up mv.2.2.2 2 (va_up (ms.2.2.2 2) (ms.1 4) (lN v)) 1) (xH xv)
    rw [va_up_ne _ _ (by decide), va_up_ne _ _ (by decide), va_up_ne _ _ (by decide), va_up_ne _ _ (by decide)]
    exact G2'
  · show G6 (m.1 0) (va_up mv.1 4 (ms.1 4 + 1) 4) (va_up xv.1 4 c' 4) (va_up (va_up mv.2.2.1 3 (va_up (ms.2.2.1 3) (ms.1 4) (nI p))) 4 (va_up (ms.2.2.1 4) (ms.1 4) (nI q)) 3) (va_up (va_up mv.2.2.1 3 (va_up (ms.2.2.1 3) (ms.1 4) (nI p))) 4 (va_up (ms.2.2.1 4) (ms.1 4) (nI q)) 4) (va_up mv.2.2.2 2 (va_up (ms.2.2.2 2) (ms.1 4) (lN v)) 2) (va_up xv.2.2.2.1 1 f' 1) (va_up xv.2.2.2.2.1 2 g' 2)
    rw [va_up_self, va_up_self, va_up_ne _ _ (by decide : (3 : Nat) ≠ 4), va_up_self, va_up_self, va_up_self, va_up_self, va_up_self]
    exact hg
/-- one leg, on both sides -/
theorem post_step (h : RR n m x) (hn : n < 512) (hk : k < m.1 7) (hL : PL m x k ms xs) : ∃ (ms' : MS) (xs' : XS), PL m x (k + 1) ms' xs' ∧ (∀ j : Nat, g_M_post_l m (j + 1) k ms = g_M_post_l m j (k + 1) ms') ∧ ∀ j : Nat, g_X_post_l x (j + 1) k xs = g_X_post_l x j (k + 1) xs' := by
  obtain ⟨b0, b1, b2, b3, b4, b5, b6, b7, b8, b9, b10, b11, b12⟩ := h.nb
  have hL0 := hL
  obtain ⟨⟨p1, p2, p3, p4, p5, p6⟩, ⟨y1, y2, y3, y4, y5, y6, y7, y8⟩, g2, g6, hh⟩ := hL0
  have q7 : ms.1 7 = m.1 7 := p1 7 (by decide) (by decide)
  have w5 : xs.1 5 = m.1 7 := (y1 5 (by decide)).trans h.sz.2.2.2.2.1
  obtain ⟨e1, e2, e3, e4, p, q, a, v, hp0, hp, hq0, hq, hpq, ha, hv1, hv2, f1, f2, f3, f4⟩ := h.g8 k hk
  have r1 : ms.2.2.1 8 k = nI p := by rw [p5 8 (by decide) (by decide) (by decide), f1]
  have r2 : ms.2.2.1 9 k = nI q := by rw [p5 9 (by decide) (by decide) (by decide), f2]
  have r3 : ms.2.2.1 10 k = nI a := by rw [p5 10 (by decide) (by decide) (by decide), f3]
  have r4 : ms.2.2.2 5 k = lN v := by rw [p6 5 (by decide) (by decide), f4]
  have s1 : xs.2.2.2.1 2 k = nI p := by rw [y4 2 (by decide), e1, f1]
  have s2 : xs.2.2.2.1 3 k = nI q := by rw [y4 3 (by decide), e2, f2]
  have s3 : xs.2.2.2.1 4 k = nI a := by rw [y4 4 (by decide), e3, f3]
  have s4 : xs.2.2.2.2.1 3 k = lN v := by rw [y5 3 (by decide), e4, f4]
  have his : xIs xs (nI a) := ⟨nI_pos (by omega), by rw [y1 2 (by decide), h.sz.2.2.1]; exact nI_ge ha (by omega)⟩
  have hV := PL.moved h hn hk hL hp hq hpq ha hv2 f1 f2 f3 f4
  by_cases c : nI a = m.2.1
  · refine ⟨_, _, PL.paid h hn hk hL hV hp hq hpq hv2, fun j => ?_, fun j => ?_⟩
    · rw [g_M_post_l_s, q7, if_neg (nI_ge (by omega) (by omega)), nI_clamp (show k < 2 ^ 31 by omega), nI_clamp (show ms.1 4 < 2 ^ 31 by omega), r1, r2, r3, r4, p4, if_pos c]
    · rw [g_X_post_l_s, w5, if_neg (nI_ge (by omega) (by omega)), g_X_doLeg, nI_clamp (show k < 2 ^ 31 by omega), s1, s2, s3, s4, if_pos his, nI_clamp (show a < 2 ^ 31 by omega), y2, h.sz.2.2.2.2.2, if_pos c]
  · refine ⟨_, _, hV, fun j => ?_, fun j => ?_⟩
    · rw [g_M_post_l_s, q7, if_neg (nI_ge (by omega) (by omega)), nI_clamp (show k < 2 ^ 31 by omega), nI_clamp (show ms.1 4 < 2 ^ 31 by omega), r1, r2, r3, r4, p4, if_neg c]
    · rw [g_X_post_l_s, w5, if_neg (nI_ge (by omega) (by omega)), g_X_doLeg, nI_clamp (show k < 2 ^ 31 by omega), s1, s2, s3, s4, if_pos his, nI_clamp (show a < 2 ^ 31 by omega), y2, h.sz.2.2.2.2.2, if_neg c]
theorem post_l (h : RR n m x) (hn : n < 512) : ∀ (j k : Nat) (ms : MS) (xs : XS), k ≤ m.1 7 → m.1 7 < k + j → PL m x k ms xs → ∃ (ms' : MS) (xs' : XS), PL m x (m.1 7) ms' xs' ∧ g_M_post_l m j k ms = (1, mN ms' 7 0) ∧ g_X_post_l x j k xs = (1, xN xs' 5 0) := by
  intro j
  induction j with
  | zero => intro k ms xs h1 h2; omega
  | succ j ih =>
    intro k ms xs h1 h2 hL
    obtain ⟨b0, b1, b2, b3, b4, b5, b6, b7, b8, b9, b10, b11, b12⟩ := h.nb
    by_cases e : k = m.1 7
    · have q7 : ms.1 7 = m.1 7 := hL.1.1 7 (by decide) (by decide)
      have w5 : xs.1 5 = m.1 7 := (hL.2.1.1 5 (by decide)).trans h.sz.2.2.2.2.1
      subst e
      refine ⟨ms, xs, hL, ?_, ?_⟩
      · rw [g_M_post_l_s, q7, if_pos (nI_le (by omega) (by omega))]
      · rw [g_X_post_l_s, w5, if_pos (nI_le (by omega) (by omega))]
    · obtain ⟨ms', xs', hL', e1, e2⟩ := post_step h hn (show k < m.1 7 by omega) hL
      rw [e1 j, e2 j]
      exact ih (k + 1) ms' xs' (by omega) (by omega) hL'
theorem st_post (h : RR n m x) (hn : n < 512) : (g_X_post x).1 = (g_M_post m).1 ∧ RR (n + 1) (g_M_post m).2 (g_X_post x).2 := by
  obtain ⟨b0, b1, b2, b3, b4, b5, b6, b7, b8, b9, b10, b11, b12⟩ := h.nb
  obtain ⟨s0, s1, s2, s3, s5, smo⟩ := h.sz
  unfold g_X_post g_M_post
  rw [← st_holds h]
  by_cases c : f_X_holds x = 0
  · rw [if_pos c, if_pos c]
    exact ⟨rfl, h.up⟩
  rw [if_neg c, if_neg c]
  have hX : ∀ i, i < m.1 7 → XO x i := by
    rcases h.holdX with ⟨i1, i2⟩ | ⟨i1, i2⟩
    · exact i2
    · exact absurd i1 c
  have hL0 : PL m x 0 m x := ⟨⟨fun _ _ _ => rfl, rfl, Nat.le_refl _, rfl, fun _ _ _ _ => rfl, fun _ _ _ => rfl⟩, ⟨fun _ _ => rfl, rfl, rfl, fun _ _ => rfl, fun _ _ => rfl, rfl, rfl, rfl⟩, h.g2, h.g6, fun a p _ _ => by rw [qN, Int64.add_zero]⟩
  obtain ⟨ms, xs, ⟨⟨p1, p2, p3, p4, p5, p6⟩, ⟨y1, y2, y3, y4, y5, y6, y7, y8⟩, g2, g6, hh⟩, e1, e2⟩ := post_l h hn (m.1 7 + 1) 0 m x (by omega) (by omega) hL0
  rw [s5, e1, e2]
  refine ⟨rfl, ?_⟩
  have q0 := p1 0 (by decide) (by decide)
  have q1 := p1 1 (by decide) (by decide)
  have q2 := p1 2 (by decide) (by decide)
  have q5 := p1 5 (by decide) (by decide)
  have q6 := p1 6 (by decide) (by decide)
  have w0 := (y1 0 (by decide)).trans s0
  have w1 := (y1 1 (by decide)).trans s1
  have w2 := (y1 2 (by decide)).trans s2
  have w3 := (y1 3 (by decide)).trans s3
  have hcx : cX (xN xs 5 0) = cX x := by
    funext r
    show cS (xS xs) (fun a => q_n (xP xs a r)) (fun a => q_n (xR xs a)) (xs.1 2) = cS (xS x) (fun a => q_n (xP x a r)) (fun a => q_n (xR x a)) (x.1 2)
    rw [y6, y7, y8, y1 2 (by decide)]
  have hN : NB (n + 1) (va_up ms.1 7 0) := by
    refine ⟨?_, ?_, ?_, ?_, ?_, ?_, ?_, ?_, ?_, ?_, ?_, ?_, ?_⟩
    · show 2 ≤ ms.1 0; omega
    · show ms.1 0 ≤ 256; omega
    · show 1 ≤ ms.1 1; omega
    · show ms.1 1 ≤ 64; omega
    · show ms.1 2 ≤ ms.1 1; omega
    · show ms.1 3 ≤ 1040; omega
    · show ms.1 4 ≤ 520; omega
    · show ms.1 5 ≤ 520; omega
    · show ms.1 6 ≤ 40; omega
    · show 0 ≤ 4; omega
    · show ms.1 3 + 2 * 0 ≤ _; omega
    · show ms.1 4 + 0 ≤ _; omega
    · show ms.1 5 ≤ _; omega
  refine ⟨hN, ⟨?_, ?_, ?_, ?_, rfl, ?_⟩, ?_, ?_, ⟨?_, ?_⟩, ?_, ?_, ?_, ?_, fun k hk => absurd hk (Nat.not_lt_zero k)⟩
  · show xs.1 0 = ms.1 0; omega
  · show xs.1 1 = ms.1 1; omega
  · show xs.1 2 = ms.1 2; omega
  · show xs.1 3 = ms.1 6; omega
  · show xs.2.1 = ms.2.1; rw [y2, p4, smo]
  · show G1 (ms.1 2) (ms.2.2.1 0) (ms.2.2.2 0) (ms.2.2.1 1) ms.2.1 (xS xs) (xR xs)
    rw [q2, p5 0 (by decide) (by decide) (by decide), p6 0 (by decide) (by decide), p5 1 (by decide) (by decide) (by decide), p4, y6, y7]
    exact h.g1
  · show G2 (ms.1 0) (ms.1 1) (ms.1 2) (ms.1 3) (ms.2.2.1 2) (ms.2.2.2 1) (xH xs)
    rw [q0, q1, q2]
    exact g2
  · show G2 (ms.1 0) (ms.1 1) (ms.1 2) (ms.1 5) (ms.2.2.1 5) (ms.2.2.2 3) (xP xs)
    rw [q0, q1, q2, q5, p5 5 (by decide) (by decide) (by decide), p6 3 (by decide) (by decide), y8]
    exact h.g3.1
  · show ∀ a p, a < ms.1 2 → p < ms.1 0 → 0 ≤ (xP xs a p).toInt
    rw [q0, q2, y8]
    exact h.g3.2
  · unfold XC
    rw [hcx]
    show (∀ p, 0 < p → p < xs.1 0 → xs.2.2.2.2.1 0 p = lN (cX x p)) ∧ xs.2.2.1 = lN (pS (cX x) (xs.1 0)) ∧ pS (cX x) (xs.1 0) ≤ 4000000000000000000
    rw [y1 0 (by decide), y5 0 (by decide), y3]
    exact h.xc
  · unfold XF
    rw [hcx]
    show ∀ a p, a < xs.1 2 → 0 < p → p < xs.1 0 → (xS xs a = 1 → (xP xs a p).toInt ≤ (xH xs a p).toInt) ∧ (xs.2.1 = nI a → -(cX x p : Int) ≤ (xH xs a p).toInt)
    rw [w0, w2, y6, y8, y2]
    intro a p ha hp0 hp
    obtain ⟨x1, x2⟩ := h.xf a p (by omega) hp0 (by omega)
    obtain ⟨r1, r2⟩ := h.rw.heldR ha hp
    obtain ⟨⟨t1, t2⟩, t3⟩ := h.mQR (nI p) (nI a)
    have e3 : xH xs a p = xH x a p + mQ m (nI p) (nI a) := hh a p ha hp
    have e4 : (xH xs a p).toInt = (xH x a p).toInt + (mQ m (nI p) (nI a)).toInt := by rw [e3, q_add (by omega) (by omega)]
    rw [e4]
    by_cases c1 : (mQ m (nI p) (nI a)).toInt < 0
    · have c2 : ∃ k, k < m.1 7 ∧ m.2.2.1 8 k = nI p ∧ m.2.2.1 10 k = nI a := by
        by_cases c3 : ∃ k, k < m.1 7 ∧ m.2.2.1 8 k = nI p ∧ m.2.2.1 10 k = nI a
        · exact c3
        · have := t3 (fun k hk z => c3 ⟨k, hk, z⟩)
          omega
      obtain ⟨k, hk, k1, k2⟩ := c2
      obtain ⟨f1, f2, f3, f4, -⟩ := h.g8 k hk
      have x3 := (hX k hk).1
      have e0 : (0 : Int64).toInt = 0 := by decide
      rw [f1, f3, k1, k2, h.brk hp ha, if_pos (by rw [Int64.lt_iff_toInt_lt, e0]; exact c1)] at x3
      have x4 : ¬ xH x a p + mQ m (nI p) (nI a) < f_X_lowest x a (nI p) := fun z => by
        rw [if_pos z] at x3
        exact absurd x3 (by decide)
      rw [Int64.lt_iff_toInt_lt, q_add (by omega) (by omega)] at x4
      obtain ⟨l1, l2⟩ := (h.lowest ha hp).2 hp0
      refine ⟨fun z => ?_, fun z => ?_⟩
      · rw [l1 z] at x4
        omega
      · have ht : cX x p ≤ pS (cX x) (x.1 0) := pS_term hp0 (by omega)
        have hm := h.xc.2.2
        have e5 : (lN (cX x p)).toInt = cX x p := pk_lT (by omega)
        rw [l2 z, q_neg (by omega), e5] at x4
        omega
    · exact ⟨fun z => by have := x1 z; omega, fun z => by have := x2 z; omega⟩
  · show G6 (ms.1 0) (ms.1 4) (xs.1 4) (ms.2.2.1 3) (ms.2.2.1 4) (ms.2.2.2 2) (xs.2.2.2.1 1) (xs.2.2.2.2.1 2)
    rw [q0]
    exact g6
  · show G7 (ms.1 0) (ms.1 6) (ms.2.2.1 6) (ms.2.2.1 7) (ms.2.2.2 4) (xs.2.2.2.1 0) (xs.2.2.2.2.1 1)
    rw [q0, q6, p5 6 (by decide) (by decide) (by decide), p5 7 (by decide) (by decide) (by decide), p6 4 (by decide) (by decide), y4 0 (by decide), y5 1 (by decide)]
    exact h.g7
end Po
