/-! pledge and free -/
theorem X_creditWith {x : XS} {i p c po ro w r : Nat} (hp : p < 2 ^ 31) (hc : x.2.2.2.2.1 0 p = lN c) (hc2 : c ≤ 4000000000000000000) (hpo : xP x i p = lN po) (hro : xR x i = lN ro) (h1 : po ≤ 10 ^ 18) (h2 : ro ≤ 10 ^ 17) (ht : po * ro / 100 ≤ c) (hw : w ≤ 10 ^ 18) (hr : r ≤ 10 ^ 17) : f_X_creditWith x i (nI p) (lN w) (lN r) = lN (min (c - po * ro / 100 + w * r / 100) 4000000000000000001) := by
  unfold f_X_creditWith
  rw [nI_clamp hp, hc, hpo, hro, X_worth_eq h1 h2, X_worth_eq hw hr, Nat.min_eq_left (by omega : po * ro / 100 ≤ 4000000000000000001), lN_sub ht, lN_add, show (4000000000000000001 : Int64) = lN 4000000000000000001 from rfl, l_cap (by omega) (by decide)]
  exact congrArg lN (by omega)
/-- short of money with such a credit -/
def sh (x : XS) (p c : Nat) : Prop := ∃ k : Nat, k < x.1 2 ∧ x.2.1 = nI k ∧ (xH x k p).toInt < -(c : Int)
theorem X_over {m : MS} {x : XS} (h : RW m x) {p c : Nat} (hp : p < m.1 0) : f_X_isOverdrawn x (nI p) (lN (min c 4000000000000000001)) = 0 ↔ ¬ sh x p c := by
  obtain ⟨hb0, hb1, hb2, hb3, hb4, hb5, hb6, hb7, hb8, hb9, hb10⟩ := id h.mb
  unfold f_X_isOverdrawn
  rcases h.g1.2 with e | ⟨k, hk, e, -⟩
  · rw [if_neg (by rw [h.mo, e]; exact fun q => q.1 (by decide))]
    refine ⟨fun _ => ?_, fun _ => rfl⟩
    rintro ⟨j, hj, e2, -⟩
    rw [h.mo, e] at e2
    exact absurd (e2 ▸ nI_pos (by rw [h.s2] at hj; omega)) (fun q => q (by decide))
  · have e' : x.2.1 = nI k := h.mo.trans e
    have hi : xIs x x.2.1 := by rw [e']; exact ⟨nI_pos (by omega), by rw [h.s2]; exact nI_ge hk (by omega)⟩
    rw [if_pos hi, e', nI_clamp (by omega), nI_clamp (by omega)]
    have hr := (h.heldR hk hp).1
    by_cases q : (xH x k p).toInt < -(c : Int)
    · rw [if_pos ((l_short hr (by decide) (by decide)).mpr q)]
      exact ⟨fun z => absurd z (by decide), fun z => absurd ⟨k, by rw [h.s2]; exact hk, e', q⟩ z⟩
    · rw [if_neg (fun z => q ((l_short hr (by decide) (by decide)).mp z))]
      refine ⟨fun _ => ?_, fun _ => rfl⟩
      rintro ⟨j, hj, e2, z⟩
      rw [h.s2] at hj
      rw [e'] at e2
      rw [← (nI_eq (by omega) (by omega)).mp e2] at z
      exact q z
theorem M_short {m : MS} {x : XS} (h : RW m x) {p : Nat} (hp : p < m.1 0) : f_M_isShort m (nI p) = 0 ↔ ¬ sh x p (cX x p) := by
  obtain ⟨hb0, hb1, hb2, hb3, hb4, hb5, hb6, hb7, hb8, hb9, hb10⟩ := id h.mb
  rcases h.g1.2 with e | ⟨k, hk, e, -⟩
  · rw [M_isShort_none e]
    refine ⟨fun _ => ?_, fun _ => rfl⟩
    rintro ⟨j, hj, e2, -⟩
    rw [h.mo, e] at e2
    exact absurd (e2 ▸ nI_pos (by rw [h.s2] at hj; omega)) (fun q => q (by decide))
  · have e' : x.2.1 = nI k := h.mo.trans e
    rw [h.isShort hp hk e]
    by_cases q : (xH x k p).toInt < -(cX x p : Int)
    · rw [if_pos q]
      exact ⟨fun z => absurd z (by decide), fun z => absurd ⟨k, by rw [h.s2]; exact hk, e', q⟩ z⟩
    · rw [if_neg q]
      refine ⟨fun _ => ?_, fun _ => rfl⟩
      rintro ⟨j, hj, e2, z⟩
      rw [h.s2] at hj
      rw [e'] at e2
      rw [← (nI_eq (by omega) (by omega)).mp e2] at z
      exact q z
/-- the state with another pledge -/
abbrev xPl2 (x : XS) (i p w : Nat) : XS := xP1 x i (va_up (xP x i) p (lN w))
theorem cX_pled {x : XS} {i p w : Nat} (hi : i < x.1 2) (hs : xS x i = 1) (hw : w < 2 ^ 63) : cX (xPl2 x i p w) p + q_n (xP x i p) * q_n (xR x i) / 100 = cX x p + w * q_n (xR x i) / 100 := by
  have hu := cS_upd (s := xS x) (pl := fun a => q_n (xP x a p)) (r := fun a => q_n (xR x a)) (pl' := fun a => q_n (va_up (xP x) i (va_up (xP x i) p (lN w)) a p)) (r' := fun a => q_n (xR x a)) (i := i) hs (n := x.1 2) (fun k hk hne _ => by simp only [va_up_ne _ _ hne]) hi
  simp only [va_up_self, q_n_lN hw] at hu
  exact hu
theorem cX_pled_ne {x : XS} {i p w p' : Nat} (hne : ¬ p' = p) : cX (xPl2 x i p w) p' = cX x p' := by
  refine cS_ext (fun k hk => ⟨rfl, fun _ => ?_⟩)
  show q_n (va_up (xP x) i (va_up (xP x i) p (lN w)) k p') * q_n (xR x k) = _
  by_cases e : k = i
  · subst e
    rw [va_up_self, va_up_ne _ _ hne]
  · rw [va_up_ne _ _ e]
theorem pS_pled {x : XS} {i p w : Nat} (h0 : 0 < p) (hp : p < x.1 0) : pS (cX (xPl2 x i p w)) (x.1 0) + cX x p = pS (cX x) (x.1 0) + cX (xPl2 x i p w) p := pS_upd h0 (fun k _ _ hne => cX_pled_ne hne) hp
section Pled
variable {n : Nat} {m : MS} {x : XS} {i p w : Nat}
/-- the credit that would be -/
theorem RR.cw (h : RR n m x) (hi : i < m.1 2) (hs : xS x i = 1) (h0 : 0 < p) (hp : p < m.1 0) (hw : w ≤ 10 ^ 18) : f_X_creditWith x i (nI p) (lN w) (xR x i) = lN (min (cX (xPl2 x i p w) p) 4000000000000000001) := by
  obtain ⟨b0, b1, b2, b3, b4, b5, b6, b7, b8, b9, b10, b11, b12⟩ := h.nb
  obtain ⟨s0, s1, s2, s3, s5, smo⟩ := h.sz
  obtain ⟨c1, c2, c3⟩ := h.xc
  obtain ⟨e1, c9, he, hc, h4, h5, h6, h7, h8⟩ := h.rw.rate hi hs
  obtain ⟨p1, p2⟩ := h.rw.pledR hi hp
  have p3 := q_n_int p1
  have ht : cX x p ≤ pS (cX x) (x.1 0) := pS_term h0 (by omega)
  have ht2 : q_n (xP x i p) * q_n (xR x i) / 100 ≤ cX x p := cS_term (s := xS x) (pl := fun a => q_n (xP x a p)) (r := fun a => q_n (xR x a)) hs (by omega)
  have hu := cX_pled (x := x) (i := i) (p := p) (w := w) (by omega) hs (by omega)
  have hr : xR x i = lN (q_n (xR x i)) := by rw [h7, h6]
  have hcw := X_creditWith (x := x) (i := i) (p := p) (c := cX x p) (po := q_n (xP x i p)) (ro := q_n (xR x i)) (w := w) (r := q_n (xR x i)) (by omega) (c1 p h0 (by omega)) (by omega) (q_n_back p1).symm hr (by omega) (by omega) ht2 hw (by omega)
  rw [← hr] at hcw
  rw [hcw]
  exact congrArg lN (by omega)
theorem RR.set9a (h : RR n m x) (hi : i < m.1 2) (hp : p < m.1 0) (hw : w ≤ 10 ^ 18) (c : (xH x i p).toInt < (w : Int)) : g_X_setPledged x i (nI p) (lN w) = (9, x) := by
  obtain ⟨b0, b1, b2, b3, b4, b5, b6, b7, b8, b9, b10, b11, b12⟩ := h.nb
  rw [g_X_setPledged, nI_clamp (by omega), if_pos (by rw [Int64.lt_iff_toInt_lt, pk_lT (by omega)]; exact c)]
theorem RR.set9b (h : RR n m x) (hi : i < m.1 2) (hs : xS x i = 1) (h0 : 0 < p) (hp : p < m.1 0) (hw : w ≤ 10 ^ 18) (c : ¬ (xH x i p).toInt < (w : Int)) (c2 : sh x p (cX (xPl2 x i p w) p)) : g_X_setPledged x i (nI p) (lN w) = (9, x) := by
  obtain ⟨b0, b1, b2, b3, b4, b5, b6, b7, b8, b9, b10, b11, b12⟩ := h.nb
  rw [g_X_setPledged, nI_clamp (by omega), if_neg (by rw [Int64.lt_iff_toInt_lt, pk_lT (by omega)]; exact c), h.cw hi hs h0 hp hw, if_neg (fun q => (X_over h.rw hp).mp q c2)]
theorem RR.all (h : RR n m x) (hi : i < m.1 2) (hs : xS x i = 1) (h0 : 0 < p) (hp : p < m.1 0) (hw : w ≤ 10 ^ 18) : x.2.2.1 - x.2.2.2.2.1 0 p + lN (min (cX (xPl2 x i p w) p) 4000000000000000001) = lN (pS (cX x) (m.1 0) - cX x p + min (cX (xPl2 x i p w) p) 4000000000000000001) := by
  obtain ⟨s0, s1, s2, s3, s5, smo⟩ := h.sz
  obtain ⟨c1, c2, c3⟩ := h.xc
  have ht : cX x p ≤ pS (cX x) (x.1 0) := pS_term h0 (by omega)
  rw [c1 p h0 (by omega), c2, lN_sub ht, lN_add, s0]
theorem RR.set10 (h : RR n m x) (hi : i < m.1 2) (hs : xS x i = 1) (h0 : 0 < p) (hp : p < m.1 0) (hw : w ≤ 10 ^ 18) (c : ¬ (xH x i p).toInt < (w : Int)) (c2 : ¬ sh x p (cX (xPl2 x i p w) p)) (c3 : 4000000000000000000 < pS (cX (xPl2 x i p w)) (m.1 0)) : g_X_setPledged x i (nI p) (lN w) = (10, x) := by
  obtain ⟨b0, b1, b2, b3, b4, b5, b6, b7, b8, b9, b10, b11, b12⟩ := h.nb
  obtain ⟨d1, d2, d3⟩ := h.xc
  have hu := pS_pled (x := x) (i := i) (w := w) h0 (by rw [h.sz.1]; exact hp)
  rw [h.sz.1] at hu d3
  have ht : cX x p ≤ pS (cX x) (m.1 0) := pS_term h0 (by omega)
  rw [g_X_setPledged, nI_clamp (by omega), if_neg (by rw [Int64.lt_iff_toInt_lt, pk_lT (by omega)]; exact c), h.cw hi hs h0 hp hw, if_pos ((X_over h.rw hp).mpr c2), h.all hi hs h0 hp hw, if_pos]
  rw [show (4000000000000000000 : Int64) = lN 4000000000000000000 from rfl, pk_lLT (by decide) (by omega)]
  omega
/-- the state behind a change of a pledge -/
abbrev xPl3 (x : XS) (i p w : Nat) : XS := xA (xL (xPl2 x i p w) 0 (va_up (x.2.2.2.2.1 0) p (lN (cX (xPl2 x i p w) p)))) (lN (pS (cX (xPl2 x i p w)) (x.1 0)))
theorem RR.set0 (h : RR n m x) (hi : i < m.1 2) (hs : xS x i = 1) (h0 : 0 < p) (hp : p < m.1 0) (hw : w ≤ 10 ^ 18) (c : ¬ (xH x i p).toInt < (w : Int)) (c2 : ¬ sh x p (cX (xPl2 x i p w) p)) (c3 : ¬ 4000000000000000000 < pS (cX (xPl2 x i p w)) (m.1 0)) : g_X_setPledged x i (nI p) (lN w) = (0, xPl3 x i p w) := by
  obtain ⟨b0, b1, b2, b3, b4, b5, b6, b7, b8, b9, b10, b11, b12⟩ := h.nb
  obtain ⟨d1, d2, d3⟩ := h.xc
  have hu := pS_pled (x := x) (i := i) (w := w) h0 (by rw [h.sz.1]; exact hp)
  rw [h.sz.1] at hu d3
  have ht : cX x p ≤ pS (cX x) (m.1 0) := pS_term h0 (by omega)
  rw [g_X_setPledged, nI_clamp (by omega), if_neg (by rw [Int64.lt_iff_toInt_lt, pk_lT (by omega)]; exact c), h.cw hi hs h0 hp hw, if_pos ((X_over h.rw hp).mpr c2), h.all hi hs h0 hp hw, if_neg, Nat.min_eq_left (by omega), xPl3, h.sz.1]
  · rw [show pS (cX x) (m.1 0) - cX x p + cX (xPl2 x i p w) p = pS (cX (xPl2 x i p w)) (m.1 0) by omega]
  · rw [show (4000000000000000000 : Int64) = lN 4000000000000000000 from rfl, pk_lLT (by decide) (by omega)]
    omega
theorem G2.beyond {P A n cnt : Nat} {f : Nat → Int32} {g : Nat → Int64} {h : Nat → Nat → Int64} (hG : G2 P A n cnt f g h) (k : Int32) (v : Int64) : G2 P A n cnt (va_up f cnt k) (va_up g cnt v) h := by
  refine ⟨fun a p ha hp => ?_, fun j hj => ?_⟩
  · rw [hG.1 a p ha hp]
    exact qS_ext (fun j hj => ⟨(va_up_ne _ _ (by omega)).symm, (va_up_ne _ _ (by omega)).symm⟩)
  · rw [va_up_ne _ _ (by omega), va_up_ne _ _ (by omega)]
    exact hG.2 j hj
theorem pledgeMore_eq (h : RR n m x) (v : Int64) : g_M_pledgeMore m (nI p) (nI i) v = mN (mL (mI m 5 (va_up (m.2.2.1 5) (m.1 5) (nI (p * m.1 1 + i)))) 3 (va_up (m.2.2.2 3) (m.1 5) v)) 5 (m.1 5 + 1) := by
  obtain ⟨b0, b1, b2, b3, b4, b5, b6, b7, b8, b9, b10, b11, b12⟩ := h.nb
  rw [g_M_pledgeMore, nI_clamp (by omega), nI_mul, nI_add]
/-- a pledge that was taken back: nothing is changed -/
theorem RR.pledNo (h : RR n m x) (v : Int64) : RR (n + 1) (mN (g_M_pledgeMore m (nI p) (nI i) v) 5 ((g_M_pledgeMore m (nI p) (nI i) v).1 5 - 1)) x := by
  rw [pledgeMore_eq h]
  have h2 := h.up
  exact ⟨h2.nb, h2.sz, h2.g1, h2.g2, ⟨h2.g3.1.beyond _ _, h2.g3.2⟩, h2.xc, h2.xf, h2.g6, h2.g7, h2.g8⟩
/-- the weak relation with one pledge more -/
theorem RR.pledW (h : RR n m x) (hn : n < 512) (hi : i < m.1 2) (hp : p < m.1 0) {v : Int64} (h1 : -999999999999999 ≤ v.toInt) (h2 : v.toInt ≤ 999999999999999) (e : lN w = xP x i p + v) (hw : w < 2 ^ 63) : RW (g_M_pledgeMore m (nI p) (nI i) v) (xPl2 x i p w) := by
  obtain ⟨b0, b1, b2, b3, b4, b5, b6, b7, b8, b9, b10, b11, b12⟩ := h.nb
  rw [pledgeMore_eq h]
  have hg := h.g3.1.push hp hi b4 b1 b3 h1 h2
  rw [← e] at hg
  have hN : NB (n + 1) (va_up m.1 5 (m.1 5 + 1)) := ⟨b0, b1, b2, b3, b4, b5, b6, (by show m.1 5 + 1 ≤ 520; omega), b8, b9, (by show m.1 3 + 2 * m.1 7 ≤ _; omega), (by show m.1 4 + m.1 7 ≤ _; omega), (by show m.1 5 + 1 ≤ _; omega)⟩
  refine ⟨mkMB (n := n + 1) (x := x) hN h.g1, h.sz.1, h.sz.2.1, h.sz.2.2.1, h.sz.2.2.2.2.2, h.g1, h.g2, hg, ?_⟩
  intro a q ha hq
  show 0 ≤ (va_up (xP x) i (va_up (xP x i) p (lN w)) a q).toInt
  by_cases ea : a = i
  · subst ea
    rw [va_up_self]
    by_cases ep : q = p
    · subst ep
      rw [va_up_self, pk_lT hw]
      omega
    · rw [va_up_ne _ _ ep]
      exact h.g3.2 _ _ ha hq
  · rw [va_up_ne _ _ ea]
    exact h.g3.2 _ _ ha hq
/-- a pledge was changed -/
theorem RR.pledYes (h : RR n m x) (hn : n < 512) (hi : i < m.1 2) (hs : xS x i = 1) (h0 : 0 < p) (hp : p < m.1 0) {v : Int64} (h1 : -999999999999999 ≤ v.toInt) (h2 : v.toInt ≤ 999999999999999) (e : lN w = xP x i p + v) (hw : w ≤ 10 ^ 18) (c : ¬ (xH x i p).toInt < (w : Int)) (c2 : ¬ sh x p (cX (xPl2 x i p w) p)) (c3 : ¬ 4000000000000000000 < pS (cX (xPl2 x i p w)) (m.1 0)) : RR (n + 1) (mN (g_M_pledgeMore m (nI p) (nI i) v) 5 ((g_M_pledgeMore m (nI p) (nI i) v).1 5)) (xPl3 x i p w) := by
  obtain ⟨b0, b1, b2, b3, b4, b5, b6, b7, b8, b9, b10, b11, b12⟩ := h.nb
  have hW := h.pledW hn hi hp h1 h2 e (by omega)
  rw [pledgeMore_eq h] at hW ⊢
  have hN : NB (n + 1) (va_up (va_up m.1 5 (m.1 5 + 1)) 5 (m.1 5 + 1)) := ⟨b0, b1, b2, b3, b4, b5, b6, (by show m.1 5 + 1 ≤ 520; omega), b8, b9, (by show m.1 3 + 2 * m.1 7 ≤ _; omega), (by show m.1 4 + m.1 7 ≤ _; omega), (by show m.1 5 + 1 ≤ _; omega)⟩
  refine ⟨hN, h.sz, h.g1, h.g2, ⟨hW.g3, hW.pos⟩, ⟨?_, rfl, ?_⟩, ?_, h.g6, h.g7, h.g8⟩
  · intro q hq0 hq
    show va_up (x.2.2.2.2.1 0) p (lN (cX (xPl2 x i p w) p)) q = lN (cX (xPl2 x i p w) q)
    by_cases ep : q = p
    · subst ep
      rw [va_up_self]
    · rw [va_up_ne _ _ ep, cX_pled_ne ep]
      exact h.xc.1 q hq0 hq
  · show pS (cX (xPl2 x i p w)) (x.1 0) ≤ _
    rw [h.sz.1]
    omega
  · intro a q ha hq0 hq
    obtain ⟨f1, f2⟩ := h.xf a q ha hq0 hq
    show (xS x a = 1 → (va_up (xP x) i (va_up (xP x i) p (lN w)) a q).toInt ≤ (xH x a q).toInt) ∧ (x.2.1 = nI a → -(cX (xPl2 x i p w) q : Int) ≤ (xH x a q).toInt)
    refine ⟨fun z => ?_, fun z => ?_⟩
    · by_cases ea : a = i
      · subst ea
        rw [va_up_self]
        by_cases ep : q = p
        · subst ep
          rw [va_up_self, pk_lT (by omega)]
          omega
        · rw [va_up_ne _ _ ep]
          exact f1 z
      · rw [va_up_ne _ _ ea]
        exact f1 z
    · by_cases ep : q = p
      · subst ep
        exact Int.not_lt.mp (fun z2 => c2 ⟨a, ha, z, z2⟩)
      · rw [cX_pled_ne ep]
        exact f2 z
end Pled
