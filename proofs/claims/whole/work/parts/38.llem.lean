/-- what the walks need of the two states behind n calls -/
def RB (n : Nat) (m : MS) (x : XS) : Prop := MB m ∧ XB x ∧ m.1 3 + 2 * m.1 7 ≤ 2 * n ∧ m.1 4 + m.1 7 ≤ n ∧ m.1 5 ≤ n
theorem IsM.keep {cI cL : ClassId} {d d' : Nat → Nat} {κ κ' : Nat → Option va_E} {m : MS} (h : IsM cI cL d κ m) (hk : ∀ k, k < 18 → κ' k = κ k) (hd : ∀ k, k < 18 → d' k = d k) : IsM cI cL d' κ' m := by
  unfold IsM at h ⊢
  rw [hk 0 (by decide), hk 1 (by decide), hk 2 (by decide), hk 3 (by decide), hk 4 (by decide), hk 5 (by decide), hk 6 (by decide), hk 7 (by decide), hk 8 (by decide), hk 9 (by decide), hk 10 (by decide), hk 11 (by decide), hk 12 (by decide), hk 13 (by decide), hk 14 (by decide), hk 15 (by decide), hk 16 (by decide), hk 17 (by decide), hd 1 (by decide), hd 2 (by decide), hd 3 (by decide), hd 4 (by decide), hd 5 (by decide), hd 6 (by decide), hd 7 (by decide), hd 8 (by decide), hd 9 (by decide), hd 10 (by decide), hd 11 (by decide), hd 12 (by decide), hd 13 (by decide), hd 14 (by decide), hd 15 (by decide), hd 16 (by decide), hd 17 (by decide)]
  exact h
theorem IsX.keep {cI cL cQ : ClassId} {d : Nat → Nat} {κ κ' : Nat → Option va_E} {x : XS} (h : IsX cI cL cQ d κ x) (hk : ∀ k, 18 ≤ k → κ' k = κ k) : IsX cI cL cQ d κ' x := by
  unfold IsX at h ⊢
  rw [hk 18 (by decide), hk 19 (by decide), hk 20 (by decide), hk 21 (by decide), hk 22 (by decide), hk 23 (by decide), hk 24 (by decide), hk 25 (by decide), hk 26 (by decide), hk 27 (by decide), hk 28 (by decide), hk 29 (by decide), hk 30 (by decide), hk 31 (by decide)]
  obtain ⟨a1, a2, a3, a4, a5, a6, a7, a8, a9, a10, a11, a12, a13, a14, a15, a16⟩ := h
  refine ⟨a1, a2, a3, a4, a5, a6, a7, a8, a9, a10, a11, a12, a13, a14, fun i hi => ?_, fun k h2 => (hk k (by omega)).trans (a16 k h2)⟩
  obtain ⟨b1, b2, b3⟩ := a15 i hi
  exact ⟨(hk _ (by omega)).trans b1, (hk _ (by omega)).trans b2, (hk _ (by omega)).trans b3⟩
theorem IsM.live {cI cL : ClassId} {d : Nat → Nat} {κ : Nat → Option va_E} {m : MS} (h : IsM cI cL d κ m) : ∀ k, k < 18 → ∃ e, κ k = some e := by
  unfold IsM at h
  obtain ⟨a0, a1, a2, a3, a4, a5, a6, a7, a8, a9, a10, a11, a12, a13, a14, a15, a16, a17⟩ := h
  intro k hk
  match k, hk with
  | 0, _ => exact ⟨_, a0⟩
  | 1, _ => exact ⟨_, a1⟩
  | 2, _ => exact ⟨_, a2⟩
  | 3, _ => exact ⟨_, a3⟩
  | 4, _ => exact ⟨_, a4⟩
  | 5, _ => exact ⟨_, a5⟩
  | 6, _ => exact ⟨_, a6⟩
  | 7, _ => exact ⟨_, a7⟩
  | 8, _ => exact ⟨_, a8⟩
  | 9, _ => exact ⟨_, a9⟩
  | 10, _ => exact ⟨_, a10⟩
  | 11, _ => exact ⟨_, a11⟩
  | 12, _ => exact ⟨_, a12⟩
  | 13, _ => exact ⟨_, a13⟩
  | 14, _ => exact ⟨_, a14⟩
  | 15, _ => exact ⟨_, a15⟩
  | 16, _ => exact ⟨_, a16⟩
  | 17, _ => exact ⟨_, a17⟩
  | k + 18, h => omega
