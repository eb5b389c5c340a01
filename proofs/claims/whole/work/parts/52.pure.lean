/-! sums: the credit of one, and of all clients -/
def q_n (v : Int64) : Nat := v.toInt.toNat
theorem q_n_lN {n : Nat} (h : n < 2 ^ 63) : q_n (lN n) = n := by rw [q_n, pk_lT h]; omega
theorem q_n_back {v : Int64} (h : 0 ≤ v.toInt) : lN (q_n v) = v := by
  have h2 := v.toInt_lt
  apply Int64.toInt_inj.mp
  rw [pk_lT (by unfold q_n; omega)]
  unfold q_n
  omega
theorem q_n_int {v : Int64} (h : 0 ≤ v.toInt) : (q_n v : Int) = v.toInt := by unfold q_n; omega
def cS (s : Nat → Int32) (pl r : Nat → Nat) : Nat → Nat
  | 0 => 0
  | k + 1 => cS s pl r k + (if s k = 1 then pl k * r k / 100 else 0)
theorem cS_ext {s s' : Nat → Int32} {pl r pl' r' : Nat → Nat} : ∀ {n : Nat}, (∀ k, k < n → s k = s' k ∧ (s k = 1 → pl k * r k = pl' k * r' k)) → cS s pl r n = cS s' pl' r' n
  | 0, _ => rfl
  | n + 1, h => by
    have ih := cS_ext (s := s) (s' := s') (pl := pl) (r := r) (pl' := pl') (r' := r') (n := n) (fun k hk => h k (by omega))
    obtain ⟨h1, h2⟩ := h n (by omega)
    unfold cS
    rw [ih, ← h1]
    by_cases c : s n = 1
    · rw [if_pos c, if_pos c, h2 c]
    · rw [if_neg c, if_neg c]
theorem cS_upd {s : Nat → Int32} {pl r pl' r' : Nat → Nat} {i : Nat} (hs : s i = 1) : ∀ {n : Nat}, (∀ k, k < n → ¬ k = i → s k = 1 → pl' k * r' k = pl k * r k) → i < n → cS s pl' r' n + pl i * r i / 100 = cS s pl r n + pl' i * r' i / 100
  | 0, _, hi => by omega
  | n + 1, h, hi => by
    unfold cS
    by_cases e : n = i
    · subst e
      rw [if_pos hs, if_pos hs, cS_ext (s := s) (s' := s) (pl := pl') (r := r') (pl' := pl) (r' := r) (n := n) (fun k hk => ⟨rfl, h k (by omega) (by omega)⟩)]
      omega
    · have ih := cS_upd (s := s) (pl := pl) (r := r) (pl' := pl') (r' := r') hs (n := n) (fun k hk => h k (by omega)) (by omega)
      by_cases c : s n = 1
      · rw [if_pos c, if_pos c, h n (by omega) e c]
        omega
      · rw [if_neg c, if_neg c]
        omega
theorem cS_term {s : Nat → Int32} {pl r : Nat → Nat} {i : Nat} (hs : s i = 1) : ∀ {n : Nat}, i < n → pl i * r i / 100 ≤ cS s pl r n
  | 0, hi => by omega
  | n + 1, hi => by
    unfold cS
    by_cases e : n = i
    · subst e
      rw [if_pos hs]
      omega
    · have := cS_term (s := s) (pl := pl) (r := r) hs (n := n) (by omega)
      omega
/-- over the clients: all but number 0 -/
def pS (f : Nat → Nat) : Nat → Nat
  | 0 => 0
  | k + 1 => pS f k + (if k = 0 then 0 else f k)
theorem pS_ext {f g : Nat → Nat} : ∀ {n : Nat}, (∀ k, 0 < k → k < n → f k = g k) → pS f n = pS g n
  | 0, _ => rfl
  | n + 1, h => by
    unfold pS
    rw [pS_ext (f := f) (g := g) (n := n) (fun k h0 hk => h k h0 (by omega))]
    by_cases c : n = 0
    · rw [if_pos c, if_pos c]
    · rw [if_neg c, if_neg c, h n (by omega) (by omega)]
theorem pS_upd {f g : Nat → Nat} {i : Nat} (h0 : 0 < i) : ∀ {n : Nat}, (∀ k, 0 < k → k < n → ¬ k = i → g k = f k) → i < n → pS g n + f i = pS f n + g i
  | 0, _, hi => by omega
  | n + 1, h, hi => by
    unfold pS
    by_cases e : n = i
    · subst e
      rw [if_neg (by omega), if_neg (by omega), pS_ext (f := g) (g := f) (n := n) (fun k h1 hk => h k h1 (by omega) (by omega))]
      omega
    · have ih := pS_upd (f := f) (g := g) h0 (n := n) (fun k h1 hk => h k h1 (by omega)) (by omega)
      by_cases c : n = 0
      · omega
      · rw [if_neg c, if_neg c, h n (by omega) (by omega) e]
        omega
theorem pS_term {f : Nat → Nat} {i : Nat} (h0 : 0 < i) : ∀ {n : Nat}, i < n → f i ≤ pS f n
  | 0, hi => by omega
  | n + 1, hi => by
    unfold pS
    by_cases e : n = i
    · subst e
      rw [if_neg (by omega)]
      omega
    · have := pS_term (f := f) h0 (n := n) (by omega)
      omega
theorem pS_le {f : Nat → Nat} : ∀ {n m : Nat}, n ≤ m → pS f n ≤ pS f m := by
  intro n m h
  induction m with
  | zero => rw [show n = 0 by omega]; exact Nat.le_refl _
  | succ m ih =>
    by_cases e : n = m + 1
    · rw [e]; exact Nat.le_refl _
    · have := ih (by omega)
      show pS f n ≤ pS f m + _
      omega
theorem pS_one (f : Nat → Nat) : pS f 1 = 0 := by simp [pS]
theorem pS_succ (f : Nat → Nat) {k : Nat} (h : 0 < k) : pS f (k + 1) = pS f k + f k := by
  show pS f k + (if k = 0 then 0 else f k) = _
  rw [if_neg (by omega)]
/-! ints -/
theorem nI_mul (a b : Nat) : nI a * nI b = nI (a * b) := (Int32.ofNat_mul a b).symm
theorem nI_subI {a b : Nat} (h : b ≤ a) : nI a - nI b = nI (a - b) := by
  have : nI a = nI (a - b) + nI b := by rw [nI_add, Nat.sub_add_cancel h]
  rw [this, Int32.add_sub_cancel]
