/-! numbers: longs as naturals, and hundredths -/
theorem q_split (a r : Nat) : a * r / 100 = a * (r / 100) + a / 100 * (r % 100) + a % 100 * (r % 100) / 100 := by
  have h1 := Nat.div_add_mod r 100
  have h2 := Nat.div_add_mod a 100
  generalize r / 100 = w at *
  generalize r % 100 = t at *
  generalize a / 100 = h at *
  generalize a % 100 = u at *
  subst h1
  subst h2
  have e : (100 * h + u) * (100 * w + t) = 100 * ((100 * h + u) * w + h * t) + u * t := by
    rw [Nat.mul_add (100 * h + u) (100 * w) t, Nat.mul_add 100, Nat.add_mul (100 * h) u t, ← Nat.add_assoc, Nat.mul_assoc 100 h t, ← Nat.mul_assoc (100 * h + u) 100 w, Nat.mul_comm (100 * h + u) 100, Nat.mul_assoc 100 (100 * h + u) w]
  rw [e, Nat.mul_add_div (by decide)]
theorem q_add {a b : Int64} (h1 : -2 ^ 63 ≤ a.toInt + b.toInt) (h2 : a.toInt + b.toInt < 2 ^ 63) : (a + b).toInt = a.toInt + b.toInt := by
  rw [Int64.toInt_add]
  exact Int.bmod_eq_of_le (by omega) (by omega)
theorem q_sub {a b : Int64} (h1 : -2 ^ 63 ≤ a.toInt - b.toInt) (h2 : a.toInt - b.toInt < 2 ^ 63) : (a - b).toInt = a.toInt - b.toInt := by
  rw [Int64.toInt_sub]
  exact Int.bmod_eq_of_le (by omega) (by omega)
theorem q_neg {a : Int64} (h1 : -2 ^ 63 < a.toInt) : (-a).toInt = -a.toInt := by
  have := a.toInt_lt
  rw [Int64.toInt_neg]
  exact Int.bmod_eq_of_le (by omega) (by omega)
/-- sums over a list of moves: what was moved at one place -/
def qS (f : Nat → Int32) (g : Nat → Int64) (key : Int32) : Nat → Int64
  | 0 => 0
  | k + 1 => if f k = key then qS f g key k + g k else qS f g key k
theorem qS_ext {f f' : Nat → Int32} {g g' : Nat → Int64} {key : Int32} : ∀ {n : Nat}, (∀ k, k < n → f k = f' k ∧ g k = g' k) → qS f g key n = qS f' g' key n
  | 0, _ => rfl
  | n + 1, h => by
    have ih := qS_ext (f := f) (f' := f') (g := g) (g' := g') (key := key) (n := n) (fun k hk => h k (by omega))
    obtain ⟨h1, h2⟩ := h n (by omega)
    simp only [qS, h1, h2, ih]
theorem qS_none {f : Nat → Int32} {g : Nat → Int64} {key : Int32} : ∀ {n : Nat}, (∀ k, k < n → ¬ f k = key) → qS f g key n = 0
  | 0, _ => rfl
  | n + 1, h => by
    have ih := qS_none (f := f) (g := g) (key := key) (n := n) (fun k hk => h k (by omega))
    simp only [qS, if_neg (h n (by omega)), ih]
theorem qS_push (f : Nat → Int32) (g : Nat → Int64) (key key' : Int32) (v : Int64) (n : Nat) : qS (va_up f n key') (va_up g n v) key (n + 1) = if key' = key then qS f g key n + v else qS f g key n := by
  have e : qS (va_up f n key') (va_up g n v) key n = qS f g key n := qS_ext (fun k hk => ⟨va_up_ne _ _ (by omega), va_up_ne _ _ (by omega)⟩)
  simp only [qS, va_up_self, e]
theorem qS_range {f : Nat → Int32} {g : Nat → Int64} {key : Int32} {B : Int} (hB : 0 ≤ B) : ∀ {n : Nat}, (∀ k, k < n → -B ≤ (g k).toInt ∧ (g k).toInt ≤ B) → n * B < 2 ^ 62 → -(n * B) ≤ (qS f g key n).toInt ∧ (qS f g key n).toInt ≤ n * B
  | 0, _, _ => by simp [qS]
  | n + 1, h, hn => by
    have e : ((n + 1 : Nat) : Int) * B = n * B + B := by rw [Int.natCast_add, Int.add_mul]; simp
    rw [e] at hn ⊢
    have h0 : 0 ≤ (n : Int) * B := Int.mul_nonneg (by omega) hB
    obtain ⟨i1, i2⟩ := qS_range (f := f) (g := g) (key := key) hB (n := n) (fun k hk => h k (by omega)) (by omega)
    obtain ⟨j1, j2⟩ := h n (by omega)
    unfold qS
    generalize (n : Int) * B = Z at *
    split
    · rw [q_add (by omega) (by omega)]
      omega
    · omega
/-- what one paid the other, less what came back -/
def qT (f h : Nat → Int32) (g : Nat → Int64) (p q : Int32) : Nat → Int64
  | 0 => 0
  | k + 1 => if f k = p ∧ h k = q then qT f h g p q k + g k else if f k = q ∧ h k = p then qT f h g p q k - g k else qT f h g p q k
theorem qT_ext {f f' h h' : Nat → Int32} {g g' : Nat → Int64} {p q : Int32} : ∀ {n : Nat}, (∀ k, k < n → f k = f' k ∧ h k = h' k ∧ g k = g' k) → qT f h g p q n = qT f' h' g' p q n
  | 0, _ => rfl
  | n + 1, hh => by
    have ih := qT_ext (f := f) (f' := f') (h := h) (h' := h') (g := g) (g' := g') (p := p) (q := q) (n := n) (fun k hk => hh k (by omega))
    obtain ⟨h1, h2, h3⟩ := hh n (by omega)
    simp only [qT, h1, h2, h3, ih]
theorem qT_push (f h : Nat → Int32) (g : Nat → Int64) (p q a b : Int32) (v : Int64) (n : Nat) : qT (va_up f n a) (va_up h n b) (va_up g n v) p q (n + 1) = if a = p ∧ b = q then qT f h g p q n + v else if a = q ∧ b = p then qT f h g p q n - v else qT f h g p q n := by
  have e : qT (va_up f n a) (va_up h n b) (va_up g n v) p q n = qT f h g p q n := qT_ext (fun k hk => ⟨va_up_ne _ _ (by omega), va_up_ne _ _ (by omega), va_up_ne _ _ (by omega)⟩)
  simp only [qT, va_up_self, e]
theorem qT_range {f h : Nat → Int32} {g : Nat → Int64} {p q : Int32} {B : Int} (hB : 0 ≤ B) : ∀ {n : Nat}, (∀ k, k < n → -B ≤ (g k).toInt ∧ (g k).toInt ≤ B) → n * B < 2 ^ 62 → -(n * B) ≤ (qT f h g p q n).toInt ∧ (qT f h g p q n).toInt ≤ n * B
  | 0, _, _ => by simp [qT]
  | n + 1, hh, hn => by
    have e : ((n + 1 : Nat) : Int) * B = n * B + B := by rw [Int.natCast_add, Int.add_mul]; simp
    rw [e] at hn ⊢
    have h0 : 0 ≤ (n : Int) * B := Int.mul_nonneg (by omega) hB
    obtain ⟨i1, i2⟩ := qT_range (f := f) (h := h) (g := g) (p := p) (q := q) hB (n := n) (fun k hk => hh k (by omega)) (by omega)
    obtain ⟨j1, j2⟩ := hh n (by omega)
    unfold qT
    generalize (n : Int) * B = Z at *
    split
    · rw [q_add (by omega) (by omega)]
      omega
    · split
      · rw [q_sub (by omega) (by omega)]
        omega
      · omega
theorem qT_swap {f h : Nat → Int32} {g : Nat → Int64} {p q : Int32} (hpq : ¬ p = q) : ∀ n : Nat, qT f h g q p n = - qT f h g p q n
  | 0 => by simp [qT]
  | n + 1 => by
    have ih := qT_swap (f := f) (h := h) (g := g) hpq n
    unfold qT
    rw [ih]
    by_cases h1 : f n = p ∧ h n = q
    · have h2 : ¬ (f n = q ∧ h n = p) := fun z => hpq (h1.1.symm.trans z.1)
      rw [if_neg h2, if_pos h1, if_pos h1, Int64.neg_add, Int64.sub_eq_add_neg]
    · by_cases h2 : f n = q ∧ h n = p
      · rw [if_pos h2, if_neg h1, if_pos h2]
        simp [Int64.sub_eq_add_neg, Int64.neg_add]
      · rw [if_neg h2, if_neg h1, if_neg h1, if_neg h2]
/-- places are told apart by their numbers -/
theorem q_key {A p p' a a' : Nat} (ha : a < A) (ha' : a' < A) (h : p * A + a = p' * A + a') : p = p' ∧ a = a' := by
  have h1 : (p * A + a) / A = p := by rw [Nat.mul_comm, Nat.mul_add_div (by omega), Nat.div_eq_of_lt ha]; rfl
  have h2 : (p' * A + a') / A = p' := by rw [Nat.mul_comm, Nat.mul_add_div (by omega), Nat.div_eq_of_lt ha']; rfl
  have e : p = p' := by rw [← h1, ← h2, h]
  subst e
  exact ⟨rfl, by omega⟩
theorem q_keylt {A P p a : Nat} (hp : p < P) (ha : a < A) : p * A + a < P * A := by
  have h1 : (p + 1) * A ≤ P * A := Nat.mul_le_mul_right A hp
  rw [Nat.add_mul, Nat.one_mul] at h1
  omega
