/-! what the reference's readers answer, where others need it -/
theorem limitAt_l_in {m : MS} {p q : Int32} (hB : MB m) : ∀ (n k : Nat) (a : Int32), (a = -1 ∨ ∃ j, j < m.1 6 ∧ a = nI j) → k ≤ m.1 6 → m.1 6 < k + n → (f_M_limitAt_l m p q n k a = -1 ∨ ∃ j, j < m.1 6 ∧ f_M_limitAt_l m p q n k a = nI j) := by
  have hb8 : m.1 6 ≤ 40 := hB.2.2.2.2.2.2.2.2.1
  intro n
  induction n with
  | zero => intro k a _ h1 h2; omega
  | succ n ih =>
    intro k a ha h1 h2
    rw [f_M_limitAt_l_s]
    by_cases c : nI (m.1 6) ≤ nI k
    · rw [if_pos c]; exact ha
    · have hlt : k < m.1 6 := Nat.lt_of_not_le (fun q => c (nI_le q (by omega)))
      rw [if_neg c]
      split
      · split
        · exact ih (k + 1) (nI k) (Or.inr ⟨k, hlt, rfl⟩) (by omega) (by omega)
        · exact ih (k + 1) a ha (by omega) (by omega)
      · exact ih (k + 1) a ha (by omega) (by omega)
theorem limitAt_in {m : MS} {p q : Int32} (hB : MB m) : f_M_limitAt m p q = -1 ∨ ∃ j, j < m.1 6 ∧ f_M_limitAt m p q = nI j := limitAt_l_in hB _ 0 _ (Or.inl rfl) (by omega) (by omega)
theorem limitAt_41 {m : MS} {p q : Int32} (hB : MB m) (h : ¬ f_M_limitAt m p q < 0) : vp_in (f_M_limitAt m p q) 41 := by
  have hb8 : m.1 6 ≤ 40 := hB.2.2.2.2.2.2.2.2.1
  rcases limitAt_in (p := p) (q := q) hB with e | ⟨j, hj, e⟩
  · rw [e] at h; exact absurd (by decide) h
  · rw [e]; exact vp_in_nI (by omega) (by decide)
theorem isThere_room {m : MS} {id : Int32} (h : ¬ f_M_isThere m id = 0) (h2 : ¬ id < nI (m.1 0) * nI (m.1 1)) : ¬ f_M_limitAt m (f_M_pair m id / nI (m.1 0)) (f_M_pair m id - f_M_pair m id / nI (m.1 0) * nI (m.1 0)) < 0 := by
  intro hz
  have hr : f_M_isRoom m id = 0 := by
    unfold f_M_isRoom
    rw [if_neg h2]
    split
    · rfl
    · first | rfl | rw [if_pos hz]
  apply h
  unfold f_M_isThere
  rw [if_pos hr]
  split
  · rfl
  · rw [if_pos (Int32.not_lt.mp h2)]
theorem isThere_pos {m : MS} {id : Int32} (hB : MB m) (h : ¬ f_M_isThere m id = 0) (h2 : id < nI (m.1 0) * nI (m.1 1)) : ¬ id < 0 ∧ ¬ nI (m.1 2) ≤ id - id / nI (m.1 1) * nI (m.1 1) := by
  have hr : f_M_isRoom m id = 0 := by
    unfold f_M_isRoom
    rw [if_pos h2]
  unfold f_M_isThere at h
  rw [if_pos hr] at h
  by_cases c1 : id < 0
  · rw [if_pos c1] at h; exact absurd rfl h
  · rw [if_neg c1] at h
    by_cases c2 : nI (m.1 0) * nI (m.1 1) ≤ id
    · rw [if_pos c2] at h; exact absurd rfl h
    · rw [if_neg c2] at h
      by_cases c3 : nI (m.1 2) ≤ id - id / nI (m.1 1) * nI (m.1 1)
      · rw [if_pos c3] at h; exact absurd rfl h
      · exact ⟨c1, c3⟩
theorem isThere_64 {m : MS} {id : Int32} (hB : MB m) (h : ¬ f_M_isThere m id = 0) (h2 : id < nI (m.1 0) * nI (m.1 1)) : vp_in (id - id / nI (m.1 1) * nI (m.1 1)) 64 := by
  obtain ⟨c1, c3⟩ := isThere_pos hB h h2
  obtain ⟨hb0, hb1, hb2, hb3, hb4, -⟩ := hB
  obtain ⟨j, hj, rfl⟩ := nI_of c1
  rw [pk_rem hj (by omega) (by omega)]
  have : j % m.1 1 < m.1 1 := Nat.mod_lt _ (by omega)
  exact vp_in_nI (by omega) (by decide)
