/-! the two new objects, and all of it -/
theorem cS_zero {s : Nat → Int32} {pl r : Nat → Nat} : ∀ n : Nat, (∀ k, k < n → ¬ s k = 1) → cS s pl r n = 0
  | 0, _ => rfl
  | n + 1, h => by
    rw [cS, cS_zero n (fun k hk => h k (by omega)), if_neg (h n (by omega))]
theorem pS_zero {f : Nat → Nat} : ∀ n : Nat, (∀ k, k < n → f k = 0) → pS f n = 0
  | 0, _ => rfl
  | n + 1, h => by
    rw [pS, pS_zero n (fun k hk => h k (by omega)), h n (by omega), ite_self]
theorem st_init (p a : Int32) : RR 0 (mInit p a) (xInit p a) := by
  obtain ⟨p1, p2⟩ := qP_range p
  obtain ⟨a1, a2⟩ := qA_range a
  have hc : cX (xInit p a) = fun _ => 0 := by
    funext r
    show cS _ _ _ 0 = 0
    rfl
  have hs : pS (cX (xInit p a)) ((xInit p a).1 0) = 0 := pS_zero _ (fun k _ => by rw [hc])
  refine ⟨⟨p1, p2, a1, a2, Nat.zero_le _, Nat.zero_le _, Nat.zero_le _, Nat.zero_le _, Nat.zero_le _, Nat.zero_le _, Nat.zero_le _, Nat.zero_le _, Nat.zero_le _⟩, ⟨rfl, rfl, rfl, rfl, rfl, rfl⟩, ⟨fun k hk => absurd hk (Nat.not_lt_zero k), Or.inl rfl⟩, ⟨fun k _ hk _ => absurd hk (Nat.not_lt_zero k), fun k hk => absurd hk (Nat.not_lt_zero k)⟩, ⟨⟨fun k _ hk _ => absurd hk (Nat.not_lt_zero k), fun k hk => absurd hk (Nat.not_lt_zero k)⟩, fun k _ hk _ => absurd hk (Nat.not_lt_zero k)⟩, ⟨fun r _ _ => ?_, ?_, ?_⟩, fun k _ hk _ _ => absurd hk (Nat.not_lt_zero k), ⟨⟨Nat.le_refl _, Nat.zero_le _⟩, fun r s _ _ => rfl, fun k hk => absurd hk (Nat.not_lt_zero k)⟩, ⟨fun k hk => absurd hk (Nat.not_lt_zero k), fun j k hj => absurd hj (Nat.not_lt_zero j)⟩, fun k hk => absurd hk (Nat.not_lt_zero k)⟩
  · rw [hc]; rfl
  · rw [hs]; rfl
  · rw [hs]; exact Nat.zero_le _
theorem pure_all : ∃ RR : Nat → MS → XS → Prop, (∀ n ms x, RR n ms x → RB n ms x) ∧ RSt RR ∧ (∀ n ms x, RR n ms x → RR (n + 1) ms x) ∧ ∀ p a : Int32, RR 0 (mInit p a) (xInit p a) := by
  refine ⟨RR, fun _ _ _ h => h.rb, ⟨?_, ?_, ?_, ?_, ?_, ?_, ?_, ?_, ?_, ?_, ?_, ?_, ?_, ?_, ?_, ?_, ?_, ?_, ?_⟩, fun _ _ _ h => h.up, st_init⟩
  · exact fun n ms x h hn => st_currency h hn
  · exact fun n ms x v0 v1 h hn => st_security h hn v0 v1
  · exact fun n ms x v0 v1 v2 h hn => st_price h hn v0 v1 v2
  · exact fun n ms x v0 v1 v2 h hn => st_give h hn v0 v1 v2
  · exact fun n ms x v0 v1 v2 h hn => st_back h hn v0 v1 v2
  · exact fun n ms x v0 v1 v2 h hn => st_pledge h hn v0 v1 v2
  · exact fun n ms x v0 v1 v2 h hn => st_free h hn v0 v1 v2
  · exact fun n ms x v0 v1 v2 h hn => st_limit h hn v0 v1 v2
  · exact fun n ms x v0 v1 h hn => st_open h hn v0 v1
  · exact fun n ms x v0 v1 v2 v3 h hn => st_leg h hn v0 v1 v2 v3
  · exact fun n ms x h hn => ⟨st_holds h, h.up⟩
  · exact fun n ms x h hn => st_post h hn
  · exact fun n ms x h hn => st_drop h hn
  · exact fun n ms x v0 h hn => ⟨st_net h v0, h.up⟩
  · exact fun n ms x v0 h hn => ⟨st_value h v0, h.up⟩
  · exact fun n ms x v0 h hn => ⟨st_floor h v0, h.up⟩
  · exact fun n ms x v0 h hn => ⟨st_isThere h v0, h.up⟩
  · exact fun n ms x v0 h hn => ⟨st_credit h v0, h.up⟩
  · exact fun n ms x h hn => st_day h hn
