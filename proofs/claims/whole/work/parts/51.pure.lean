/-! the worth of a pledge: class and reference alike, as naturals -/
theorem l_cap {n C : Nat} (hn : n < 2 ^ 63) (hC : C < 2 ^ 63) : (if lN C < lN n then lN C else lN n) = lN (min n C) := by
  by_cases h : C < n
  · rw [if_pos ((pk_lLT hC hn).mpr h), Nat.min_eq_right (by omega)]
  · rw [if_neg (fun q => h ((pk_lLT hC hn).mp q)), Nat.min_eq_left (by omega)]
/-- the class's worth of a pledge -/
theorem X_worth_eq {a r : Nat} (ha : a ≤ 10 ^ 18) (hr : r ≤ 10 ^ 17) : f_X_worth (lN a) (lN r) = lN (min (a * r / 100) 4000000000000000001) := by
  have e1 : lN r / 100 = lN (r / 100) := pk_lDiv (by omega) (by decide) (by decide)
  have e2 : lN r - lN r / 100 * 100 = lN (r % 100) := pk_lRem (by omega) (by decide) (by decide)
  have e3 : lN a / 100 = lN (a / 100) := pk_lDiv (by omega) (by decide) (by decide)
  have e4 : lN a - lN a / 100 * 100 = lN (a % 100) := pk_lRem (by omega) (by decide) (by decide)
  have hw : r / 100 ≤ 10 ^ 15 := by omega
  have ht : r % 100 < 100 := Nat.mod_lt _ (by decide)
  have hu : a % 100 < 100 := Nat.mod_lt _ (by decide)
  have hs := q_split a r
  unfold f_X_worth
  rw [e2, e4, e1, e3]
  generalize r / 100 = w at *
  generalize r % 100 = t at *
  generalize a % 100 = u at *
  have hh : a / 100 ≤ 10 ^ 16 := by omega
  generalize a / 100 = h at *
  generalize a * r / 100 = T at *
  have b1 : h * t ≤ 10 ^ 16 * 99 := Nat.mul_le_mul hh (by omega)
  have b2 : u * t ≤ 99 * 99 := Nat.mul_le_mul (by omega) (by omega)
  have e6 : lN u * lN t / 100 = lN (u * t / 100) := by rw [lN_mul]; exact pk_lDiv (by omega) (by decide) (by decide)
  rw [e6, lN_mul, lN_mul, lN_add, lN_add]
  have b3 : u * t / 100 ≤ u * t := Nat.div_le_self _ _
  rw [← hs]
  have M : (4000000000000000001 : Int64) = lN 4000000000000000001 := rfl
  have M2 : (4000000000000000000 : Int64) = lN 4000000000000000000 := rfl
  have M0 : (0 : Int64) = lN 0 := rfl
  rw [M, M2, M0]
  have low : a * w ≤ 4000000000000000000 → (if lN 4000000000000000001 < lN T then lN 4000000000000000001 else lN T) = lN (min T 4000000000000000001) := fun hl => l_cap (by omega) (by decide)
  by_cases hw0 : 0 < w
  · rw [if_pos ((pk_lLT (by decide) (by omega)).mpr hw0), pk_lDiv (by decide) hw0 (by omega)]
    have hd : 4000000000000000000 / w ≤ 4000000000000000000 := Nat.div_le_self _ _
    by_cases c2 : 4000000000000000000 / w < a
    · rw [if_pos ((pk_lLT (by omega) (by omega)).mpr c2)]
      have c3 : 4000000000000000000 < a * w := (Nat.div_lt_iff_lt_mul hw0).mp c2
      rw [Nat.min_eq_right (by omega)]
    · rw [if_neg (fun q => c2 ((pk_lLT (by omega) (by omega)).mp q))]
      exact low (Nat.le_of_not_lt (fun q => c2 ((Nat.div_lt_iff_lt_mul hw0).mpr q)))
  · rw [if_neg (fun q => hw0 ((pk_lLT (by decide) (by omega)).mp q))]
    exact low (by rw [show w = 0 by omega]; omega)
theorem q_split3 (a e k : Nat) : a * (e * k) / 100 = a / 100 * (e * k) + a % 100 * k * (e / 100) + a % 100 * k * (e % 100) / 100 := by
  have h1 := Nat.div_add_mod e 100
  have h2 := Nat.div_add_mod a 100
  generalize e / 100 = w at *
  generalize e % 100 = t at *
  generalize a / 100 = h at *
  generalize a % 100 = u at *
  have e1 : a * (e * k) = 100 * (h * (e * k) + u * k * w) + u * k * t := by
    have z1 : u * (e * k) = 100 * (u * k * w) + u * k * t := by
      rw [← h1, Nat.add_mul, Nat.mul_add, Nat.mul_assoc u k t, Nat.mul_comm k t]
      congr 1
      rw [Nat.mul_assoc 100 w k, Nat.mul_left_comm u 100, Nat.mul_assoc u k w, Nat.mul_comm k w]
    rw [← h2, Nat.add_mul, z1, Nat.mul_add 100, Nat.mul_assoc 100 h, Nat.add_assoc]
  rw [e1, Nat.mul_add_div (by decide)]
/-- the reference's worth of a pledge -/
theorem M_worth_eq {a e c : Nat} (ha : a ≤ 10 ^ 18) (he : e ≤ 999999999999999) (hc : c ≤ 99) : f_M_worth (lN a) (lN e) (nI c) = lN (min (a * (e * (100 - c)) / 100) 4100000000000000000) := by
  have hs := q_split3 a e (100 - c)
  have e0 : (100 : Int64) - (nI c).toInt64 = lN (100 - c) := by
    rw [nI_l (by omega)]
    exact lN_sub (a := 100) (by omega)
  have e1 : lN e / 100 = lN (e / 100) := pk_lDiv (by omega) (by decide) (by decide)
  have e2 : lN e - lN e / 100 * 100 = lN (e % 100) := pk_lRem (by omega) (by decide) (by decide)
  have e3 : lN a / 100 = lN (a / 100) := pk_lDiv (by omega) (by decide) (by decide)
  have e4 : lN a - lN a / 100 * 100 = lN (a % 100) := pk_lRem (by omega) (by decide) (by decide)
  have hk0 : 0 < 100 - c := by omega
  have hk1 : 100 - c ≤ 100 := by omega
  have hw : e / 100 ≤ 10 ^ 13 := by omega
  have ht : e % 100 < 100 := Nat.mod_lt _ (by decide)
  have hu : a % 100 < 100 := Nat.mod_lt _ (by decide)
  have hh : a / 100 ≤ 10 ^ 16 := by omega
  unfold f_M_worth
  rw [e0, e2, e4, e1, e3]
  generalize 100 - c = k at *
  generalize e / 100 = w at *
  generalize e % 100 = t at *
  generalize a % 100 = u at *
  generalize a / 100 = h at *
  generalize a * (e * k) / 100 = T at *
  have b1 : u * k ≤ 99 * 100 := Nat.mul_le_mul (by omega) hk1
  have b2 : u * k * w ≤ 99 * 100 * 10 ^ 13 := Nat.mul_le_mul b1 hw
  have b3 : u * k * t ≤ 99 * 100 * 99 := Nat.mul_le_mul b1 (by omega)
  have b4 : e * k ≤ 999999999999999 * 100 := Nat.mul_le_mul he hk1
  have e6 : lN (u * k) * lN t / 100 = lN (u * k * t / 100) := by rw [lN_mul]; exact pk_lDiv (by omega) (by decide) (by decide)
  have b5 : u * k * t / 100 ≤ u * k * t := Nat.div_le_self _ _
  rw [lN_mul u k, e6, lN_mul, lN_mul, lN_mul, lN_add, lN_add, ← hs]
  have M : (4100000000000000000 : Int64) = lN 4100000000000000000 := rfl
  have M0 : (0 : Int64) = lN 0 := rfl
  rw [M, M0, if_pos ((pk_lLT (by decide) (by omega)).mpr hk0)]
  have low : h * (e * k) ≤ 4100000000000000000 → (if lN 4100000000000000000 < lN T then lN 4100000000000000000 else lN T) = lN (min T 4100000000000000000) := fun hl => l_cap (by omega) (by decide)
  by_cases c1 : 0 < e
  · have c3 : 0 < e * k := Nat.mul_pos c1 hk0
    rw [if_pos ((pk_lLT (by decide) (by omega)).mpr c1), pk_lDiv (by decide) c3 (by omega)]
    have hd : 4100000000000000000 / (e * k) ≤ 4100000000000000000 := Nat.div_le_self _ _
    by_cases c2 : 4100000000000000000 / (e * k) < h
    · rw [if_pos ((pk_lLT (by omega) (by omega)).mpr c2)]
      have c4 : 4100000000000000000 < h * (e * k) := (Nat.div_lt_iff_lt_mul c3).mp c2
      rw [Nat.min_eq_right (by omega)]
    · rw [if_neg (fun q => c2 ((pk_lLT (by omega) (by omega)).mp q))]
      exact low (Nat.le_of_not_lt (fun q => c2 ((Nat.div_lt_iff_lt_mul c3).mpr q)))
  · rw [if_neg (fun q => c1 ((pk_lLT (by decide) (by omega)).mp q))]
    exact low (by rw [show e = 0 by omega]; omega)
