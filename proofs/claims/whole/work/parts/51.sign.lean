theorem cmp_gt {p q D R : Int} (hp : 0 ≤ p) (hq : 0 < q) (hR0 : 0 ≤ R) (hR : R * R < D * (S0 * S0)) (h : q * q * D < p * p) : q * R < p * S0 := by
  apply lt_of_sq (Int.mul_nonneg hp (by decide))
  have hqq : (0 : Int) < q * q := Int.mul_pos hq hq
  have a1 := Int.mul_lt_mul_of_pos_left hR hqq
  have a2 := Int.mul_lt_mul_of_pos_right h (show (0 : Int) < S0 * S0 by decide)
  have e1 : q * R * (q * R) = q * q * (R * R) := by grind
  have e2 : p * S0 * (p * S0) = p * p * (S0 * S0) := by grind
  have e3 : q * q * (D * (S0 * S0)) = q * q * D * (S0 * S0) := by grind
  rw [e1, e2]; rw [e3] at a1
  exact Int.lt_trans a1 a2
theorem cmp_lt {p q D R : Int} (hp : 0 ≤ p) (hq : 0 < q) (hq2 : q ≤ 8589934592) (hR0 : 0 ≤ R) (hR : D * (S0 * S0) < (R + 1) * (R + 1)) (hR1 : R < 11 * S0) (h : p * p < q * q * D) : p * S0 < q * R := by
  apply lt_of_sq (Int.mul_nonneg (by omega) hR0)
  have hqq : (0 : Int) < q * q := Int.mul_pos hq hq
  have a1 := Int.mul_lt_mul_of_pos_left hR hqq
  have h' : p * p + 1 ≤ q * q * D := h
  have a2 := Int.mul_le_mul_of_nonneg_right h' (show (0 : Int) ≤ S0 * S0 by decide)
  have b1 : q * q ≤ 8589934592 * 8589934592 := Int.mul_le_mul hq2 hq2 (by omega) (by decide)
  have b2 : q * q * (2 * R + 1) ≤ 8589934592 * 8589934592 * (2 * R + 1) := Int.mul_le_mul_of_nonneg_right b1 (by omega)
  have b3 : 8589934592 * 8589934592 * (2 * R + 1) < S0 * S0 := by
    have : (8589934592 * 8589934592 : Int) * (2 * R + 1) ≤ 8589934592 * 8589934592 * (22 * S0) := Int.mul_le_mul_of_nonneg_left (by omega) (by decide)
    exact Int.lt_of_le_of_lt this (by decide)
  have e1 : q * R * (q * R) = q * q * (R * R) := by grind
  have e2 : p * S0 * (p * S0) = p * p * (S0 * S0) := by grind
  have e3 : q * q * ((R + 1) * (R + 1)) = q * q * (R * R) + q * q * (2 * R + 1) := by grind
  have e4 : q * q * D * (S0 * S0) = q * q * (D * (S0 * S0)) := by grind
  have e5 : (p * p + 1) * (S0 * S0) = p * p * (S0 * S0) + S0 * S0 := by grind
  rw [e1, e2]
  rw [e3] at a1
  rw [e4, e5] at a2
  generalize q * q * (R * R) = x1 at *
  generalize q * q * (2 * R + 1) = x2 at *
  generalize p * p * (S0 * S0) = x3 at *
  generalize q * q * (D * (S0 * S0)) = x4 at *
  omega
theorem V_split (a R m n : Int) : Vv a R m n = (2 * m + n * a) * S0 + n * R := by grind
/-- what the square of one is against the square of the other -/
theorem sign_core {a b R k m n : Int} (B : BF a b R k) (hm : -268435456 ≤ m ∧ m ≤ 268435456) (hn : -268435456 ≤ n ∧ n ≤ 268435456) (ha : 1 ≤ a ∧ a ≤ 9) :
    (0 < n → (0 < Vv a R m n ↔ (0 ≤ 2 * m + n * a ∨ (2 * m + n * a) * (2 * m + n * a) < n * n * Dd a b))) ∧
    (n < 0 → (Vv a R m n < 0 ↔ (2 * m + n * a ≤ 0 ∨ (2 * m + n * a) * (2 * m + n * a) < n * n * Dd a b))) ∧
    (n ≠ 0 → Vv a R m n ≠ 0) ∧ (n ≠ 0 → (2 * m + n * a) * (2 * m + n * a) ≠ n * n * Dd a b) := by
  obtain ⟨r1, r2, r3, r4, -, -, -, -, k0, k1, k2, -⟩ := B
  rw [V_split]
  have hR0 : 0 ≤ R := by omega
  generalize hp : 2 * m + n * a = p
  generalize hD : Dd a b = D at *
  have hirr : n ≠ 0 → p * p ≠ n * n * D := by
    intro hn0 he
    have h1 : (p.natAbs : Int) * p.natAbs = (n.natAbs : Int) * n.natAbs * D := by
      rw [Int.natAbs_mul_self', Int.natAbs_mul_self']; exact he
    have := irr k0 k1 k2 n.natAbs p.natAbs (by omega) h1
    omega
  have up : ∀ q : Int, 0 < q → q ≤ 268435456 → q * q = n * n → ∀ pp : Int, 0 < pp → pp * pp = p * p → n ≠ 0 → (q * R < pp * S0 ∧ n * n * D < p * p) ∨ (pp * S0 < q * R ∧ p * p < n * n * D) := by
    intro q hq hq2 hqn pp hpp hppp hn0
    rcases Int.lt_trichotomy (p * p) (n * n * D) with h | h | h
    · exact Or.inr ⟨cmp_lt (by omega) hq (by omega) hR0 r2 r4 (by rw [hppp, hqn]; exact h), h⟩
    · exact absurd h (hirr hn0)
    · exact Or.inl ⟨cmp_gt (by omega) hq hR0 r1 (by rw [hppp, hqn]; exact h), h⟩
  have hS : (0 : Int) < S0 := by decide
  refine ⟨fun hn1 => ?_, fun hn1 => ?_, fun hn0 => ?_, hirr⟩
  · have hnR : 0 < n * R := Int.mul_pos hn1 (by omega)
    rcases Int.lt_or_le p 0 with hp0 | hp0
    · rcases up n hn1 (by omega) rfl (-p) (by omega) (by grind) (by omega) with ⟨h1, h2⟩ | ⟨h1, h2⟩
      · have : -p * S0 = -(p * S0) := Int.neg_mul p S0
        constructor
        · intro h; omega
        · intro h; omega
      · have : -p * S0 = -(p * S0) := Int.neg_mul p S0
        constructor
        · intro h; exact Or.inr h2
        · intro h; omega
    · have : 0 ≤ p * S0 := Int.mul_nonneg hp0 (by decide)
      constructor
      · intro h; exact Or.inl hp0
      · intro h; omega
  · have hnR : n * R < 0 := Int.mul_neg_of_neg_of_pos hn1 (by omega)
    rcases Int.lt_or_le 0 p with hp0 | hp0
    · rcases up (-n) (by omega) (by omega) (by grind) p hp0 rfl (by omega) with ⟨h1, h2⟩ | ⟨h1, h2⟩
      · have : -n * R = -(n * R) := Int.neg_mul n R
        constructor
        · intro h; omega
        · intro h; omega
      · have : -n * R = -(n * R) := Int.neg_mul n R
        constructor
        · intro h; exact Or.inr h2
        · intro h; omega
    · have : p * S0 ≤ 0 := Int.mul_nonpos_of_nonpos_of_nonneg hp0 (by decide)
      constructor
      · intro h; exact Or.inl hp0
      · intro h; omega
  · intro hz
    rcases Int.lt_trichotomy p 0 with hp0 | hp0 | hp0
    · rcases Int.lt_or_le n 0 with hn1 | hn1
      · have h1 : n * R < 0 := Int.mul_neg_of_neg_of_pos hn1 (by omega)
        have h2 : p * S0 < 0 := Int.mul_neg_of_neg_of_pos hp0 hS
        omega
      · have hn2 : 0 < n := by omega
        have : -p * S0 = -(p * S0) := Int.neg_mul p S0
        rcases up n hn2 (by omega) rfl (-p) (by omega) (by grind) hn0 with ⟨h1, h2⟩ | ⟨h1, h2⟩ <;> omega
    · subst hp0
      rw [Int.zero_mul, Int.zero_add] at hz
      rcases Int.mul_eq_zero.mp hz with h | h <;> omega
    · rcases Int.lt_or_le n 0 with hn1 | hn1
      · have : -n * R = -(n * R) := Int.neg_mul n R
        rcases up (-n) (by omega) (by omega) (by grind) p hp0 rfl hn0 with ⟨h1, h2⟩ | ⟨h1, h2⟩ <;> omega
      · have h1 : 0 < n * R := Int.mul_pos (by omega) (by omega)
        have h2 : 0 < p * S0 := Int.mul_pos hp0 hS
        omega
