abbrev lz (z : Int) : Int64 := Int64.ofInt z
abbrev iz (z : Int) : Int32 := Int32.ofInt z
theorem lz_to {z : Int} (h1 : -9223372036854775808 ≤ z) (h2 : z < 9223372036854775808) : (lz z).toInt = z := Int64.toInt_ofInt_of_le h1 h2
theorem iz_to {z : Int} (h1 : -2147483648 ≤ z) (h2 : z < 2147483648) : (iz z).toInt = z := Int32.toInt_ofInt_of_le h1 h2
theorem lz_add (x y : Int) : lz x + lz y = lz (x + y) := (Int64.ofInt_add x y).symm
theorem lz_sub (x y : Int) : lz x - lz y = lz (x - y) := (Int64.ofInt_sub x y).symm
theorem lz_mul (x y : Int) : lz x * lz y = lz (x * y) := (Int64.ofInt_mul x y).symm
theorem lz_neg (x : Int) : -lz x = lz (-x) := (Int64.ofInt_neg x).symm
theorem iz_add (x y : Int) : iz x + iz y = iz (x + y) := (Int32.ofInt_add x y).symm
theorem iz_sub (x y : Int) : iz x - iz y = iz (x - y) := (Int32.ofInt_sub x y).symm
theorem iz_mul (x y : Int) : iz x * iz y = iz (x * y) := (Int32.ofInt_mul x y).symm
theorem i2l (x : Int32) : x.toInt64 = lz x.toInt := rfl
theorem iz_self (x : Int32) : iz x.toInt = x := Int32.ofInt_toInt x
theorem lz_self (x : Int64) : lz x.toInt = x := Int64.ofInt_toInt x
theorem l2i (z : Int) : (lz z).toInt32 = iz z := Int64.toInt32_ofInt
theorem lz_lt {x y : Int} (h1 : -9223372036854775808 ≤ x ∧ x < 9223372036854775808) (h2 : -9223372036854775808 ≤ y ∧ y < 9223372036854775808) : lz x < lz y ↔ x < y := by
  rw [Int64.lt_iff_toInt_lt, lz_to h1.1 h1.2, lz_to h2.1 h2.2]
theorem lz_inj {x y : Int} (h1 : -9223372036854775808 ≤ x ∧ x < 9223372036854775808) (h2 : -9223372036854775808 ≤ y ∧ y < 9223372036854775808) : lz x = lz y ↔ x = y := by
  rw [← Int64.toInt_inj, lz_to h1.1 h1.2, lz_to h2.1 h2.2]
theorem iz_inj {x y : Int} (h1 : -2147483648 ≤ x ∧ x < 2147483648) (h2 : -2147483648 ≤ y ∧ y < 2147483648) : iz x = iz y ↔ x = y := by
  rw [← Int32.toInt_inj, iz_to h1.1 h1.2, iz_to h2.1 h2.2]
theorem iz_lt {x y : Int} (h1 : -2147483648 ≤ x ∧ x < 2147483648) (h2 : -2147483648 ≤ y ∧ y < 2147483648) : iz x < iz y ↔ x < y := by
  rw [Int32.lt_iff_toInt_lt, iz_to h1.1 h1.2, iz_to h2.1 h2.2]
theorem iz_le {x y : Int} (h1 : -2147483648 ≤ x ∧ x < 2147483648) (h2 : -2147483648 ≤ y ∧ y < 2147483648) : iz x ≤ iz y ↔ x ≤ y := by
  rw [Int32.le_iff_toInt_le, iz_to h1.1 h1.2, iz_to h2.1 h2.2]
/-- the sign as the class and the reference tell it -/
def sgz (x : Int) : Int32 := if 0 < x then 1 else if x < 0 then -1 else 0
theorem lgc {x y : Int} (h1 : -9223372036854775808 ≤ x ∧ x < 9223372036854775808) (h2 : -9223372036854775808 ≤ y ∧ y < 9223372036854775808) : lg_cmp (lz x) (lz y) = sgz (x - y) := by
  unfold lg_cmp sgz
  have e1 : (lz x > lz y) ↔ (0 < x - y) := by rw [gt_iff_lt, lz_lt h2 h1]; omega
  have e2 : (lz x = lz y) ↔ x = y := lz_inj h1 h2
  by_cases c1 : 0 < x - y
  · rw [if_pos (e1.mpr c1), if_pos c1]
  · rw [if_neg (fun h => c1 (e1.mp h)), if_neg c1]
    by_cases c2 : x = y
    · rw [if_pos (e2.mpr c2), if_neg (by omega)]
    · rw [if_neg (fun h => c2 (e2.mp h)), if_pos (by omega)]
theorem sgz_pos {x : Int} (h : 0 < x) : sgz x = 1 := if_pos h
theorem sgz_neg {x : Int} (h : x < 0) : sgz x = -1 := by unfold sgz; rw [if_neg (by omega), if_pos h]
theorem sgz_zero {x : Int} (h : x = 0) : sgz x = 0 := by unfold sgz; rw [if_neg (by omega), if_neg (by omega)]
theorem sgz_lt0 {x : Int} : sgz x < 0 ↔ x < 0 := by
  rcases Int.lt_trichotomy x 0 with h | h | h
  · rw [sgz_neg h]; exact ⟨fun _ => h, fun _ => by decide⟩
  · rw [sgz_zero h]; exact ⟨fun q => absurd q (by decide), fun q => by omega⟩
  · rw [sgz_pos h]; exact ⟨fun q => absurd q (by decide), fun q => by omega⟩
theorem sgz_le0 {x : Int} : sgz x ≤ 0 ↔ x ≤ 0 := by
  rcases Int.lt_trichotomy x 0 with h | h | h
  · rw [sgz_neg h]; exact ⟨fun _ => by omega, fun _ => by decide⟩
  · rw [sgz_zero h]; exact ⟨fun q => by omega, fun q => by decide⟩
  · rw [sgz_pos h]; exact ⟨fun q => absurd q (by decide), fun q => by omega⟩
theorem sgz_ge0 {x : Int} : 0 ≤ sgz x ↔ 0 ≤ x := by
  rcases Int.lt_trichotomy x 0 with h | h | h
  · rw [sgz_neg h]; exact ⟨fun q => absurd q (by decide), fun q => by omega⟩
  · rw [sgz_zero h]; exact ⟨fun q => by omega, fun q => by decide⟩
  · rw [sgz_pos h]; exact ⟨fun q => by omega, fun q => by decide⟩
theorem sgz_gt0 {x : Int} : 0 < sgz x ↔ 0 < x := by
  rcases Int.lt_trichotomy x 0 with h | h | h
  · rw [sgz_neg h]; exact ⟨fun q => absurd q (by decide), fun q => by omega⟩
  · rw [sgz_zero h]; exact ⟨fun q => absurd q (by decide), fun q => by omega⟩
  · rw [sgz_pos h]; exact ⟨fun q => by omega, fun q => by decide⟩
theorem sgz_eq0 {x : Int} : sgz x = 0 ↔ x = 0 := by
  rcases Int.lt_trichotomy x 0 with h | h | h
  · rw [sgz_neg h]; exact ⟨fun q => absurd q (by decide), fun q => by omega⟩
  · rw [sgz_zero h]; exact ⟨fun q => by omega, fun q => by decide⟩
  · rw [sgz_pos h]; exact ⟨fun q => absurd q (by decide), fun q => by omega⟩
/-! the base -/
abbrev S0 : Int := 1267650600228229401496703205376
def isqb : Nat → Nat → Nat → Nat
  | 0, r, _ => r
  | k + 1, r, v => isqb k (if (r + 2 ^ k) * (r + 2 ^ k) ≤ v then r + 2 ^ k else r) v
abbrev Dd (a b : Int) : Int := a * a + 4 * b
def Rf (a b : Int) : Int := ((isqb 105 0 (Dd a b * (S0 * S0)).toNat : Nat) : Int)
def Kf (a b : Int) : Int := ((isqb 5 0 (Dd a b).toNat : Nat) : Int)
abbrev Vv (a R m n : Int) : Int := 2 * S0 * m + (a * S0 + R) * n
abbrev Vc (a R m n : Int) : Int := 2 * S0 * m + (a * S0 - R) * n
def chkP (a b R : Int) : Nat → Int → Int → Bool
  | 0, m, n => decide (12000000 * (2 * S0) < Vv a R m n)
  | k + 1, m, n => if Vv a R m n ≤ 12000000 * (2 * S0) then decide (0 < Vv a R m n ∧ Vv a R m n < Vv a R (n * b) (m + n * a) ∧ Vv a R (n * b) (m + n * a) < 10 * Vv a R m n ∧ -134217728 ≤ n * b ∧ n * b ≤ 134217728 ∧ -134217728 ≤ m + n * a ∧ m + n * a ≤ 134217728 ∧ -(2 * S0) ≤ Vc a R (n * b) (m + n * a) ∧ Vc a R (n * b) (m + n * a) ≤ 2 * S0) && chkP a b R k (n * b) (m + n * a) else true
abbrev BF (a b R k : Int) : Prop := R * R < Dd a b * (S0 * S0) ∧ Dd a b * (S0 * S0) < (R + 1) * (R + 1) ∧ 2 * S0 ≤ R ∧ R < 11 * S0 ∧ 3 * S0 ≤ a * S0 + R ∧ a * S0 + R + 1152921504606846976 < 20 * S0 ∧ -(2 * S0) + 1152921504606846976 < a * S0 - R ∧ a * S0 - R < 2 * S0 - 1152921504606846976 ∧ 0 ≤ k ∧ k * k < Dd a b ∧ Dd a b < (k + 1) * (k + 1) ∧ chkP a b R 40 1 0 = true
abbrev VB (a b : Int) : Prop := 1 ≤ a ∧ a ≤ 9 ∧ (1 ≤ b ∧ b ≤ a ∨ b ≤ -1 ∧ 2 - a ≤ b)
def bfB (a b R k : Int) : Bool := decide (R * R < Dd a b * (S0 * S0)) && (decide (Dd a b * (S0 * S0) < (R + 1) * (R + 1)) && (decide (2 * S0 ≤ R) && (decide (R < 11 * S0) && (decide (3 * S0 ≤ a * S0 + R) && (decide (a * S0 + R + 1152921504606846976 < 20 * S0) && (decide (-(2 * S0) + 1152921504606846976 < a * S0 - R) && (decide (a * S0 - R < 2 * S0 - 1152921504606846976) && (decide (0 ≤ k) && (decide (k * k < Dd a b) && (decide (Dd a b < (k + 1) * (k + 1)) && chkP a b R 40 1 0))))))))))
theorem bfB_ok {a b R k : Int} (h : bfB a b R k = true) : BF a b R k := by
  unfold bfB at h
  simp only [Bool.and_eq_true, decide_eq_true_eq] at h
  exact h
def vbB (a b : Int) : Bool := decide (1 ≤ a) && (decide (a ≤ 9) && ((decide (1 ≤ b) && decide (b ≤ a)) || (decide (b ≤ -1) && decide (2 - a ≤ b))))
theorem vbB_ok {a b : Int} (h : VB a b) : vbB a b = true := by
  unfold vbB
  simp only [Bool.and_eq_true, Bool.or_eq_true, decide_eq_true_eq]
  exact h
theorem base_key : ∀ i : Nat, i < 9 → ∀ j : Nat, j < 17 → (!(vbB ((i : Int) + 1) ((j : Int) - 7)) || bfB ((i : Int) + 1) ((j : Int) - 7) (Rf ((i : Int) + 1) ((j : Int) - 7)) (Kf ((i : Int) + 1) ((j : Int) - 7))) = true := by decide +kernel
theorem base_ok {a b : Int} (h : VB a b) : BF a b (Rf a b) (Kf a b) := by
  have h1 : (((a - 1).toNat : Nat) : Int) + 1 = a := by omega
  have h2 : (((b + 7).toNat : Nat) : Int) - 7 = b := by omega
  have := base_key (a - 1).toNat (by omega) (b + 7).toNat (by omega)
  rw [h1, h2, vbB_ok h] at this
  exact bfB_ok this
theorem lt_of_sq {x y : Int} (hy : 0 ≤ y) (h : x * x < y * y) : x < y := by
  apply Int.not_le.mp
  intro hle
  have := Int.mul_le_mul hle hle hy (Int.le_trans hy hle)
  omega
theorem irr {D k : Int} (hk0 : 0 ≤ k) (h1 : k * k < D) (h2 : D < (k + 1) * (k + 1)) : ∀ (q : Nat) (p : Int), 0 ≤ p → p * p = (q : Int) * q * D → q = 0 := by
  intro q
  induction q using Nat.strongRecOn with
  | ind q ih =>
    intro p hp he
    by_cases hq : q = 0
    · exact hq
    · exfalso
      have hq1 : (0 : Int) < q := by omega
      have hqq : (0 : Int) < (q : Int) * q := Int.mul_pos hq1 hq1
      have a1 : k * q < p := by
        apply lt_of_sq hp
        have := Int.mul_lt_mul_of_pos_right h1 hqq
        have e1 : k * (q : Int) * (k * q) = k * k * ((q : Int) * q) := by grind
        have e2 : D * ((q : Int) * q) = p * p := by grind
        omega
      have a2 : p < (k + 1) * q := by
        apply lt_of_sq (Int.mul_nonneg (by omega) (by omega))
        have := Int.mul_lt_mul_of_pos_right h2 hqq
        have e1 : (k + 1) * (q : Int) * ((k + 1) * q) = (k + 1) * (k + 1) * ((q : Int) * q) := by grind
        have e2 : D * ((q : Int) * q) = p * p := by grind
        omega
      have e3 : ((q : Int) * D - k * p) * (q * D - k * p) = (p - k * q) * (p - k * q) * D := by grind
      have a3 : 0 ≤ (q : Int) * D - k * p := by
        apply Int.not_lt.mp
        intro hneg
        have e4 : (q : Int) * (q * D - k * p) = p * (p - k * q) := by grind
        have b1 : 0 ≤ p * (p - k * q) := Int.mul_nonneg hp (by omega)
        have b2 : (q : Int) * (q * D - k * p) < 0 := Int.mul_neg_of_pos_of_neg hq1 hneg
        omega
      have a4 : (k + 1) * (q : Int) = k * q + q := by grind
      have := ih (p - k * q).toNat (by omega) (q * D - k * p) a3 (by rw [Int.toNat_of_nonneg (by omega)]; exact e3)
      omega
