theorem isqb_spec : ∀ (k r v : Nat), r * r ≤ v → v < (r + 2 ^ k) * (r + 2 ^ k) → isqb k r v * isqb k r v ≤ v ∧ v < (isqb k r v + 1) * (isqb k r v + 1)
  | 0, r, v, h1, h2 => ⟨h1, h2⟩
  | k + 1, r, v, h1, h2 => by
    unfold isqb
    by_cases c : (r + 2 ^ k) * (r + 2 ^ k) ≤ v
    · rw [if_pos c]
      refine isqb_spec k (r + 2 ^ k) v c ?_
      have : r + 2 ^ k + 2 ^ k = r + 2 ^ (k + 1) := by rw [Nat.pow_succ]; omega
      rw [this]; exact h2
    · rw [if_neg c]
      exact isqb_spec k r v h1 (by omega)
theorem isqb_le : ∀ (k r v : Nat), isqb k r v + 1 ≤ r + 2 ^ k
  | 0, r, v => by simp [isqb]
  | k + 1, r, v => by
    unfold isqb
    have e : 2 ^ (k + 1) = 2 ^ k + 2 ^ k := by rw [Nat.pow_succ]; omega
    by_cases c : (r + 2 ^ k) * (r + 2 ^ k) ≤ v
    · rw [if_pos c]; have := isqb_le k (r + 2 ^ k) v; omega
    · rw [if_neg c]; have := isqb_le k r v; have : 0 < 2 ^ k := Nat.pow_pos (by decide); omega
theorem shr1 : ∀ k : Nat, k < 31 → (lz ((2 ^ k : Nat) : Int)) >>> ((1 : Int32).toInt64 &&& 63) = lz ((2 ^ k / 2 : Nat) : Int) := by decide +kernel
theorem shl1 : ∀ k : Nat, k < 31 → (1 : Int64) <<< ((nI k).toInt64 &&& 63) = lz ((2 ^ k : Nat) : Int) := by decide +kernel
theorem lg_le0 {x y : Int} (h1 : -9223372036854775808 ≤ x ∧ x < 9223372036854775808) (h2 : -9223372036854775808 ≤ y ∧ y < 9223372036854775808) : lg_cmp (lz x) (lz y) ≤ 0 ↔ x ≤ y := by
  rw [lgc h1 h2, sgz_le0]; omega
theorem lg_gt0 {x y : Int} (h1 : -9223372036854775808 ≤ x ∧ x < 9223372036854775808) (h2 : -9223372036854775808 ≤ y ∧ y < 9223372036854775808) : 0 < lg_cmp (lz x) (lz y) ↔ y < x := by
  rw [lgc h1 h2, sgz_gt0]; omega
theorem lg_lt0 {x y : Int} (h1 : -9223372036854775808 ≤ x ∧ x < 9223372036854775808) (h2 : -9223372036854775808 ≤ y ∧ y < 9223372036854775808) : lg_cmp (lz x) (lz y) < 0 ↔ x < y := by
  rw [lgc h1 h2, sgz_lt0]; omega
theorem lg_ge0 {x y : Int} (h1 : -9223372036854775808 ≤ x ∧ x < 9223372036854775808) (h2 : -9223372036854775808 ≤ y ∧ y < 9223372036854775808) : 0 ≤ lg_cmp (lz x) (lz y) ↔ y ≤ x := by
  rw [lgc h1 h2, sgz_ge0]; omega
theorem lg_eq0 {x y : Int} (h1 : -9223372036854775808 ≤ x ∧ x < 9223372036854775808) (h2 : -9223372036854775808 ≤ y ∧ y < 9223372036854775808) : lg_cmp (lz x) (lz y) = 0 ↔ x = y := by
  rw [lgc h1 h2, sgz_eq0]; omega
theorem pw_bd {k : Nat} (h : k < 31) : 2 ^ k ≤ 1073741824 ∧ 0 < 2 ^ k := ⟨by have := Nat.pow_le_pow_right (n := 2) (by decide) (show k ≤ 30 by omega); omega, Nat.pow_pos (by decide)⟩
theorem tr_sq {r k : Nat} (hr : r + 2 ^ (k + 1) ≤ 2147483648) : (r + 2 ^ k) * (r + 2 ^ k) < 4611686018427387904 := by
  have e : 2 ^ (k + 1) = 2 ^ k + 2 ^ k := by rw [Nat.pow_succ]; omega
  have : 0 < 2 ^ k := Nat.pow_pos (by decide)
  have h : r + 2 ^ k ≤ 2147483647 := by omega
  have := Nat.mul_le_mul h h
  omega
theorem root_c {v : Nat} (hv : v < 4611686018427387904) : ∀ (k r fu : Nat), k < 31 → r + 2 ^ (k + 1) ≤ 2147483648 → k + 2 ≤ fu → F_X0_squareRoot_7 (lz (v : Int)) fu (lz (r : Int)) (lz ((2 ^ k : Nat) : Int)) = some (lz ((isqb (k + 1) r v : Nat) : Int))
  | k, r, 0, hk, hr, hf => by omega
  | k, r, fu + 1, hk, hr, hf => by
    rw [F_X0_squareRoot_7]
    have hp := pw_bd hk
    have hs := tr_sq hr
    rw [if_neg (fun q => by rw [l0, lg_le0 (by omega) (by decide)] at q; omega), lz_add, lz_mul]
    have e1 : ((r : Int) + ((2 ^ k : Nat) : Int)) * ((r : Int) + ((2 ^ k : Nat) : Int)) = (((r + 2 ^ k) * (r + 2 ^ k) : Nat) : Int) := by rw [Int.natCast_mul, Int.natCast_add]
    rw [e1, shr1 k hk]
    have e2 : (r : Int) + ((2 ^ k : Nat) : Int) = ((r + 2 ^ k : Nat) : Int) := by rw [Int.natCast_add]
    have key : ∀ r' : Nat, r' + 2 ^ k ≤ 2147483648 → F_X0_squareRoot_7 (lz (v : Int)) fu (lz (r' : Int)) (lz ((2 ^ k / 2 : Nat) : Int)) = some (lz ((isqb k r' v : Nat) : Int)) := by
      intro r' hr'
      cases k with
      | zero =>
        obtain ⟨fu, rfl⟩ : ∃ z, fu = z + 1 := ⟨fu - 1, by omega⟩
        rw [F_X0_squareRoot_7]
        exact if_pos (by rw [l0, lg_le0 (by decide) (by decide)]; decide)
      | succ k =>
        have e3 : 2 ^ (k + 1) / 2 = 2 ^ k := by rw [Nat.pow_succ]; omega
        rw [e3]
        exact root_c hv k r' fu (by omega) hr' (by omega)
    have e5 : 2 ^ (k + 1) = 2 ^ k + 2 ^ k := by rw [Nat.pow_succ]; omega
    by_cases c : (r + 2 ^ k) * (r + 2 ^ k) ≤ v
    · rw [if_neg (fun q => by rw [lg_gt0 (by omega) (by omega)] at q; omega), e2, key _ (by omega)]
      conv => rhs; unfold isqb
      rw [if_pos c]
    · rw [if_pos (by rw [lg_gt0 (by omega) (by omega)]; omega), key _ (by omega)]
      conv => rhs; unfold isqb
      rw [if_neg c]
theorem root_m {v : Nat} (hv : v < 4611686018427387904) : ∀ (k r fu : Nat), k < 31 → r + 2 ^ (k + 1) ≤ 2147483648 → k + 2 ≤ fu → F_X7_rootOf_6 (lz (v : Int)) fu (lz (r : Int)) (nI k) = some (lz ((isqb (k + 1) r v : Nat) : Int))
  | k, r, 0, hk, hr, hf => by omega
  | k, r, fu + 1, hk, hr, hf => by
    rw [F_X7_rootOf_6]
    have hp := pw_bd hk
    have hs := tr_sq hr
    rw [if_neg (nI_pos (by omega)), shl1 k hk, lz_add, lz_mul]
    have e1 : ((r : Int) + ((2 ^ k : Nat) : Int)) * ((r : Int) + ((2 ^ k : Nat) : Int)) = (((r + 2 ^ k) * (r + 2 ^ k) : Nat) : Int) := by rw [Int.natCast_mul, Int.natCast_add]
    have e2 : (r : Int) + ((2 ^ k : Nat) : Int) = ((r + 2 ^ k : Nat) : Int) := by rw [Int.natCast_add]
    rw [e1]
    have key : ∀ r' : Nat, r' + 2 ^ k ≤ 2147483648 → F_X7_rootOf_6 (lz (v : Int)) fu (lz (r' : Int)) (nI k + (-1 : Int32)) = some (lz ((isqb k r' v : Nat) : Int)) := by
      intro r' hr'
      cases k with
      | zero =>
        obtain ⟨fu, rfl⟩ : ∃ z, fu = z + 1 := ⟨fu - 1, by omega⟩
        rw [F_X7_rootOf_6]
        exact if_pos (by decide)
      | succ k =>
        rw [pk_m1]
        exact root_m hv k r' fu (by omega) hr' (by omega)
    have e5 : 2 ^ (k + 1) = 2 ^ k + 2 ^ k := by rw [Nat.pow_succ]; omega
    by_cases c : (r + 2 ^ k) * (r + 2 ^ k) ≤ v
    · rw [if_neg (fun q => by rw [lg_gt0 (by omega) (by omega)] at q; omega), e2, key _ (by omega)]
      conv => rhs; unfold isqb
      rw [if_pos c]
    · rw [if_pos (by rw [lg_gt0 (by omega) (by omega)]; omega), key _ (by omega)]
      conv => rhs; unfold isqb
      rw [if_neg c]
/-- the root, cut -/
def rt (v : Nat) : Nat := isqb 31 0 v
theorem rt_spec {v : Nat} (hv : v < 4611686018427387904) : rt v * rt v ≤ v ∧ v < (rt v + 1) * (rt v + 1) := isqb_spec 31 0 v (Nat.zero_le v) (by omega)
theorem rt_lt (v : Nat) : rt v < 2147483648 := by have := isqb_le 31 0 v; unfold rt; omega
theorem rootC {v : Nat} (hv : v < 4611686018427387904) : F_X0_squareRoot (lz (v : Int)) = some (lz ((rt v : Nat) : Int)) := root_c hv 30 0 128 (by omega) (by omega) (by omega)
theorem rootM {v : Nat} (hv : v < 4611686018427387904) : F_X7_rootOf (lz (v : Int)) = some (lz ((rt v : Nat) : Int)) := root_m hv 30 0 128 (by omega) (by omega) (by omega)
theorem lgz_lt {x : Int} (h : -9223372036854775808 ≤ x ∧ x < 9223372036854775808) : lg_cmp (lz x) (0 : Int64) < 0 ↔ x < 0 := by rw [l0]; exact lg_lt0 (y := 0) h (by decide)
theorem lgz_le {x : Int} (h : -9223372036854775808 ≤ x ∧ x < 9223372036854775808) : lg_cmp (lz x) (0 : Int64) ≤ 0 ↔ x ≤ 0 := by rw [l0]; exact lg_le0 (y := 0) h (by decide)
theorem lgz_ge {x : Int} (h : -9223372036854775808 ≤ x ∧ x < 9223372036854775808) : 0 ≤ lg_cmp (lz x) (0 : Int64) ↔ 0 ≤ x := by rw [l0]; exact lg_ge0 (y := 0) h (by decide)
theorem lgz_eq {x : Int} (h : -9223372036854775808 ≤ x ∧ x < 9223372036854775808) : lg_cmp (lz x) (0 : Int64) = 0 ↔ x = 0 := by rw [l0]; exact lg_eq0 (y := 0) h (by decide)
theorem lzz_pos {x : Int} (h : -9223372036854775808 ≤ x ∧ x < 9223372036854775808) : (0 : Int64) < lz x ↔ 0 < x := by rw [l0]; exact lz_lt (x := 0) (by decide) h
