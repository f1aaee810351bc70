abbrev VV (A B : Int32) (m n : Int) : Int := Vv A.toInt (Rf A.toInt B.toInt) m n
theorem l0 : (0 : Int64) = lz 0 := rfl
theorem l1 : (1 : Int64) = lz 1 := rfl
theorem l2 : (2 : Int64) = lz 2 := rfl
theorem l4 : (4 : Int64) = lz 4 := rfl
theorem cmpJ {x : Int} (h : -9223372036854775808 ≤ x ∧ x < 9223372036854775808) : F_J13_compare_74951 (lz x) (0 : Int64) = sgz x := by
  unfold F_J13_compare_74951
  rw [l0, lgc h (by decide), Int.sub_zero]
  rcases Int.lt_trichotomy x 0 with h | h | h
  · rw [if_neg (fun q => by have := sgz_ge0.mp q; omega), sgz_neg h]
  · rw [if_pos (sgz_ge0.mpr (by omega)), if_pos (sgz_eq0.mpr h), sgz_zero h]
  · rw [if_pos (sgz_ge0.mpr (by omega)), if_neg (fun q => by have := sgz_eq0.mp q; omega), sgz_pos h]
theorem sOne {x : Int} (h : -9223372036854775808 ≤ x ∧ x < 9223372036854775808) : F_X7_signOne (lz x) = sgz x := by
  unfold F_X7_signOne
  rw [l0, lgc h (by decide), Int.sub_zero]
  rcases Int.lt_trichotomy x 0 with h | h | h
  · rw [if_pos (sgz_le0.mpr (by omega)), if_neg (fun q => by have := sgz_ge0.mp q; omega), sgz_neg h]
  · rw [if_pos (sgz_le0.mpr (by omega)), if_pos (sgz_ge0.mpr (by omega)), sgz_zero h]
  · rw [if_neg (fun q => by have := sgz_le0.mp q; omega), sgz_pos h]
theorem sq_bd {x K : Int} (h : -K ≤ x ∧ x ≤ K) : 0 ≤ x * x ∧ x * x ≤ K * K := by
  rcases Int.lt_or_le x 0 with c | c
  · have e : x * x = -x * -x := by grind
    rw [e]
    exact ⟨Int.mul_nonneg (by omega) (by omega), Int.mul_le_mul (by omega) (by omega) (by omega) (by omega)⟩
  · exact ⟨Int.mul_nonneg c c, Int.mul_le_mul (by omega) (by omega) (by omega) (by omega)⟩
/-- the numbers of a sign are small -/
theorem sgn_bd {a b m n : Int} (hV : VB a b) (hm : -268435456 ≤ m ∧ m ≤ 268435456) (hn : -268435456 ≤ n ∧ n ≤ 268435456) :
    (-2952790016 ≤ 2 * m + n * a ∧ 2 * m + n * a ≤ 2952790016) ∧ (0 ≤ (2 * m + n * a) * (2 * m + n * a) ∧ (2 * m + n * a) * (2 * m + n * a) ≤ 8718968878589280256) ∧ (0 ≤ n * n * Dd a b ∧ n * n * Dd a b ≤ 8430738502437568512) ∧ 5 ≤ Dd a b ∧ Dd a b ≤ 117 := by
  obtain ⟨a1, a2, hb⟩ := hV
  have hna : -2415919104 ≤ n * a ∧ n * a ≤ 2415919104 := by
    rcases Int.lt_or_le n 0 with c | c
    · have h1 : 0 ≤ -n * a := Int.mul_nonneg (by omega) (by omega)
      have h2 : -n * a ≤ 268435456 * 9 := Int.mul_le_mul (by omega) a2 (by omega) (by decide)
      have e : -n * a = -(n * a) := Int.neg_mul n a
      omega
    · have h1 : 0 ≤ n * a := Int.mul_nonneg c (by omega)
      have h2 : n * a ≤ 268435456 * 9 := Int.mul_le_mul (by omega) a2 (by omega) (by decide)
      omega
  have hp : -2952790016 ≤ 2 * m + n * a ∧ 2 * m + n * a ≤ 2952790016 := by omega
  have hD : 5 ≤ Dd a b ∧ Dd a b ≤ 117 := by
    unfold Dd
    have : a = 1 ∨ a = 2 ∨ a = 3 ∨ a = 4 ∨ a = 5 ∨ a = 6 ∨ a = 7 ∨ a = 8 ∨ a = 9 := by omega
    rcases this with rfl | rfl | rfl | rfl | rfl | rfl | rfl | rfl | rfl <;> omega
  have hnn := sq_bd (K := 268435456) hn
  have hpp := sq_bd (K := 2952790016) hp
  refine ⟨hp, by omega, ⟨Int.mul_nonneg hnn.1 (by omega), ?_⟩, hD⟩
  have := Int.mul_le_mul hnn.2 hD.2 (by omega) (by decide)
  omega
theorem sign_c {A B : Int32} {m n : Int} (hV : VB A.toInt B.toInt) (hm : -268435456 ≤ m ∧ m ≤ 268435456) (hn : -268435456 ≤ n ∧ n ≤ 268435456) : F_X0_sign (lz m) (lz n) A B = sgz (VV A B m n) := by
  have bd := sgn_bd hV hm hn
  have core := sign_core (base_ok hV) hm hn ⟨hV.1, hV.2.1⟩
  have hs := V_split A.toInt (Rf A.toInt B.toInt) m n
  unfold F_X0_sign F_X0_rootsApartSquared
  simp only [l2, l4, i2l, lz_mul, lz_add]
  unfold VV
  rw [cmpJ (by omega), cmpJ (by omega), lgc (by omega) (by unfold Dd at bd; omega)]
  have eD : A.toInt * A.toInt + 4 * B.toInt = Dd A.toInt B.toInt := rfl
  rw [eD]
  generalize 2 * m + n * A.toInt = p at *
  generalize Dd A.toInt B.toInt = D at *
  generalize hpq : p * p = pp at *
  generalize n * n * D = nd at *
  generalize hv : Vv A.toInt (Rf A.toInt B.toInt) m n = v at *
  rcases Int.lt_trichotomy n 0 with c | c | c
  · have k1 := core.2.1 c
    have k2 := core.2.2.1 (by omega)
    have k3 := core.2.2.2 (by omega)
    rw [sgz_neg c, if_neg (by decide)]
    rcases Int.lt_trichotomy p 0 with d | d | d
    · rw [sgz_neg d, if_pos rfl, sgz_neg (k1.mpr (Or.inl (by omega)))]
    · rw [sgz_zero d, if_neg (by decide)]
      have hpp : pp = 0 := by rw [← hpq, d]; rfl
      rw [if_pos (sgz_le0.mpr (by omega)), sgz_neg (k1.mpr (Or.inl (by omega)))]
    · rw [sgz_pos d, if_neg (by decide)]
      by_cases f : pp - nd ≤ 0
      · rw [if_pos (sgz_le0.mpr f), sgz_neg (k1.mpr (Or.inr (by omega)))]
      · rw [if_neg (fun q => f (sgz_le0.mp q))]
        have : ¬ v < 0 := fun q => by rcases k1.mp q with r | r <;> omega
        rw [sgz_pos (by omega)]
  · subst c
    rw [sgz_zero rfl, if_pos rfl]
    have : v = p * S0 := by rw [hs]; grind
    rw [this]
    rcases Int.lt_trichotomy p 0 with d | d | d
    · rw [sgz_neg d, sgz_neg (Int.mul_neg_of_neg_of_pos d (by decide))]
    · rw [sgz_zero d, d, Int.zero_mul, sgz_zero rfl]
    · rw [sgz_pos d, sgz_pos (Int.mul_pos d (by decide))]
  · have k1 := core.1 c
    have k2 := core.2.2.1 (by omega)
    have k3 := core.2.2.2 (by omega)
    rw [sgz_pos c, if_neg (by decide)]
    rcases Int.lt_trichotomy p 0 with d | d | d
    · rw [sgz_neg d, if_neg (by decide)]
      by_cases f : pp - nd ≤ 0
      · rw [if_pos (sgz_le0.mpr f), sgz_pos (k1.mpr (Or.inr (by omega)))]
      · rw [if_neg (fun q => f (sgz_le0.mp q))]
        have : ¬ 0 < v := fun q => by rcases k1.mp q with r | r <;> omega
        rw [sgz_neg (by omega)]
    · rw [sgz_zero d, if_neg (by decide)]
      have hpp : pp = 0 := by rw [← hpq, d]; rfl
      rw [if_pos (sgz_le0.mpr (by omega)), sgz_pos (k1.mpr (Or.inl (by omega)))]
    · rw [sgz_pos d, if_pos rfl, sgz_pos (k1.mpr (Or.inl (by omega)))]
theorem sign_m {w : Nat → Int32} {m n : Int} (hV : VB (w 0).toInt (w 1).toInt) (hm : -268435456 ≤ m ∧ m ≤ 268435456) (hn : -268435456 ≤ n ∧ n ≤ 268435456) : F_X7_signOf (lz m) (lz n) w = sgz (VV (w 0) (w 1) m n) := by
  have e0 : (0 : Int32).toNatClampNeg = 0 := rfl
  have e1 : (1 : Int32).toNatClampNeg = 1 := rfl
  unfold F_X7_signOf F_X7_inside
  rw [e0, e1]
  generalize w 0 = A at *
  generalize w 1 = B at *
  have bd := sgn_bd hV hm hn
  have core := sign_core (base_ok hV) hm hn ⟨hV.1, hV.2.1⟩
  have hs := V_split A.toInt (Rf A.toInt B.toInt) m n
  simp only [l2, l4, i2l, lz_mul, lz_add]
  unfold VV
  rw [sOne (by omega), sOne (by omega), lgc (by unfold Dd at bd; omega) (by omega), l0, lgc (by omega) (by decide), Int.sub_zero, if_pos trivial, if_neg (show ¬ ((1 : Int32) = 0) by decide)]
  have eD : A.toInt * A.toInt + 4 * B.toInt = Dd A.toInt B.toInt := rfl
  rw [eD]
  generalize 2 * m + n * A.toInt = p at *
  generalize Dd A.toInt B.toInt = D at *
  generalize hpq : p * p = pp at *
  generalize n * n * D = nd at *
  generalize hv : Vv A.toInt (Rf A.toInt B.toInt) m n = v at *
  rcases Int.lt_trichotomy n 0 with c | c | c
  · have k1 := core.2.1 c
    have k2 := core.2.2.1 (by omega)
    have k3 := core.2.2.2 (by omega)
    rw [sgz_neg c]
    rcases Int.lt_trichotomy p 0 with d | d | d
    · rw [sgz_neg d, if_neg (by decide), if_neg (by decide), sgz_neg (k1.mpr (Or.inl (by omega)))]
    · rw [sgz_zero d, if_neg (by decide), if_neg (by decide), sgz_neg (k1.mpr (Or.inl (by omega)))]
    · rw [sgz_pos d, if_pos (by decide)]
      by_cases f : nd - pp ≤ 0
      · rw [if_pos (sgz_le0.mpr f)]
        have : ¬ v < 0 := fun q => by rcases k1.mp q with r | r <;> omega
        rw [sgz_pos (by omega)]
      · rw [if_neg (fun q => f (sgz_le0.mp q)), sgz_neg (k1.mpr (Or.inr (by omega)))]
  · subst c
    have : v = p * S0 := by rw [hs]; grind
    rw [this, sgz_zero (x := 0) rfl]
    rcases Int.lt_trichotomy p 0 with d | d | d
    · rw [sgz_neg d, if_neg (by decide), if_pos rfl, sgz_neg (Int.mul_neg_of_neg_of_pos d (by decide))]
    · rw [sgz_zero d, if_neg (by decide), if_pos rfl, d, Int.zero_mul, sgz_zero rfl]
    · rw [sgz_pos d, if_neg (by decide), if_pos rfl, sgz_pos (Int.mul_pos d (by decide))]
  · have k1 := core.1 c
    have k2 := core.2.2.1 (by omega)
    have k3 := core.2.2.2 (by omega)
    rw [sgz_pos c]
    rcases Int.lt_trichotomy p 0 with d | d | d
    · rw [sgz_neg d, if_pos (by decide)]
      by_cases f : nd - pp ≤ 0
      · rw [if_pos (sgz_le0.mpr f)]
        have : ¬ 0 < v := fun q => by rcases k1.mp q with r | r <;> omega
        rw [sgz_neg (by omega)]
      · rw [if_neg (fun q => f (sgz_le0.mp q)), sgz_pos (k1.mpr (Or.inr (by omega)))]
    · rw [sgz_zero d, if_neg (by decide), if_neg (by decide), sgz_pos (k1.mpr (Or.inl (by omega)))]
    · rw [sgz_pos d, if_neg (by decide), if_neg (by decide), sgz_pos (k1.mpr (Or.inl (by omega)))]
