theorem ldiv2 {x : Int} (h1 : -4611686018427387904 ≤ x ∧ x ≤ 4611686018427387904) : lz x / (2 : Int64) = lz (x.tdiv 2) :=
  (Int64.ofInt_tdiv (a := x) (b := 2) (by have : Int64.minValue.toInt = -9223372036854775808 := by decide
                                          omega) (by have : Int64.maxValue.toInt = 9223372036854775807 := by decide
                                                     omega) (by decide) (by decide)).symm
theorem td2 (x : Int) : x.tdiv 2 = if 0 ≤ x then x / 2 else -((-x) / 2) := by
  by_cases c : 0 ≤ x
  · rw [if_pos c, Int.tdiv_eq_ediv_of_nonneg c]
  · rw [if_neg c]
    have := Int.neg_tdiv (-x) 2
    rw [Int.neg_neg] at this
    rw [this, Int.tdiv_eq_ediv_of_nonneg (by omega)]
theorem halfD {x : Int} (h1 : -4611686018427387904 ≤ x ∧ x ≤ 4611686018427387904) : F_X7_halfDown (lz x) = lz (x / 2) := by
  unfold F_X7_halfDown
  rw [ldiv2 h1, l0, l2, l1, lz_mul, lz_sub, lz_sub, td2]
  by_cases c : 0 ≤ x
  · rw [if_pos ((lg_ge0 (by omega) (by decide)).mpr c), if_pos c]
  · rw [if_neg (fun q => c ((lg_ge0 (by omega) (by decide)).mp q)), if_neg c]
    by_cases d : x - -((-x) / 2) * 2 = 0
    · rw [if_pos ((lg_eq0 (by omega) (by decide)).mpr d)]; congr 1; omega
    · rw [if_neg (fun q => d ((lg_eq0 (by omega) (by decide)).mp q))]; congr 1; omega
theorem ediv_is {v q s : Int} (hs : 0 < s) (h1 : q * s ≤ v) (h2 : v < q * s + s) : v / s = q := by
  have e : v = (v - q * s) + q * s := by omega
  rw [e, Int.add_mul_ediv_right _ _ (by omega), Int.ediv_eq_zero_of_lt (by omega) (by omega)]; omega
/-- the greatest whole number that isn't above -/
theorem whole_core {a b R k m n c q : Int} (hV : VB a b) (B : BF a b R k) (hm : -134217728 ≤ m ∧ m ≤ 134217728) (hn : -8388608 ≤ n ∧ n ≤ 8388608) (hc : 0 ≤ c) (h1 : c * c ≤ n * n * Dd a b) (h2 : n * n * Dd a b < (c + 1) * (c + 1))
    (hq : q = (2 * m + n * a + (if n < 0 then -c - 1 else c)) / 2) : Vv a R m n / (2 * S0) = q := by
  have ha := hV.1
  have ha2 := hV.2.1
  have hna : -75497472 ≤ n * a ∧ n * a ≤ 75497472 := by
    rcases Int.lt_or_le n 0 with c | c
    · have h1 : 0 ≤ -n * a := Int.mul_nonneg (by omega) (by omega)
      have h2 : -n * a ≤ 8388608 * 9 := Int.mul_le_mul (by omega) ha2 (by omega) (by decide)
      have e : -n * a = -(n * a) := Int.neg_mul n a
      omega
    · have h1 : 0 ≤ n * a := Int.mul_nonneg c (by omega)
      have h2 : n * a ≤ 8388608 * 9 := Int.mul_le_mul (by omega) ha2 (by omega) (by decide)
      omega
  have hc2 : c < 92274689 := by
    apply lt_of_sq (by decide)
    have := (sgn_bd hV (m := 0) (by decide) (n := n) (by omega)).2.2.2
    have h3 := sq_bd (K := 8388608) hn
    have h4 := Int.mul_le_mul h3.2 this.2 (by omega) (by decide)
    omega
  have lin : ∀ j : Int, Vv a R (m - j) n = Vv a R m n - j * (2 * S0) := by intro j; grind
  have hS : (0 : Int) < 2 * S0 := by decide
  have up : 0 ≤ Vv a R (m - q) n ∧ Vv a R (m - (q + 1)) n < 0 := by
    have c1 := sign_core B (m := m - q) (n := n) (by split at hq <;> omega) (by omega) ⟨ha, ha2⟩
    have c2 := sign_core B (m := m - (q + 1)) (n := n) (by split at hq <;> omega) (by omega) ⟨ha, ha2⟩
    generalize hD : n * n * Dd a b = nd at *
    rcases Int.lt_trichotomy n 0 with hn0 | hn0 | hn0
    · rw [if_pos hn0] at hq
      have k1 := c1.2.1 hn0
      have k2 := c1.2.2.1 (by omega)
      have k3 := c2.2.1 hn0
      have k4 := c2.2.2.2 (by omega)
      generalize hp : 2 * (m - q) + n * a = p at *
      have hp2 : 2 * (m - (q + 1)) + n * a = p - 2 := by omega
      rw [hp2] at k3 k4
      constructor
      · have hpc : c + 1 ≤ p := by omega
        have := Int.mul_le_mul hpc hpc (by omega) (by omega)
        have : ¬ Vv a R (m - q) n < 0 := fun z => by rcases k1.mp z with r | r <;> omega
        omega
      · rw [k3]
        rcases Int.lt_or_le 0 (p - 2) with d | d
        · right
          have hpc : p - 2 ≤ c := by omega
          have := Int.mul_le_mul hpc hpc (by omega) (by omega)
          omega
        · exact Or.inl d
    · subst hn0
      rw [if_neg (by decide)] at hq
      have : nd = 0 := by rw [← hD]; grind
      have hc0 : c = 0 := by
        rcases Int.lt_or_le 0 c with d | d
        · have := Int.mul_pos d d; omega
        · omega
      have hqm : q = m := by rw [hq, hc0]; omega
      rw [hqm]
      constructor
      · have : Vv a R (m - m) 0 = 0 := by grind
        omega
      · have : Vv a R (m - (m + 1)) 0 = -(2 * S0) := by grind
        omega
    · rw [if_neg (by omega)] at hq
      have k1 := c1.1 hn0
      have k2 := c1.2.2.2 (by omega)
      have k3 := c2.1 hn0
      have k4 := c2.2.2.1 (by omega)
      generalize hp : 2 * (m - q) + n * a = p at *
      have hp2 : 2 * (m - (q + 1)) + n * a = p - 2 := by omega
      rw [hp2] at k3
      constructor
      · have : 0 < Vv a R (m - q) n := by
          rw [k1]
          rcases Int.lt_or_le p 0 with d | d
          · right
            have hpc : -p ≤ c := by omega
            have := Int.mul_le_mul hpc hpc (by omega) (by omega)
            have e : -p * -p = p * p := by grind
            omega
          · exact Or.inl d
        omega
      · have hpc : c + 1 ≤ -(p - 2) := by omega
        have := Int.mul_le_mul hpc hpc (by omega) (by omega)
        have e : -(p - 2) * -(p - 2) = (p - 2) * (p - 2) := by grind
        have : ¬ 0 < Vv a R (m - (q + 1)) n := fun z => by rcases k3.mp z with r | r <;> omega
        omega
  rw [lin, lin] at up
  have e1 : (q + 1) * (2 * S0) = q * (2 * S0) + 2 * S0 := by grind
  rw [e1] at up
  exact ediv_is hS (by omega) (by omega)
theorem nnD {A B : Int32} {n : Int} (hV : VB A.toInt B.toInt) (hn : -8388608 ≤ n ∧ n ≤ 8388608) : ∃ v : Nat, v < 4611686018427387904 ∧ n * n * Dd A.toInt B.toInt = (v : Int) := by
  have := (sgn_bd hV (m := 0) (by decide) (n := n) (by omega)).2.2.2
  have h3 := sq_bd (K := 8388608) hn
  have h4 := Int.mul_le_mul h3.2 this.2 (by omega) (by decide)
  have h5 := Int.mul_nonneg h3.1 (show 0 ≤ Dd A.toInt B.toInt by omega)
  exact ⟨(n * n * Dd A.toInt B.toInt).toNat, by omega, by omega⟩
theorem whole_m {w : Nat → Int32} {m n : Int} (hV : VB (w 0).toInt (w 1).toInt) (hm : -134217728 ≤ m ∧ m ≤ 134217728) (hn : -8388608 ≤ n ∧ n ≤ 8388608) : F_X7_wholeOf (lz m) (lz n) w = some (lz (VV (w 0) (w 1) m n / (2 * S0))) := by
  have e0 : (0 : Int32).toNatClampNeg = 0 := rfl
  have e1 : (1 : Int32).toNatClampNeg = 1 := rfl
  unfold F_X7_wholeOf F_X7_inside
  obtain ⟨v, hv, ev⟩ := nnD hV hn
  have hb := base_ok hV
  have hs := rt_spec hv
  have hbd := sgn_bd hV (m := m) (by omega) (n := n) (by omega)
  have eD : (w 0).toInt * (w 0).toInt + 4 * (w 1).toInt = Dd (w 0).toInt (w 1).toInt := rfl
  have hl := rt_lt v
  have key : ∀ c : Int, c = (rt v : Int) → VV (w 0) (w 1) m n / (2 * S0) = (2 * m + n * (w 0).toInt + (if n < 0 then -c - 1 else c)) / 2 := by
    intro c hc
    refine whole_core hV hb hm hn (c := c) (by omega) ?_ ?_ rfl
    · rw [ev, hc]; have := hs.1; exact_mod_cast this
    · rw [ev, hc]; have := hs.2; exact_mod_cast this
  simp only [e0, e1, l4, i2l, lz_mul, lz_add]
  rw [eD, ev, rootM hv]
  show (if lg_cmp (lz n) 0 < 0 then F_X7_wholeOf_29 (lz m) (lz n) w (-lz (rt v : Int) - 1) else F_X7_wholeOf_29 (lz m) (lz n) w (lz (rt v : Int))) = _
  rw [key _ rfl]
  unfold F_X7_wholeOf_29
  simp only [e0, l2, l1, i2l, lz_mul, lz_add, lz_neg, lz_sub]
  by_cases c : n < 0
  · rw [if_pos ((lgz_lt (by omega)).mpr c), if_pos c, halfD (by omega)]
  · rw [if_neg (fun q => c ((lgz_lt (by omega)).mp q)), if_neg c, halfD (by omega)]
theorem whole_c {A B : Int32} {m n : Int} (hV : VB A.toInt B.toInt) (hm : -134217728 ≤ m ∧ m ≤ 134217728) (hn : -8388608 ≤ n ∧ n ≤ 8388608) : F_X0_wholePart (lz m) (lz n) A B = some (lz (VV A B m n / (2 * S0))) := by
  unfold F_X0_wholePart F_X0_rootsApartSquared
  obtain ⟨v, hv, ev⟩ := nnD hV hn
  have hb := base_ok hV
  have hs := rt_spec hv
  have hbd := sgn_bd hV (m := m) (by omega) (n := n) (by omega)
  have eD : A.toInt * A.toInt + 4 * B.toInt = Dd A.toInt B.toInt := rfl
  have hl := rt_lt v
  have key : ∀ c : Int, c = (rt v : Int) → VV A B m n / (2 * S0) = (2 * m + n * A.toInt + (if n < 0 then -c - 1 else c)) / 2 := by
    intro c hc
    refine whole_core hV hb hm hn (c := c) (by omega) ?_ ?_ rfl
    · rw [ev, hc]; have := hs.1; exact_mod_cast this
    · rw [ev, hc]; have := hs.2; exact_mod_cast this
  have hab : ∃ z : Int, (if (0 : Int64) < lz n then lz n else -lz n) = lz z ∧ z * z = n * n ∧ z = if n < 0 then -n else n := by
    by_cases c : 0 < n
    · exact ⟨n, if_pos ((lzz_pos (by omega)).mpr c), rfl, by rw [if_neg (by omega)]⟩
    · refine ⟨-n, by rw [if_neg (fun q => c ((lzz_pos (by omega)).mp q)), lz_neg], by grind, ?_⟩
      by_cases d : n < 0
      · rw [if_pos d]
      · rw [if_neg d]; omega
  obtain ⟨z, hz1, hz2, hz3⟩ := hab
  rw [hz1]
  simp only [l4, i2l, lz_mul, lz_add]
  rw [eD, hz2, ev, rootC hv]
  have ha := hV.1
  have ha2 := hV.2.1
  have hza : 0 ≤ z * A.toInt ∧ z * A.toInt ≤ 75497472 := by
    have hz0 : 0 ≤ z ∧ z ≤ 8388608 := by split at hz3 <;> omega
    have := Int.mul_le_mul hz0.2 ha2 (by omega) (by decide)
    exact ⟨Int.mul_nonneg hz0.1 (by omega), by omega⟩
  show (if lg_cmp (lz n) 0 < 0 then some (lz m - (lz (z * A.toInt) + lz (rt v : Int)) / 2 - 1) else some (lz m + (lz (z * A.toInt) + lz (rt v : Int)) / 2)) = _
  rw [lz_add, ldiv2 (by omega), td2, if_pos (show 0 ≤ z * A.toInt + (rt v : Int) by omega), key _ rfl, l1, lz_sub, lz_sub, lz_add]
  by_cases c : n < 0
  · rw [if_pos ((lgz_lt (by omega)).mpr c), if_pos c]
    rw [if_pos c] at hz3
    have : z * A.toInt = -(n * A.toInt) := by rw [hz3, Int.neg_mul]
    congr 2; omega
  · rw [if_neg (fun q => c ((lgz_lt (by omega)).mp q)), if_neg c]
    rw [if_neg c] at hz3
    rw [hz3]
    congr 2; omega
