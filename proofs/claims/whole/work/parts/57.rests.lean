/-- what stands apart from nothing does so by far -/
theorem gap {a b R k m n : Int} (hV : VB a b) (B : BF a b R k) (hm : -268435456 ≤ m ∧ m ≤ 268435456) (hn : -268435456 ≤ n ∧ n < 0) (hv : 0 ≤ Vv a R m n) : 1152921504606846976 ≤ Vv a R m n := by
  have core := sign_core B hm (n := n) (by omega) ⟨hV.1, hV.2.1⟩
  have bd := sgn_bd hV hm (n := n) (by omega)
  have k1 := core.2.1 hn.2
  have k2 := core.2.2.2 (by omega)
  have hs := V_split a R m n
  obtain ⟨r1, r2, r3, r4, -⟩ := B
  generalize hp : 2 * m + n * a = p at *
  generalize hD : Dd a b = D at *
  have hp0 : 0 < p ∧ n * n * D + 1 ≤ p * p := by
    have : ¬ (p ≤ 0 ∨ p * p < n * n * D) := fun z => by have := k1.mpr z; omega
    omega
  have hS : (0 : Int) < S0 := by decide
  apply Int.not_lt.mp
  intro c
  have e1 : (p * S0 + n * R) * (p * S0 - n * R) = p * p * (S0 * S0) - n * n * (R * R) := by grind
  have nn : 0 ≤ n * n := (sq_bd (K := 268435456) (x := n) (by omega)).1
  have f1 : n * n * (R * R) ≤ n * n * (D * (S0 * S0)) := Int.mul_le_mul_of_nonneg_left (by omega) nn
  have f2 : (n * n * D + 1) * (S0 * S0) ≤ p * p * (S0 * S0) := Int.mul_le_mul_of_nonneg_right hp0.2 (by decide)
  have e2 : (n * n * D + 1) * (S0 * S0) = n * n * (D * (S0 * S0)) + S0 * S0 := by grind
  have u1 : p * S0 ≤ 2952790016 * S0 := Int.mul_le_mul_of_nonneg_right (by omega) (by omega)
  have u2 : -n * R ≤ 268435456 * (11 * S0) := Int.mul_le_mul (by omega) (by omega) (by omega) (by decide)
  have u3 : -n * R = -(n * R) := Int.neg_mul n R
  have u4 : 0 ≤ -n * R := Int.mul_nonneg (by omega) (by omega)
  have u5 : 0 < p * S0 := Int.mul_pos hp0.1 hS
  have g1 : (p * S0 + n * R) * (p * S0 - n * R) ≤ 1152921504606846976 * (6000000000 * S0) := Int.mul_le_mul (by omega) (by omega) (by omega) (by decide)
  have g2 : (1152921504606846976 : Int) * (6000000000 * S0) < S0 * S0 := by decide
  omega
theorem E_bd {a b R k : Int} (B : BF a b R k) : 0 < Dd a b * (S0 * S0) - R * R ∧ Dd a b * (S0 * S0) - R * R < 2 * R + 1 := by
  obtain ⟨r1, r2, -⟩ := B
  have : (R + 1) * (R + 1) = R * R + 2 * R + 1 := by grind
  omega
theorem V_up (a b R m n : Int) : 2 * S0 * Vv a R (n * b) (m + n * a) = (a * S0 + R) * Vv a R m n + n * (Dd a b * (S0 * S0) - R * R) := by unfold Dd; grind
theorem Vc_up (a b R m n : Int) : 2 * S0 * Vc a R (n * b) (m + n * a) = (a * S0 - R) * Vc a R m n + n * (Dd a b * (S0 * S0) - R * R) := by unfold Dd; grind
theorem up_ok {a b R k m n : Int} (hV : VB a b) (B : BF a b R k) (hm : -268435456 ≤ m ∧ m ≤ 268435456) (hn : -8388608 ≤ n ∧ n ≤ 8388608) (h0 : 0 ≤ Vv a R m n) (h1 : Vv a R m n < 2 * S0) : 0 ≤ Vv a R (n * b) (m + n * a) ∧ Vv a R (n * b) (m + n * a) < 10 * (2 * S0) := by
  have hE := E_bd B
  have hu := V_up a b R m n
  have hg := gap hV B hm (n := n)
  obtain ⟨-, -, r3, r4, r5, r6, -⟩ := B
  generalize Dd a b * (S0 * S0) - R * R = E at *
  generalize Vv a R (n * b) (m + n * a) = y at *
  generalize hx : Vv a R m n = x at *
  generalize a * S0 + R = T at *
  have hS : (0 : Int) < S0 := by decide
  have hE2 : E ≤ 22 * S0 := by omega
  constructor
  · apply Int.not_lt.mp
    intro c
    have c1 : 2 * S0 * y < 0 := Int.mul_neg_of_pos_of_neg (by omega) c
    rcases Int.lt_or_le n 0 with d | d
    · have g1 := hg ⟨by omega, d⟩ h0
      have g2 : 3 * S0 * 1152921504606846976 ≤ T * x := Int.mul_le_mul r5 g1 (by decide) (by omega)
      have g3 : -n * E ≤ 8388608 * (22 * S0) := Int.mul_le_mul (by omega) hE2 (by omega) (by decide)
      have g4 : -n * E = -(n * E) := Int.neg_mul n E
      omega
    · have g2 : 0 ≤ T * x := Int.mul_nonneg (by omega) h0
      have g3 : 0 ≤ n * E := Int.mul_nonneg d (by omega)
      omega
  · apply Int.not_le.mp
    intro c
    have c1 : 2 * S0 * (10 * (2 * S0)) ≤ 2 * S0 * y := Int.mul_le_mul_of_nonneg_left c (by omega)
    have g2 : T * x ≤ (20 * S0 - 1152921504606846976) * (2 * S0) := Int.mul_le_mul (by omega) (by omega) h0 (by decide)
    have g3 : n * E ≤ 8388608 * (22 * S0) := by
      rcases Int.lt_or_le n 0 with d | d
      · have : 0 ≤ -n * E := Int.mul_nonneg (by omega) (by omega)
        have g4 : -n * E = -(n * E) := Int.neg_mul n E
        have : (0 : Int) ≤ 8388608 * (22 * S0) := by decide
        omega
      · exact Int.mul_le_mul (by omega) hE2 (by omega) (by decide)
    have g5 : (20 * S0 - 1152921504606846976) * (2 * S0) + 8388608 * (22 * S0) < 2 * S0 * (10 * (2 * S0)) := by decide
    omega
theorem upc_ok {a b R k m n K : Int} (B : BF a b R k) (hn : -8388608 ≤ n ∧ n ≤ 8388608) (hK : 0 ≤ K) (h0 : -(K * (2 * S0)) ≤ Vc a R m n ∧ Vc a R m n ≤ K * (2 * S0)) : -((K + 1) * (2 * S0)) ≤ Vc a R (n * b) (m + n * a) ∧ Vc a R (n * b) (m + n * a) ≤ (K + 1) * (2 * S0) := by
  have hE := E_bd B
  have hu := Vc_up a b R m n
  obtain ⟨-, -, r3, r4, -, -, r7, r8, -⟩ := B
  generalize Dd a b * (S0 * S0) - R * R = E at *
  generalize Vc a R (n * b) (m + n * a) = y at *
  generalize hx : Vc a R m n = x at *
  generalize a * S0 - R = U at *
  have hS : (0 : Int) < S0 := by decide
  have hE2 : E ≤ 22 * S0 := by omega
  have hK2 : 0 ≤ K * (2 * S0) := Int.mul_nonneg hK (by omega)
  have g3 : -(8388608 * (22 * S0)) ≤ n * E ∧ n * E ≤ 8388608 * (22 * S0) := by
    rcases Int.lt_or_le n 0 with d | d
    · have h5 : 0 ≤ -n * E := Int.mul_nonneg (by omega) (by omega)
      have h6 : -n * E ≤ 8388608 * (22 * S0) := Int.mul_le_mul (by omega) hE2 (by omega) (by decide)
      have g4 : -n * E = -(n * E) := Int.neg_mul n E
      omega
    · have h5 : 0 ≤ n * E := Int.mul_nonneg (by omega) (by omega)
      have h6 : n * E ≤ 8388608 * (22 * S0) := Int.mul_le_mul (by omega) hE2 (by omega) (by decide)
      omega
  have g1 : -(2 * S0 * (K * (2 * S0))) ≤ U * x ∧ U * x ≤ 2 * S0 * (K * (2 * S0)) := by
    generalize K * (2 * S0) = K2 at *
    rcases Int.lt_or_le U 0 with d | d <;> rcases Int.lt_or_le x 0 with f | f
    · have h5 : 0 ≤ -U * -x := Int.mul_nonneg (by omega) (by omega)
      have h6 : -U * -x ≤ 2 * S0 * K2 := Int.mul_le_mul (by omega) (by omega) (by omega) (by omega)
      have h7 : -U * -x = U * x := by grind
      omega
    · have h5 : 0 ≤ -U * x := Int.mul_nonneg (by omega) (by omega)
      have h6 : -U * x ≤ 2 * S0 * K2 := Int.mul_le_mul (by omega) (by omega) (by omega) (by omega)
      have h7 : -U * x = -(U * x) := by grind
      omega
    · have h5 : 0 ≤ U * -x := Int.mul_nonneg (by omega) (by omega)
      have h6 : U * -x ≤ 2 * S0 * K2 := Int.mul_le_mul (by omega) (by omega) (by omega) (by omega)
      have h7 : U * -x = -(U * x) := by grind
      omega
    · have h5 : 0 ≤ U * x := Int.mul_nonneg (by omega) (by omega)
      have h6 : U * x ≤ 2 * S0 * K2 := Int.mul_le_mul (by omega) (by omega) (by omega) (by omega)
      omega
  have e1 : (K + 1) * (2 * S0) = K * (2 * S0) + 2 * S0 := by grind
  rw [e1]
  have g5 : 8388608 * (22 * S0) < 2 * S0 * (2 * S0) := by decide
  generalize K * (2 * S0) = K2 at *
  constructor
  · apply Int.not_lt.mp
    intro c
    have c1 : 2 * S0 * y < 2 * S0 * (-(K2 + 2 * S0)) := Int.mul_lt_mul_of_pos_left c (by omega)
    have c2 : 2 * S0 * (-(K2 + 2 * S0)) = -(2 * S0 * K2) - 2 * S0 * (2 * S0) := by grind
    omega
  · apply Int.not_lt.mp
    intro c
    have c1 : 2 * S0 * (K2 + 2 * S0) < 2 * S0 * y := Int.mul_lt_mul_of_pos_left c (by omega)
    have c2 : 2 * S0 * (K2 + 2 * S0) = 2 * S0 * K2 + 2 * S0 * (2 * S0) := by grind
    omega
/-- the rests behind the point -/
def rsU (a b R : Int) (x : Int × Int) : Int × Int := (x.2 * b - Vv a R (x.2 * b) (x.1 + x.2 * a) / (2 * S0), x.1 + x.2 * a)
def rs (a b R : Int) (x : Int × Int) : Nat → Int × Int
  | 0 => x
  | j + 1 => rsU a b R (rs a b R x j)
/-- the figure behind the point -/
abbrev fg (a b R : Int) (x : Int × Int) (j : Nat) : Int := Vv a R ((rs a b R x j).2 * b) ((rs a b R x j).1 + (rs a b R x j).2 * a) / (2 * S0)
abbrev RsI (a R : Int) (x : Int × Int) (K : Int) : Prop := 0 ≤ Vv a R x.1 x.2 ∧ Vv a R x.1 x.2 < 2 * S0 ∧ -(K * (2 * S0)) ≤ Vc a R x.1 x.2 ∧ Vc a R x.1 x.2 ≤ K * (2 * S0)
theorem RsI_bd {a b R k K : Int} {x : Int × Int} (B : BF a b R k) (h : RsI a R x K) (hK : K ≤ 2100000) : (-8388608 ≤ x.2 ∧ x.2 ≤ 8388608) ∧ -100000000 ≤ x.1 ∧ x.1 ≤ 100000000 := by
  obtain ⟨h1, h2, h3, h4⟩ := h
  have hS : (0 : Int) < S0 := by decide
  have hk : K * (2 * S0) ≤ 2100000 * (2 * S0) := Int.mul_le_mul_of_nonneg_right hK (by omega)
  exact Sm_bd B ⟨h1, by unfold XB; omega, by omega, by omega⟩
theorem rsU_ok {a b R k K : Int} {x : Int × Int} (hV : VB a b) (B : BF a b R k) (h : RsI a R x K) (hK : 0 ≤ K ∧ K ≤ 2100000) : RsI a R (rsU a b R x) (K + 10) ∧ (0 ≤ Vv a R (x.2 * b) (x.1 + x.2 * a) ∧ Vv a R (x.2 * b) (x.1 + x.2 * a) < 10 * (2 * S0)) := by
  have bd := RsI_bd B h hK.2
  have hS : (0 : Int) < 2 * S0 := by decide
  have u1 := up_ok hV B (m := x.1) (n := x.2) (by omega) bd.1 h.1 h.2.1
  have u2 := upc_ok B (m := x.1) (n := x.2) bd.1 hK.1 ⟨h.2.2.1, h.2.2.2⟩
  refine ⟨?_, u1⟩
  have e1 : Vv a R (rsU a b R x).1 (rsU a b R x).2 = Vv a R (x.2 * b) (x.1 + x.2 * a) - (Vv a R (x.2 * b) (x.1 + x.2 * a) / (2 * S0)) * (2 * S0) := V_one _ _ _ _ _
  have e2 : Vc a R (rsU a b R x).1 (rsU a b R x).2 = Vc a R (x.2 * b) (x.1 + x.2 * a) - (Vv a R (x.2 * b) (x.1 + x.2 * a) / (2 * S0)) * (2 * S0) := Vc_one _ _ _ _ _
  unfold RsI
  rw [e1, e2]
  generalize Vv a R (x.2 * b) (x.1 + x.2 * a) = y at *
  have hdm := Int.mul_ediv_add_emod y (2 * S0)
  have hm1 := Int.emod_nonneg y (show 2 * S0 ≠ 0 by decide)
  have hm2 := Int.emod_lt_of_pos y hS
  have dnn : 0 ≤ y / (2 * S0) := Int.ediv_nonneg u1.1 (by omega)
  have dle : y / (2 * S0) < 10 := Int.ediv_lt_of_lt_mul hS u1.2
  have hd1 : 0 ≤ y / (2 * S0) * (2 * S0) := Int.mul_nonneg dnn (by omega)
  have hd2 : y / (2 * S0) * (2 * S0) ≤ 9 * (2 * S0) := Int.mul_le_mul_of_nonneg_right (by omega) (by omega)
  have e3 : 2 * S0 * (y / (2 * S0)) = y / (2 * S0) * (2 * S0) := Int.mul_comm _ _
  have e4 : (K + 10) * (2 * S0) = (K + 1) * (2 * S0) + 9 * (2 * S0) := by grind
  rw [e3] at hdm
  rw [e4]
  refine ⟨by omega, by omega, by omega, by omega⟩
theorem rs_ok {a b R k K : Int} {x : Int × Int} (hV : VB a b) (B : BF a b R k) (h : RsI a R x K) (hK : 0 ≤ K ∧ K ≤ 2099000) : ∀ j : Nat, j ≤ 50 → RsI a R (rs a b R x j) (K + 10 * (j : Int))
  | 0, _ => by
    have e : K + 10 * ((0 : Nat) : Int) = K := by omega
    rw [e]; exact h
  | j + 1, hj => by
    have := (rsU_ok hV B (rs_ok hV B h hK j (by omega)) (by omega)).1
    have e : K + 10 * ((j + 1 : Nat) : Int) = K + 10 * (j : Int) + 10 := by omega
    rw [e]; exact this
