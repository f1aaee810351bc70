theorem V_sub (a R M N t m n : Int) : Vv a R (M - t * m) (N - t * n) = Vv a R M N - t * Vv a R m n := by grind
theorem Vc_sub (a R M N t m n : Int) : Vc a R (M - t * m) (N - t * n) = Vc a R M N - t * Vc a R m n := by grind
theorem V_one (a R M N t : Int) : Vv a R (M - t) N = Vv a R M N - t * (2 * S0) := by grind
theorem Vc_one (a R M N t : Int) : Vc a R (M - t) N = Vc a R M N - t * (2 * S0) := by grind
/-- the numbers of a shelf are small -/
theorem Sm_in {a b R k M N : Int} (hV : VB a b) (B : BF a b R k) (hM : -999999 ≤ M ∧ M ≤ 999999) (hN : -999999 ≤ N ∧ N ≤ 999999) : Vv a R M N ≤ 11000000 * (2 * S0) ∧ -(2000000 * (2 * S0)) ≤ Vc a R M N ∧ Vc a R M N ≤ 2000000 * (2 * S0) := by
  obtain ⟨-, -, r3, r4, r5, r6, r7, r8, -⟩ := B
  have hS : (0 : Int) < S0 := by decide
  have e1 : Vv a R M N = 2 * S0 * M + (a * S0 + R) * N := rfl
  have e2 : Vc a R M N = 2 * S0 * M + (a * S0 - R) * N := rfl
  have m1 : 2 * S0 * M ≤ 2 * S0 * 999999 := Int.mul_le_mul_of_nonneg_left (by omega) (by omega)
  have m2 : 2 * S0 * (-M) ≤ 2 * S0 * 999999 := Int.mul_le_mul_of_nonneg_left (by omega) (by omega)
  have m3 : 2 * S0 * (-M) = -(2 * S0 * M) := by grind
  have t1 : (a * S0 + R) * N ≤ 20 * S0 * 999999 := by
    generalize a * S0 + R = T at *
    rcases Int.lt_or_le N 0 with c | c
    · have h6 : 0 ≤ T * (-N) := Int.mul_nonneg (by omega) (by omega)
      have h7 : T * (-N) = -(T * N) := by grind
      omega
    · exact Int.mul_le_mul (by omega) (by omega) (by omega) (by omega)
  have t2 : (a * S0 - R) * N ≤ 2 * S0 * 999999 ∧ -(2 * S0 * 999999) ≤ (a * S0 - R) * N := by
    generalize a * S0 - R = U at *
    have s1 := sq_bd (x := N) (K := 999999) hN
    rcases Int.lt_or_le N 0 with c | c <;> rcases Int.lt_or_le U 0 with d | d
    · have h5 : -U * -N ≤ 2 * S0 * 999999 := Int.mul_le_mul (by omega) (by omega) (by omega) (by omega)
      have h6 : 0 ≤ -U * -N := Int.mul_nonneg (by omega) (by omega)
      have h7 : -U * -N = U * N := by grind
      omega
    · have h5 : U * -N ≤ 2 * S0 * 999999 := Int.mul_le_mul (by omega) (by omega) (by omega) (by omega)
      have h6 : 0 ≤ U * -N := Int.mul_nonneg (by omega) (by omega)
      have h7 : U * -N = -(U * N) := by grind
      omega
    · have h5 : -U * N ≤ 2 * S0 * 999999 := Int.mul_le_mul (by omega) (by omega) (by omega) (by omega)
      have h6 : 0 ≤ -U * N := Int.mul_nonneg (by omega) (by omega)
      have h7 : -U * N = -(U * N) := by grind
      omega
    · have h5 : U * N ≤ 2 * S0 * 999999 := Int.mul_le_mul (by omega) (by omega) (by omega) (by omega)
      have h6 : 0 ≤ U * N := Int.mul_nonneg (by omega) (by omega)
      omega
  omega
/-- what is left ahead of the figure j from the left -/
def lf (a b R M N : Int) (h : Nat) : Nat → Int × Int
  | 0 => (M, N)
  | j + 1 => ((lf a b R M N h j).1 - (Vv a R (lf a b R M N h j).1 (lf a b R M N h j).2 / vp a b R (h - j)) * (Pw a b (h - j)).1, (lf a b R M N h j).2 - (Vv a R (lf a b R M N h j).1 (lf a b R M N h j).2 / vp a b R (h - j)) * (Pw a b (h - j)).2)
abbrev Vl (a b R M N : Int) (h j : Nat) : Int := Vv a R (lf a b R M N h j).1 (lf a b R M N h j).2
abbrev dg (a b R M N : Int) (h j : Nat) : Int := Vl a b R M N h j / vp a b R (h - j)
theorem lf_ok {a b R k M N : Int} (hV : VB a b) (B : BF a b R k) (hM : -999999 ≤ M ∧ M ≤ 999999) (hN : -999999 ≤ N ∧ N ≤ 999999) (h0 : 0 ≤ Vv a R M N) {h : Nat} (hh : h = hp a b R M N) : ∀ j, j ≤ h + 1 → (0 ≤ Vl a b R M N h j ∧ Vl a b R M N h j < vp a b R (h + 1 - j)) ∧ (-((2000000 + 9 * (j : Int)) * (2 * S0)) ≤ Vc a R (lf a b R M N h j).1 (lf a b R M N h j).2 ∧ Vc a R (lf a b R M N h j).1 (lf a b R M N h j).2 ≤ (2000000 + 9 * (j : Int)) * (2 * S0)) ∧ (0 < j → Vl a b R M N h j ≤ Vv a R M N)
  | 0, _ => by
    have s := Sm_in hV B hM hN
    have p := hp_spec (M := M) (N := N) B (by unfold XB; omega)
    refine ⟨⟨h0, by rw [hh]; exact p.2.1⟩, ?_, fun q => by omega⟩
    have e0 : Vc a R (lf a b R M N h 0).1 (lf a b R M N h 0).2 = Vc a R M N := rfl
    rw [e0]
    omega
  | j + 1, hj => by
    obtain ⟨⟨i1, i2⟩, ⟨i3, i4⟩, i5⟩ := lf_ok hV B hM hN h0 hh j (by omega)
    have s := Sm_in hV B hM hN
    have p := hp_spec (M := M) (N := N) B (by unfold XB; omega)
    rw [← hh] at p
    have hS : (0 : Int) < S0 := by decide
    obtain ⟨q1, q2, q3, q4, q5, q6, q7⟩ := pw_ok B (h - j) (fun i hi => p.2.2.2 i (by omega)) (by omega)
    have e1 : h + 1 - j = h - j + 1 := by omega
    have e2 : h + 1 - (j + 1) = h - j := by omega
    rw [e1] at i2
    rw [e2]
    have c0 : -(2 * S0) ≤ Vc a R (Pw a b (h - j)).1 (Pw a b (h - j)).2 ∧ Vc a R (Pw a b (h - j)).1 (Pw a b (h - j)).2 ≤ 2 * S0 := by
      cases hz : h - j with
      | zero =>
        have : Vc a R (Pw a b 0).1 (Pw a b 0).2 = 2 * S0 := by unfold Pw; grind
        omega
      | succ z => exact (pw_ok B z (fun i hi => p.2.2.2 i (by omega)) (by omega)).2.2.2.2.2.2
    have dnn : 0 ≤ dg a b R M N h j := Int.ediv_nonneg i1 (by omega)
    have dle : dg a b R M N h j < 10 := Int.ediv_lt_of_lt_mul q2 (by omega)
    have hdm := Int.mul_ediv_add_emod (Vl a b R M N h j) (vp a b R (h - j))
    have hm1 := Int.emod_nonneg (Vl a b R M N h j) (show vp a b R (h - j) ≠ 0 by omega)
    have hm2 := Int.emod_lt_of_pos (Vl a b R M N h j) q2
    have ev : Vl a b R M N h (j + 1) = Vl a b R M N h j - dg a b R M N h j * vp a b R (h - j) := by
      show Vv a R _ _ = _
      unfold lf
      exact V_sub _ _ _ _ _ _ _
    have ec : Vc a R (lf a b R M N h (j + 1)).1 (lf a b R M N h (j + 1)).2 = Vc a R (lf a b R M N h j).1 (lf a b R M N h j).2 - dg a b R M N h j * Vc a R (Pw a b (h - j)).1 (Pw a b (h - j)).2 := by
      conv => lhs; unfold lf
      exact Vc_sub _ _ _ _ _ _ _
    rw [ev, ec]
    have e5 : vp a b R (h - j) * (Vl a b R M N h j / vp a b R (h - j)) = dg a b R M N h j * vp a b R (h - j) := Int.mul_comm _ _
    rw [e5] at hdm
    have hc : -(9 * (2 * S0)) ≤ dg a b R M N h j * Vc a R (Pw a b (h - j)).1 (Pw a b (h - j)).2 ∧ dg a b R M N h j * Vc a R (Pw a b (h - j)).1 (Pw a b (h - j)).2 ≤ 9 * (2 * S0) := by
      generalize Vc a R (Pw a b (h - j)).1 (Pw a b (h - j)).2 = c at *
      generalize dg a b R M N h j = d at *
      rcases Int.lt_or_le c 0 with x | x
      · have h5 : d * -c ≤ 9 * (2 * S0) := Int.mul_le_mul (by omega) (by omega) (by omega) (by omega)
        have h6 : 0 ≤ d * -c := Int.mul_nonneg (by omega) (by omega)
        have h7 : d * -c = -(d * c) := by grind
        omega
      · have h5 : d * c ≤ 9 * (2 * S0) := Int.mul_le_mul (by omega) (by omega) (by omega) (by omega)
        have h6 : 0 ≤ d * c := Int.mul_nonneg (by omega) (by omega)
        omega
    have hdv : 0 ≤ dg a b R M N h j * vp a b R (h - j) := Int.mul_nonneg dnn (by omega)
    have e6 : (2000000 + 9 * ((j + 1 : Nat) : Int)) * (2 * S0) = (2000000 + 9 * (j : Int)) * (2 * S0) + 9 * (2 * S0) := by
      have : ((j + 1 : Nat) : Int) = (j : Int) + 1 := by omega
      rw [this]; grind
    rw [e6]
    refine ⟨⟨by omega, by omega⟩, by omega, fun _ => ?_⟩
    rcases Nat.eq_zero_or_pos j with z | z
    · subst z
      have : Vl a b R M N h 0 = Vv a R M N := rfl
      omega
    · have := i5 z; omega
