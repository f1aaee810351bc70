def Pw (a b : Int) : Nat → Int × Int
  | 0 => (1, 0)
  | h + 1 => ((Pw a b h).2 * b, (Pw a b h).1 + (Pw a b h).2 * a)
abbrev vp (a b R : Int) (h : Nat) : Int := Vv a R (Pw a b h).1 (Pw a b h).2
abbrev XB : Int := 12000000 * (2 * S0)
theorem chk_step {a b R : Int} {k : Nat} {m n : Int} (h : chkP a b R (k + 1) m n = true) (hx : Vv a R m n ≤ XB) : (0 < Vv a R m n ∧ Vv a R m n < Vv a R (n * b) (m + n * a) ∧ Vv a R (n * b) (m + n * a) < 10 * Vv a R m n ∧ -134217728 ≤ n * b ∧ n * b ≤ 134217728 ∧ -134217728 ≤ m + n * a ∧ m + n * a ≤ 134217728 ∧ -(2 * S0) ≤ Vc a R (n * b) (m + n * a) ∧ Vc a R (n * b) (m + n * a) ≤ 2 * S0) ∧ chkP a b R k (n * b) (m + n * a) = true := by
  rw [chkP, if_pos hx, Bool.and_eq_true, decide_eq_true_eq] at h
  exact h
theorem chk_up {a b R : Int} (h0 : chkP a b R 40 1 0 = true) : ∀ j : Nat, (∀ i, i < j → vp a b R i ≤ XB) → j ≤ 40 → chkP a b R (40 - j) (Pw a b j).1 (Pw a b j).2 = true
  | 0, _, _ => h0
  | j + 1, hu, hj => by
    have ih := chk_up h0 j (fun i hi => hu i (by omega)) (by omega)
    have e : 40 - j = (40 - (j + 1)) + 1 := by omega
    rw [e] at ih
    exact (chk_step ih (hu j (by omega))).2
theorem pw_ok {a b R k : Int} (B : BF a b R k) (j : Nat) (hu : ∀ i, i ≤ j → vp a b R i ≤ XB) (hj : j ≤ 40) : j < 40 ∧ 0 < vp a b R j ∧ vp a b R j < vp a b R (j + 1) ∧ vp a b R (j + 1) < 10 * vp a b R j ∧ (-134217728 ≤ (Pw a b (j + 1)).1 ∧ (Pw a b (j + 1)).1 ≤ 134217728) ∧ (-134217728 ≤ (Pw a b (j + 1)).2 ∧ (Pw a b (j + 1)).2 ≤ 134217728) ∧ -(2 * S0) ≤ Vc a R (Pw a b (j + 1)).1 (Pw a b (j + 1)).2 ∧ Vc a R (Pw a b (j + 1)).1 (Pw a b (j + 1)).2 ≤ 2 * S0 := by
  have h := chk_up B.2.2.2.2.2.2.2.2.2.2.2 j (fun i hi => hu i (by omega)) hj
  have hlt : j < 40 := by
    rcases Nat.lt_or_ge j 40 with c | c
    · exact c
    · have e : j = 40 := by omega
      subst e
      have h2 : 12000000 * (2 * S0) < vp a b R 40 := of_decide_eq_true h
      exact absurd (hu 40 (Nat.le_refl _)) (by unfold XB; omega)
  have e : 40 - j = (40 - (j + 1)) + 1 := by omega
  rw [e] at h
  obtain ⟨⟨a1, a2, a3, a4, a5, a6, a7, a8, a9⟩, -⟩ := chk_step h (hu j (Nat.le_refl _))
  exact ⟨hlt, a1, a2, a3, ⟨a4, a5⟩, ⟨a6, a7⟩, a8, a9⟩
def hps (a b R v : Int) : Nat → Nat → Nat
  | 0, h => h
  | k + 1, h => if v < vp a b R (h + 1) then h else hps a b R v k (h + 1)
theorem hps_spec {a b R k v : Int} (B : BF a b R k) (hv : v ≤ XB) : ∀ (q h : Nat), h + q = 40 → (∀ i, i ≤ h → vp a b R i ≤ XB) → h ≤ hps a b R v q h ∧ hps a b R v q h < 40 ∧ v < vp a b R (hps a b R v q h + 1) ∧ (∀ j, h ≤ j → j < hps a b R v q h → vp a b R (j + 1) ≤ v)
  | 0, h, e, hu => by
    have := (pw_ok B h hu (by omega)).1
    omega
  | q + 1, h, e, hu => by
    unfold hps
    by_cases c : v < vp a b R (h + 1)
    · rw [if_pos c]
      exact ⟨Nat.le_refl _, by omega, c, fun j h1 h2 => by omega⟩
    · rw [if_neg c]
      have hu2 : ∀ i, i ≤ h + 1 → vp a b R i ≤ XB := by
        intro i hi
        rcases Nat.lt_or_ge i (h + 1) with d | d
        · exact hu i (by omega)
        · have : i = h + 1 := by omega
          subst this; omega
      obtain ⟨a1, a2, a3, a4⟩ := hps_spec B hv q (h + 1) (by omega) hu2
      refine ⟨by omega, a2, a3, fun j h1 h2 => ?_⟩
      rcases Nat.lt_or_ge h j with d | d
      · exact a4 j d h2
      · have : j = h := by omega
        subst this; omega
def hp (a b R M N : Int) : Nat := hps a b R (Vv a R M N) 40 0
theorem vp0 (a b R : Int) : vp a b R 0 = 2 * S0 := by unfold vp Pw; grind
theorem hp_spec {a b R k M N : Int} (B : BF a b R k) (hv : Vv a R M N ≤ XB) : hp a b R M N < 40 ∧ Vv a R M N < vp a b R (hp a b R M N + 1) ∧ (∀ j, j < hp a b R M N → vp a b R (j + 1) ≤ Vv a R M N) ∧ (∀ i, i ≤ hp a b R M N → vp a b R i ≤ XB) := by
  obtain ⟨-, a2, a3, a4⟩ := hps_spec B hv 40 0 (by omega) (fun i hi => by
    have : i = 0 := by omega
    subst this; rw [vp0]; decide)
  refine ⟨a2, a3, fun j hj => a4 j (Nat.zero_le _) hj, fun i hi => ?_⟩
  cases i with
  | zero => rw [vp0]; decide
  | succ i => exact Int.le_trans (a4 i (Nat.zero_le _) hi) hv
/-- what is small enough -/
abbrev Sm (a R M N : Int) : Prop := 0 ≤ Vv a R M N ∧ Vv a R M N ≤ XB ∧ -(2100000 * (2 * S0)) ≤ Vc a R M N ∧ Vc a R M N ≤ 2100000 * (2 * S0)
theorem Sm_bd {a b R k M N : Int} (B : BF a b R k) (h : Sm a R M N) : (-8388608 ≤ N ∧ N ≤ 8388608) ∧ -100000000 ≤ M ∧ M ≤ 100000000 := by
  obtain ⟨h1, h2, h3, h4⟩ := h
  obtain ⟨-, -, r3, r4, r5, r6, -, -, -⟩ := B
  have e : Vv a R M N - Vc a R M N = 2 * R * N := by grind
  have hXB : XB = 12000000 * (2 * S0) := rfl
  have hS : (0 : Int) < S0 := by decide
  have hN : -7050000 ≤ N ∧ N ≤ 7050000 := by
    constructor
    · apply Int.not_lt.mp
      intro c
      have h5 : 2 * R * (-N) ≥ 2 * R * 7050001 := Int.mul_le_mul_of_nonneg_left (by omega) (by omega)
      have h6 : 2 * R * (-N) = -(2 * R * N) := by grind
      omega
    · apply Int.not_lt.mp
      intro c
      have h5 : 2 * R * N ≥ 2 * R * 7050001 := Int.mul_le_mul_of_nonneg_left (by omega) (by omega)
      omega
  have e2 : Vv a R M N = 2 * S0 * M + (a * S0 + R) * N := rfl
  have hT : (a * S0 + R) * N ≤ 20 * S0 * 7050000 ∧ -(20 * S0 * 7050000) ≤ (a * S0 + R) * N := by
    generalize a * S0 + R = T at *
    rcases Int.lt_or_le N 0 with c | c
    · have h5 : T * (-N) ≤ 20 * S0 * 7050000 := Int.mul_le_mul (by omega) (by omega) (by omega) (by omega)
      have h6 : 0 ≤ T * (-N) := Int.mul_nonneg (by omega) (by omega)
      have h7 : T * (-N) = -(T * N) := by grind
      omega
    · have h5 : T * N ≤ 20 * S0 * 7050000 := Int.mul_le_mul (by omega) (by omega) (by omega) (by omega)
      have h6 : 0 ≤ T * N := Int.mul_nonneg (by omega) (by omega)
      omega
  refine ⟨by omega, ?_, ?_⟩
  · apply Int.not_lt.mp
    intro c
    have h5 : 2 * S0 * (-M) ≥ 2 * S0 * 100000001 := Int.mul_le_mul_of_nonneg_left (by omega) (by omega)
    have h6 : 2 * S0 * (-M) = -(2 * S0 * M) := by grind
    omega
  · apply Int.not_lt.mp
    intro c
    have h5 : 2 * S0 * M ≥ 2 * S0 * 100000001 := Int.mul_le_mul_of_nonneg_left (by omega) (by omega)
    omega
