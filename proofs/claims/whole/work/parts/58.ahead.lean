theorem V_diff (a R M N m n : Int) : Vv a R (M - m) (N - n) = Vv a R M N - Vv a R m n := by grind
theorem sgC {A B : Int32} {m n : Int} (hV : VB A.toInt B.toInt) (hm : -268435456 ≤ m ∧ m ≤ 268435456) (hn : -268435456 ≤ n ∧ n ≤ 268435456) : F_X0_sign (lz m) (lz n) A B = sgz (Vv A.toInt (Rf A.toInt B.toInt) m n) := sign_c hV hm hn
theorem rzM (x : Int) (B : Int32) : F_X0_raisedM (lz x) B = lz (x * B.toInt) := by unfold F_X0_raisedM; rw [i2l, lz_mul]
theorem rzN (x y : Int) (A : Int32) : F_X0_raisedN (lz x) (lz y) A = lz (x + y * A.toInt) := by unfold F_X0_raisedN; rw [i2l, lz_mul, lz_add]
theorem nI_cl {n : Nat} (h : n < 2147483648) : (nI n).toNatClampNeg = n := nI_clamp (by omega)
theorem nI_is {n : Nat} : nI n = iz (n : Int) := Int32.ofInt_eq_ofNat.symm
theorem inr_t {n N : Nat} {α : Type} {k : Option α} (h : n < N) (hN : N < 2147483648) : ck (nI n) N k = k := ck_t (vp_in_nI h (by omega))
theorem nI_i1 (n : Nat) : nI n + (1 : Int32) = nI (n + 1) := nI_1 n
/-- the highest place, as the class finds it -/
theorem hpC {A B : Int32} {M N : Int} (hV : VB A.toInt B.toInt) (hM : -999999 ≤ M ∧ M ≤ 999999) (hN : -999999 ≤ N ∧ N ≤ 999999) {H : Nat} (hH : H = hp A.toInt B.toInt (Rf A.toInt B.toInt) M N) : ∀ (d h fu : Nat) (pM pN : Nat → Int64), h + d = H → d + 1 ≤ fu → (∀ i, i ≤ h → pM i = lz (Pw A.toInt B.toInt i).1 ∧ pN i = lz (Pw A.toInt B.toInt i).2) →
    ∃ pM' pN' : Nat → Int64, F_X5_highestPlace_16 (lz M) (lz N) A B fu (nI h) pM pN = some (nI H, pM', pN') ∧ ∀ i, i ≤ H → pM' i = lz (Pw A.toInt B.toInt i).1 ∧ pN' i = lz (Pw A.toInt B.toInt i).2 := by
  have Bk := base_ok hV
  have s := Sm_in hV Bk hM hN
  have p := hp_spec (M := M) (N := N) Bk (by unfold XB; omega)
  rw [← hH] at p
  intro d
  induction d with
  | zero =>
    intro h fu pM pN e hf hp0
    obtain ⟨fu, rfl⟩ : ∃ z, fu = z + 1 := ⟨fu - 1, by omega⟩
    have e2 : h = H := by omega
    subst e2
    refine ⟨pM, pN, ?_, hp0⟩
    obtain ⟨q1, q2, q3, q4, q5, q6, -⟩ := pw_ok Bk h (fun i hi => p.2.2.2 i (by omega)) (by omega)
    rw [F_X5_highestPlace_16, if_neg (by rw [show (60 : Int32) = nI 60 from rfl, nI_leI (by omega) (by omega)]; omega), inr_t (by omega) (by omega), nI_cl (by omega), (hp0 h (Nat.le_refl _)).1, (hp0 h (Nat.le_refl _)).2, rzM, rzN, lz_sub, lz_sub]
    have q5' : -134217728 ≤ (Pw A.toInt B.toInt h).2 * B.toInt ∧ (Pw A.toInt B.toInt h).2 * B.toInt ≤ 134217728 := q5
    have q6' : -134217728 ≤ (Pw A.toInt B.toInt h).1 + (Pw A.toInt B.toInt h).2 * A.toInt ∧ (Pw A.toInt B.toInt h).1 + (Pw A.toInt B.toInt h).2 * A.toInt ≤ 134217728 := q6
    rw [sgC hV (by omega) (by omega), if_neg (fun z => by
      rw [sgz_ge0] at z
      have e3 : Vv A.toInt (Rf A.toInt B.toInt) (M - (Pw A.toInt B.toInt h).2 * B.toInt) (N - ((Pw A.toInt B.toInt h).1 + (Pw A.toInt B.toInt h).2 * A.toInt)) = Vv A.toInt (Rf A.toInt B.toInt) M N - vp A.toInt B.toInt (Rf A.toInt B.toInt) (h + 1) := V_diff _ _ _ _ _ _
      rw [e3] at z
      have := p.2.1
      omega)]
  | succ d ih =>
    intro h fu pM pN e hf hp0
    obtain ⟨fu, rfl⟩ : ∃ z, fu = z + 1 := ⟨fu - 1, by omega⟩
    obtain ⟨q1, q2, q3, q4, q5, q6, -⟩ := pw_ok Bk h (fun i hi => p.2.2.2 i (by omega)) (by omega)
    rw [F_X5_highestPlace_16, if_neg (by rw [show (60 : Int32) = nI 60 from rfl, nI_leI (by omega) (by omega)]; omega), inr_t (by omega) (by omega), nI_cl (by omega), (hp0 h (Nat.le_refl _)).1, (hp0 h (Nat.le_refl _)).2, rzM, rzN, lz_sub, lz_sub]
    have q5' : -134217728 ≤ (Pw A.toInt B.toInt h).2 * B.toInt ∧ (Pw A.toInt B.toInt h).2 * B.toInt ≤ 134217728 := q5
    have q6' : -134217728 ≤ (Pw A.toInt B.toInt h).1 + (Pw A.toInt B.toInt h).2 * A.toInt ∧ (Pw A.toInt B.toInt h).1 + (Pw A.toInt B.toInt h).2 * A.toInt ≤ 134217728 := q6
    rw [sgC hV (by omega) (by omega), if_pos (by
      rw [sgz_ge0]
      have e3 : Vv A.toInt (Rf A.toInt B.toInt) (M - (Pw A.toInt B.toInt h).2 * B.toInt) (N - ((Pw A.toInt B.toInt h).1 + (Pw A.toInt B.toInt h).2 * A.toInt)) = Vv A.toInt (Rf A.toInt B.toInt) M N - vp A.toInt B.toInt (Rf A.toInt B.toInt) (h + 1) := V_diff _ _ _ _ _ _
      rw [e3]
      have := p.2.2.1 h (by omega)
      omega), nI_i1, inr_t (by omega) (by omega), nI_cl (by omega)]
    refine ih (h + 1) fu _ _ (by omega) (by omega) (fun i hi => ?_)
    rcases Nat.lt_or_ge i (h + 1) with c | c
    · rw [pk_uLn (by omega), pk_uLn (by omega)]; exact hp0 i (by omega)
    · have : i = h + 1 := by omega
      subst this
      rw [pk_uLs, pk_uLs]
      exact ⟨rfl, rfl⟩
/-- one place: what may be taken out -/
abbrev TK (a R M N pm pn : Int) : Prop := 0 < Vv a R pm pn ∧ 0 ≤ Vv a R M N ∧ Vv a R M N < 10 * Vv a R pm pn ∧ Vv a R M N ≤ XB ∧ (-(2099000 * (2 * S0)) ≤ Vc a R M N ∧ Vc a R M N ≤ 2099000 * (2 * S0)) ∧ (-(2 * S0) ≤ Vc a R pm pn ∧ Vc a R pm pn ≤ 2 * S0) ∧ (-134217728 ≤ pm ∧ pm ≤ 134217728) ∧ (-134217728 ≤ pn ∧ pn ≤ 134217728)
theorem tk_t {a R M N pm pn : Int} (h : TK a R M N pm pn) : 0 ≤ Vv a R M N / Vv a R pm pn ∧ Vv a R M N / Vv a R pm pn ≤ 9 ∧ Vv a R M N / Vv a R pm pn * Vv a R pm pn ≤ Vv a R M N ∧ Vv a R M N < Vv a R M N / Vv a R pm pn * Vv a R pm pn + Vv a R pm pn := by
  obtain ⟨h1, h2, h3, -⟩ := h
  have hdm := Int.mul_ediv_add_emod (Vv a R M N) (Vv a R pm pn)
  have hm1 := Int.emod_nonneg (Vv a R M N) (show Vv a R pm pn ≠ 0 by omega)
  have hm2 := Int.emod_lt_of_pos (Vv a R M N) h1
  have e : Vv a R pm pn * (Vv a R M N / Vv a R pm pn) = Vv a R M N / Vv a R pm pn * Vv a R pm pn := Int.mul_comm _ _
  have dle : Vv a R M N / Vv a R pm pn < 10 := Int.ediv_lt_of_lt_mul h1 h3
  exact ⟨Int.ediv_nonneg h2 (by omega), by omega, by omega, by omega⟩
theorem tk_bd {a b R k M N pm pn : Int} (B : BF a b R k) (h : TK a R M N pm pn) (i : Nat) (hi : (i : Int) ≤ Vv a R M N / Vv a R pm pn) : (-268435456 ≤ M - i * pm - pm ∧ M - i * pm - pm ≤ 268435456) ∧ (-268435456 ≤ N - i * pn - pn ∧ N - i * pn - pn ≤ 268435456) ∧ Vv a R (M - i * pm - pm) (N - i * pn - pn) = Vv a R M N - ((i : Int) + 1) * Vv a R pm pn := by
  have ht := tk_t h
  obtain ⟨h1, h2, h3, h4, h5, h6, h7, h8⟩ := h
  have hS : (0 : Int) < S0 := by decide
  have e1 : Vv a R (M - i * pm) (N - i * pn) = Vv a R M N - (i : Int) * Vv a R pm pn := V_sub _ _ _ _ _ _ _
  have e2 : Vc a R (M - i * pm) (N - i * pn) = Vc a R M N - (i : Int) * Vc a R pm pn := Vc_sub _ _ _ _ _ _ _
  have m1 : (i : Int) * Vv a R pm pn ≤ Vv a R M N / Vv a R pm pn * Vv a R pm pn := Int.mul_le_mul_of_nonneg_right hi (by omega)
  have m2 : 0 ≤ (i : Int) * Vv a R pm pn := Int.mul_nonneg (by omega) (by omega)
  have m3 : -(9 * (2 * S0)) ≤ (i : Int) * Vc a R pm pn ∧ (i : Int) * Vc a R pm pn ≤ 9 * (2 * S0) := by
    generalize Vc a R pm pn = c at *
    rcases Int.lt_or_le c 0 with x | x
    · have h5 : (i : Int) * -c ≤ 9 * (2 * S0) := Int.mul_le_mul (by omega) (by omega) (by omega) (by omega)
      have h6 : 0 ≤ (i : Int) * -c := Int.mul_nonneg (by omega) (by omega)
      have h7 : (i : Int) * -c = -((i : Int) * c) := by grind
      omega
    · have h5 : (i : Int) * c ≤ 9 * (2 * S0) := Int.mul_le_mul (by omega) (by omega) (by omega) (by omega)
      have h6 : 0 ≤ (i : Int) * c := Int.mul_nonneg (by omega) (by omega)
      omega
  have bd := Sm_bd B (M := M - i * pm) (N := N - i * pn) ⟨by omega, by omega, by omega, by omega⟩
  refine ⟨by omega, by omega, ?_⟩
  have e3 : Vv a R (M - i * pm - pm) (N - i * pn - pn) = Vv a R (M - i * pm) (N - i * pn) - Vv a R pm pn := by grind
  rw [e3, e1]; grind
theorem tk_ge {a R M N pm pn : Int} (h : TK a R M N pm pn) (i : Nat) : 0 ≤ Vv a R M N - ((i : Int) + 1) * Vv a R pm pn ↔ (i : Int) < Vv a R M N / Vv a R pm pn := by
  have ht := tk_t h
  have h1 := h.1
  generalize Vv a R M N / Vv a R pm pn = t at *
  constructor
  · intro q
    apply Int.not_le.mp
    intro c
    have : (t + 1) * Vv a R pm pn ≤ ((i : Int) + 1) * Vv a R pm pn := Int.mul_le_mul_of_nonneg_right (by omega) (by omega)
    have e : (t + 1) * Vv a R pm pn = t * Vv a R pm pn + Vv a R pm pn := by grind
    omega
  · intro q
    have : ((i : Int) + 1) * Vv a R pm pn ≤ t * Vv a R pm pn := Int.mul_le_mul_of_nonneg_right (by omega) (by omega)
    omega
theorem tkC {A B : Int32} {M N pm pn : Int} (hV : VB A.toInt B.toInt) (h : TK A.toInt (Rf A.toInt B.toInt) M N pm pn) {t : Nat} (ht : (t : Int) = Vv A.toInt (Rf A.toInt B.toInt) M N / Vv A.toInt (Rf A.toInt B.toInt) pm pn) : ∀ (d i fu : Nat), i + d = t → d + 1 ≤ fu → F_X5_takeOut_3 (lz pm) (lz pn) A B fu (nI i) (lz (M - i * pm)) (lz (N - i * pn)) = some (nI t, lz (M - t * pm), lz (N - t * pn)) := by
  have Bk := base_ok hV
  have t1 := tk_t h
  have ht' : (t : Int) ≤ 9 := by omega
  intro d
  induction d with
  | zero =>
    intro i fu e hf
    obtain ⟨fu, rfl⟩ : ∃ z, fu = z + 1 := ⟨fu - 1, by omega⟩
    have e2 : i = t := by omega
    subst e2
    rw [F_X5_takeOut_3]
    by_cases c : (9 : Int32) ≤ nI i
    · rw [if_pos c]
    · rw [if_neg c, lz_sub, lz_sub]
      have bd := tk_bd Bk h i (by omega)
      rw [sgC hV bd.1 bd.2.1, if_pos]
      rw [sgz_lt0]
      have := tk_ge h i
      have e3 := bd.2.2
      rw [e3]
      omega
  | succ d ih =>
    intro i fu e hf
    obtain ⟨fu, rfl⟩ : ∃ z, fu = z + 1 := ⟨fu - 1, by omega⟩
    rw [F_X5_takeOut_3, if_neg (by rw [show (9 : Int32) = nI 9 from rfl, nI_leI (by omega) (by omega)]; omega), lz_sub, lz_sub]
    have bd := tk_bd Bk h i (by omega)
    rw [sgC hV bd.1 bd.2.1, if_neg]
    · have e1 : M - (i : Int) * pm - pm = M - ((i + 1 : Nat) : Int) * pm := by
        have : ((i + 1 : Nat) : Int) = (i : Int) + 1 := by omega
        rw [this]; grind
      have e2 : N - (i : Int) * pn - pn = N - ((i + 1 : Nat) : Int) * pn := by
        have : ((i + 1 : Nat) : Int) = (i : Int) + 1 := by omega
        rw [this]; grind
      rw [e1, e2, nI_i1]
      exact ih (i + 1) fu (by omega) (by omega)
    · rw [sgz_lt0]
      have := tk_ge h i
      have e3 := bd.2.2
      rw [e3]
      omega
theorem takeOutC {A B : Int32} {M N pm pn : Int} (hV : VB A.toInt B.toInt) (h : TK A.toInt (Rf A.toInt B.toInt) M N pm pn) : F_X5_takeOut (lz pm) (lz pn) (lz M) (lz N) A B = some (iz (Vv A.toInt (Rf A.toInt B.toInt) M N / Vv A.toInt (Rf A.toInt B.toInt) pm pn), lz (M - Vv A.toInt (Rf A.toInt B.toInt) M N / Vv A.toInt (Rf A.toInt B.toInt) pm pn * pm), lz (N - Vv A.toInt (Rf A.toInt B.toInt) M N / Vv A.toInt (Rf A.toInt B.toInt) pm pn * pn)) := by
  have t1 := tk_t h
  obtain ⟨t, ht⟩ : ∃ t : Nat, (t : Int) = Vv A.toInt (Rf A.toInt B.toInt) M N / Vv A.toInt (Rf A.toInt B.toInt) pm pn := ⟨(Vv A.toInt (Rf A.toInt B.toInt) M N / Vv A.toInt (Rf A.toInt B.toInt) pm pn).toNat, by omega⟩
  have := tkC hV h ht t 0 128 (by omega) (by omega)
  unfold F_X5_takeOut
  rw [← ht, ← nI_is]
  have e1 : M - ((0 : Nat) : Int) * pm = M := by grind
  have e2 : N - ((0 : Nat) : Int) * pn = N := by grind
  rw [e1, e2] at this
  exact this
