theorem lrem {x d : Int} (hx : 0 ≤ x ∧ x < 4611686018427387904) (hd : 0 < d ∧ d < 4611686018427387904) : lz x - lz x / lz d * lz d = lz (x % d) := by
  have e : lz x / lz d = lz (x / d) := by
    have h := Int64.ofInt_tdiv (a := x) (b := d) (by have : Int64.minValue.toInt = -9223372036854775808 := by decide
                                                     omega) (by have : Int64.maxValue.toInt = 9223372036854775807 := by decide
                                                                omega) (by have : Int64.minValue.toInt = -9223372036854775808 := by decide
                                                                           omega) (by have : Int64.maxValue.toInt = 9223372036854775807 := by decide
                                                                                      omega)
    rw [Int.tdiv_eq_ediv_of_nonneg hx.1] at h
    exact h.symm
  rw [e, lz_mul, lz_sub]
  congr 1
  have := Int.mul_ediv_add_emod x d
  have e2 : d * (x / d) = x / d * d := Int.mul_comm _ _
  omega
theorem lotC {x : Int} (hx : 0 ≤ x ∧ x < 2147483647) : F_X6_lot (lz x) = lz (x * 16807 % 2147483647) := by
  unfold F_X6_lot
  rw [show (16807 : Int64) = lz 16807 from rfl, show (2147483647 : Int64) = lz 2147483647 from rfl, lz_mul]
  exact lrem (by omega) (by decide)
theorem coreDrift (x1 x2 : Int32) {a b ol hn known kept : Int32} {ms ns hc ic kp w : Nat → Int32} (hS : RelS a b ms ns w) (hH : RelH ol hn hc known w) (hI : RelI ic kp kept w) : ∃ (r ol' hn' kn' : Int32) (hc' ms' ns' w' : Nat → Int32), F_X6_drift x1 x2 a b ms ns ol hn hc = some (r, ms', ns', ol', hn', hc') ∧ F_X7_drift x1 x2 known w = some (r, kn', w') ∧ RelS a b ms' ns' w' ∧ RelH ol' hn' hc' kn' w' ∧ RelI ic kp kept w' := by
  have eL : ∀ z : Int64, z * (16807 : Int64) - z * (16807 : Int64) / (2147483647 : Int64) * (2147483647 : Int64) = F_X6_lot z := fun z => rfl
  unfold F_X6_drift F_X7_drift
  simp only [eL]
  rcases shelfC x1 with ⟨c1, c2, i, hi, rfl⟩ | ⟨c1, c2⟩
  · rw [if_pos c1, if_neg c2]
    obtain ⟨z, hz, rfl⟩ := iz_of x2
    have d1 : (iz z < (1 : Int32)) ↔ z < 1 := by rw [show (1 : Int32) = iz 1 from rfl]; exact iz_lt hz (by decide)
    have d2 : (iz z ≤ (999999 : Int32)) ↔ z ≤ 999999 := by rw [show (999999 : Int32) = iz 999999 from rfl]; exact iz_le hz (by decide)
    have e9 : F_X7_in (iz z).toInt64 (1 : Int64) (999999 : Int64) = if 1 ≤ z ∧ z ≤ 999999 then 1 else 0 := by
      rw [i2l, iz_to hz.1 hz.2, l1, show (999999 : Int64) = lz 999999 from rfl]
      exact inM (by omega) (by decide) (by decide)
    by_cases h1 : z < 1
    · have e9' : F_X7_in (iz z).toInt64 (1 : Int64) (999999 : Int64) = 0 := by rw [e9]; exact if_neg (by omega)
      rw [if_pos (d1.mpr h1), e9', if_pos t00]
      exact ⟨_, _, _, _, _, _, _, _, rfl, rfl, hS, hH, hI⟩
    · rw [if_neg (fun q => h1 (d1.mp q))]
      by_cases h2 : z ≤ 999999
      · have e9' : F_X7_in (iz z).toInt64 (1 : Int64) (999999 : Int64) = 1 := by rw [e9]; exact if_pos ⟨by omega, h2⟩
        rw [if_pos (d2.mpr h2), e9', if_neg n10, i2l, iz_to hz.1 hz.2, lotC (by omega)]
        generalize hX : z * 16807 % 2147483647 = X
        have hX0 : 0 ≤ X ∧ X < 2147483647 := by
          rw [← hX]; exact ⟨Int.emod_nonneg _ (by decide), Int.emod_lt_of_pos _ (by decide)⟩
        rw [lotC hX0]
        generalize hY : X * 16807 % 2147483647 = Y
        have hY0 : 0 ≤ Y ∧ Y < 2147483647 := by
          rw [← hY]; exact ⟨Int.emod_nonneg _ (by decide), Int.emod_lt_of_pos _ (by decide)⟩
        rw [show (2001 : Int64) = lz 2001 from rfl, show (1000 : Int64) = lz 1000 from rfl, lrem (x := X) (by omega) (by decide), lrem (x := Y) (by omega) (by decide), lz_sub, lz_sub, lz_neg, lz_neg]
        generalize hm : X % 2001 - 1000 = m
        generalize hn1 : Y % 2001 - 1000 = n
        have hm0 : -1000 ≤ m ∧ m ≤ 1000 := by omega
        have hn0 : -1000 ≤ n ∧ n ≤ 1000 := by omega
        have hV := hS.2.1
        have w0 := rS0 hS
        have sM := sgM (w := w) (m := m) (n := n) (by rw [w0.1, w0.2]; exact hV) (by omega) (by omega)
        rw [w0.1, w0.2] at sM
        rw [sgC hV (by omega) (by omega), sM]
        by_cases c : 0 ≤ sgz (Vv a.toInt (Rf a.toInt b.toInt) m n)
        · rw [if_pos c, if_pos c, if_pos trivial]
          obtain ⟨ol', hn', kn', hc', ms', ns', w', e1, e2, e3, e4, e5, e6⟩ := layEq hS hH hI hi (m := m) (n := n) (by omega) (by omega)
          rw [e1]
          unfold F_X7_drift_101
          rw [if_pos t00, e2]
          refine ⟨(lz m).toInt32 + 2000, ol', hn', kn', hc', ms', ns', w', rfl, ?_, e3, e4, e5⟩
          show (if 0 ≤ sgz (Vv a.toInt (Rf a.toInt b.toInt) m n) then ((F_X7_mOf (nI i) w').bind fun o => some (o + 2000, kn', w')) else some (-1, kn', w')) = _
          rw [if_pos c, mOfM hi, e6, ← l2i]
          rfl
        · rw [if_neg c, if_neg c, if_neg n10]
          have hneg : Vv a.toInt (Rf a.toInt b.toInt) (-m) (-n) = -(Vv a.toInt (Rf a.toInt b.toInt) m n) := by grind
          have c' : 0 ≤ sgz (Vv a.toInt (Rf a.toInt b.toInt) (-m) (-n)) := by
            rw [sgz_ge0] at c ⊢
            omega
          obtain ⟨ol', hn', kn', hc', ms', ns', w', e1, e2, e3, e4, e5, e6⟩ := layEq hS hH hI hi (m := -m) (n := -n) (by omega) (by omega)
          rw [e1]
          unfold F_X7_drift_101
          rw [if_neg n10, lz_neg, e2]
          refine ⟨(lz (-m)).toInt32 + 2000, ol', hn', kn', hc', ms', ns', w', rfl, ?_, e3, e4, e5⟩
          show (if 0 ≤ sgz (Vv a.toInt (Rf a.toInt b.toInt) (-m) (-n)) then ((F_X7_mOf (nI i) w').bind fun o => some (o + 2000, kn', w')) else some (-1, kn', w')) = _
          rw [if_pos c', mOfM hi, e6, ← l2i]
          rfl
      · have e9' : F_X7_in (iz z).toInt64 (1 : Int64) (999999 : Int64) = 0 := by rw [e9]; exact if_neg (by omega)
        rw [if_neg (fun q => h2 (d2.mp q)), e9', if_pos t00]
        exact ⟨_, _, _, _, _, _, _, _, rfl, rfl, hS, hH, hI⟩
  · rw [if_neg c1, if_pos c2]
    exact ⟨_, _, _, _, _, _, _, _, rfl, rfl, hS, hH, hI⟩
theorem coreUndo {a b ol hn known kept : Int32} {ms ns hc ic kp w : Nat → Int32} (hS : RelS a b ms ns w) (hH : RelH ol hn hc known w) (hI : RelI ic kp kept w) : ∃ (r a' b' hn' kn' : Int32) (ms' ns' w' : Nat → Int32), F_X6_undo a b ms ns ol hn hc = some (r, a', b', ms', ns', hn') ∧ F_X7_undo known w = some (r, kn', w') ∧ RelS a' b' ms' ns' w' ∧ RelH ol hn' hc kn' w' ∧ RelI ic kp kept w' := by
  obtain ⟨kn, o, rfl, rfl, rfl, h4, h5, h6⟩ := hH
  rcases Nat.eq_zero_or_pos kn with c | c
  · subst c
    unfold F_X6_undo F_X7_undo
    rw [if_pos nI_0, if_pos nI_0]
    exact ⟨_, _, _, _, _, _, _, _, rfl, rfl, hS, ⟨0, o, rfl, rfl, rfl, by omega, h5, fun k k1 k2 => by omega⟩, hI⟩
  · obtain ⟨a', b', m', n', g1, g2, g3⟩ := h6 1 (by omega) (by omega)
    obtain ⟨z, rfl⟩ : ∃ z, kn = z + 1 := ⟨kn - 1, by omega⟩
    have e1 : (nI o + (nI (z + 1) - (1 : Int32))) - (nI o + (nI (z + 1) - (1 : Int32))) / (8 : Int32) * (8 : Int32) = nI ((o + z) % 8) := by
      rw [nI_pred, nI_add, show (8 : Int32) = nI 8 from rfl, pk_rem (by omega) (by omega) (by omega)]
    have e2 : nI ((o + z) % 8) * (10 : Int32) = nI (10 * ((o + z) % 8)) := by
      rw [show (10 : Int32) = nI 10 from rfl, pk_mul, Nat.mul_comm]
    have e3 : (o + (z + 1) - 1) % 8 = (o + z) % 8 := by congr 1
    rw [e3] at g3
    obtain ⟨m2, n2, f1, f2⟩ := fromC (n := 80) (a := a) (b := b) (ms := ms) (ns := ns) (by omega) (by omega) g3
    unfold F_X6_undo F_X1_takeBack
    rw [undM w (by omega) h4, if_neg (nI_ne0 (by omega) (by omega)), if_neg (nI_ne0 (by omega) (by omega)), e1, e2, f1, nI_pred]
    have sd1 : ∀ j, j < 80 → sd 8 w j = w (j + 10) := fun j hj => by unfold sd; rw [if_pos (by omega)]
    have sd2 : ∀ j, 80 ≤ j → sd 8 w j = w j := fun j hj => by unfold sd; rw [if_neg (by omega)]
    have hz : z + 1 - 1 = z := rfl
    rw [hz]
    refine ⟨nI z, a', b', nI z, nI z, m2, n2, sd 8 w, rfl, rfl, ⟨?_, g1.1, fun i hi => ?_⟩, ⟨z, o, rfl, rfl, rfl, by omega, h5, fun k k1 k2 => ?_⟩, relI_w hI (fun j hj => sd2 j (by omega))⟩
    · have q := rowM_eq (w' := sd 8 w) (q' := 0) g2 (fun j hj => by rw [Nat.zero_add, sd1 j (by omega)]; congr 1; omega)
      exact ⟨q.1, q.2.1, fun i hi => by rw [(f2 i hi).1, (f2 i hi).2]; exact q.2.2 i hi⟩
    · rw [(f2 i hi).1, (f2 i hi).2]; exact g1.2 i hi
    · obtain ⟨a1, b1, m1, n1, k1', k2', k3'⟩ := h6 (k + 1) (by omega) (by omega)
      refine ⟨a1, b1, m1, n1, k1', rowM_eq k2' (fun j hj => by rw [sd1 _ (by omega)]; congr 1; omega), ?_⟩
      have e5 : (o + (z + 1) - (k + 1)) % 8 = (o + z - k) % 8 := by congr 1; omega
      rw [e5] at k3'; exact k3'
theorem coreCompare (x1 x2 : Int32) {a b : Int32} {ms ns w : Nat → Int32} (hS : RelS a b ms ns w) : ∃ r : Int32, F_X6_compare x1 x2 a b ms ns = some r ∧ F_X7_compare x1 x2 w = some r := by
  unfold F_X6_compare F_X7_compare
  rcases shelfC x1 with ⟨c1, c2, i, hi, rfl⟩ | ⟨c1, c2⟩
  · rw [if_pos c1, if_neg c2]
    rcases shelfC x2 with ⟨c1, c2, j, hj, rfl⟩ | ⟨c1, c2⟩
    · rw [if_pos c1, if_neg c2, inr_t hi (by omega), inr_t hj (by omega), nI_cl (by omega), nI_cl (by omega), mOfM hi, nOfM hi, mOfM hj, nOfM hj, (rS hS hi).1, (rS hS hi).2, (rS hS hj).1, (rS hS hj).2]
      have hi2 := hS.2.2 i hi
      have hj2 := hS.2.2 j hj
      have w0 := rS0 hS
      have sM := sgM (w := w) (m := (ms i).toInt - (ms j).toInt) (n := (ns i).toInt - (ns j).toInt) (by rw [w0.1, w0.2]; exact hS.2.1) (by omega) (by omega)
      rw [w0.1, w0.2] at sM
      refine ⟨sgz (Vv a.toInt (Rf a.toInt b.toInt) ((ms i).toInt - (ms j).toInt) ((ns i).toInt - (ns j).toInt)), ?_, ?_⟩
      · rw [i2l, i2l, i2l, i2l, lz_sub, lz_sub, sgC hS.2.1 (by omega) (by omega)]
      · show some (F_X7_signOf ((ms i).toInt64 - (ms j).toInt64) ((ns i).toInt64 - (ns j).toInt64) w) = _
        rw [i2l, i2l, i2l, i2l, lz_sub, lz_sub, sM]
    · rw [if_neg c1, if_pos c2]; exact ⟨_, rfl, rfl⟩
  · rw [if_neg c1, if_pos c2]; exact ⟨_, rfl, rfl⟩
theorem wlC {A B : Int32} {m n : Int} (hV : VB A.toInt B.toInt) (hm : -134217728 ≤ m ∧ m ≤ 134217728) (hn : -8388608 ≤ n ∧ n ≤ 8388608) : F_X0_wholePart (lz m) (lz n) A B = some (lz (Vv A.toInt (Rf A.toInt B.toInt) m n / (2 * S0))) := whole_c hV hm hn
theorem coreBeside (x1 : Int32) {a b : Int32} {ms ns w : Nat → Int32} (hS : RelS a b ms ns w) : ∃ r : Int32, F_X6_beside x1 a b ms ns = some r ∧ F_X7_beside x1 w = some r := by
  unfold F_X6_beside F_X7_beside
  rcases shelfC x1 with ⟨c1, c2, i, hi, rfl⟩ | ⟨c1, c2⟩
  · rw [if_pos c1, if_neg c2, inr_t hi (by omega), nI_cl (by omega), mOfM hi, nOfM hi, (rS hS hi).1, (rS hS hi).2]
    have hi2 := hS.2.2 i hi
    have w0 := rS0 hS
    have hV := hS.2.1
    have ha : -9 ≤ a.toInt ∧ a.toInt ≤ 9 := by have := hV.1; have := hV.2.1; omega
    have q := mul_bd (x := (ns i).toInt) (y := a.toInt) (K := 999999) (L := 9) (by omega) (by omega)
    have sM := wlM (w := w) (m := (ms i).toInt + (ns i).toInt * a.toInt) (n := -(ns i).toInt) (by rw [w0.1, w0.2]; exact hV) (by omega) (by omega)
    rw [w0.1, w0.2] at sM
    refine ⟨iz (Vv a.toInt (Rf a.toInt b.toInt) ((ms i).toInt + (ns i).toInt * a.toInt) (-(ns i).toInt) / (2 * S0)), ?_, ?_⟩
    · rw [i2l, i2l, i2l, lz_mul, lz_add, lz_neg, wlC hV (by omega) (by omega)]
      show some _ = some _
      rw [l2i]
    · show (F_X7_wholeOf ((ms i).toInt64 + (ns i).toInt64 * (w (0 : Int32).toNatClampNeg).toInt64) (-(ns i).toInt64) w).bind _ = _
      rw [z0, w0.1, i2l, i2l, i2l, lz_mul, lz_add, lz_neg, sM]
      show some _ = some _
      rw [l2i]
  · rw [if_neg c1, if_pos c2]; exact ⟨_, rfl, rfl⟩
theorem coreNorm (x1 : Int32) {a b : Int32} {ms ns w : Nat → Int32} (hS : RelS a b ms ns w) : ∃ r : Int64, F_X6_norm x1 a b ms ns = some r ∧ F_X7_norm x1 w = some r := by
  unfold F_X6_norm F_X7_norm
  rcases shelfC x1 with ⟨c1, c2, i, hi, rfl⟩ | ⟨c1, c2⟩
  · rw [if_pos c1, if_neg c2, inr_t hi (by omega), nI_cl (by omega), mOfM hi, nOfM hi, (rS hS hi).1, (rS hS hi).2, z0, z1, (rS0 hS).1, (rS0 hS).2]
    exact ⟨_, rfl, rfl⟩
  · rw [if_neg c1, if_pos c2]; exact ⟨_, rfl, rfl⟩
theorem oneEq (x1 : Int32) {a b : Int32} {ms ns w : Nat → Int32} (hS : RelS a b ms ns w) : F_X7_oneAt x1 w = F_X0_figureOfOne x1 a b := by
  unfold F_X7_oneAt F_X0_figureOfOne
  rw [z0, z1, (rS0 hS).1, (rS0 hS).2]
theorem coreOne (x1 : Int32) {a b : Int32} {ms ns w : Nat → Int32} (hS : RelS a b ms ns w) : F_X7_one x1 w = F_X6_one x1 a b := by
  unfold F_X7_one F_X6_one
  rw [oneEq x1 hS]
