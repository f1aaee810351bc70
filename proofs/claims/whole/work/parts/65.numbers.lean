theorem iz_of (x : Int32) : ∃ z : Int, (-2147483648 ≤ z ∧ z < 2147483648) ∧ x = iz z := ⟨x.toInt, i_rng x, (iz_self x).symm⟩
theorem m1z : (-1 : Int32) = iz (-1) := rfl
theorem n10 : ¬ ((1 : Int32) = 0) := by decide
theorem t00 : (0 : Int32) = 0 := rfl
theorem canBeC {a b : Int} (ha : -2147483648 ≤ a ∧ a < 2147483648) (hb : -2147483648 ≤ b ∧ b < 2147483648) : F_X0_canBe (iz a) (iz b) = if VB a b then 1 else 0 := by
  have c1 : (iz a < (1 : Int32)) ↔ a < 1 := by rw [show (1 : Int32) = iz 1 from rfl]; exact iz_lt ha (by decide)
  have c2 : (iz a ≤ (9 : Int32)) ↔ a ≤ 9 := by rw [show (9 : Int32) = iz 9 from rfl]; exact iz_le ha (by decide)
  have c3 : (iz b < (1 : Int32)) ↔ b < 1 := by rw [show (1 : Int32) = iz 1 from rfl]; exact iz_lt hb (by decide)
  have c4 : ((-1 : Int32) < iz b) ↔ -1 < b := by rw [m1z]; exact iz_lt (x := -1) (by decide) hb
  have c6 : (iz b ≤ iz a) ↔ b ≤ a := iz_le hb ha
  unfold F_X0_canBe
  simp only [c1, c2, c3, c4, c6]
  by_cases h : 1 ≤ a ∧ a ≤ 9
  · have c5 : (iz b < (2 : Int32) - iz a) ↔ b < 2 - a := by
      rw [show (2 : Int32) = iz 2 from rfl, iz_sub]; exact iz_lt hb (by omega)
    simp only [c5]
    unfold VB
    repeat' split
    all_goals first | rfl | (exfalso; omega)
  · unfold VB
    repeat' split
    all_goals first | rfl | (exfalso; omega)
theorem coreBase (x1 x2 : Int32) {a b ol hn known kept : Int32} {ms ns hc ic kp w : Nat → Int32} (hS : RelS a b ms ns w) (hH : RelH ol hn hc known w) (hI : RelI ic kp kept w) : ∃ (r a' b' ol' hn' kn' : Int32) (hc' w' : Nat → Int32), F_X6_base x1 x2 a b ms ns ol hn hc = some (r, a', b', ol', hn', hc') ∧ F_X7_base x1 x2 known w = some (r, kn', w') ∧ RelS a' b' ms ns w' ∧ RelH ol' hn' hc' kn' w' ∧ RelI ic kp kept w' := by
  obtain ⟨p, hp, rfl⟩ := iz_of x1
  obtain ⟨q, hq, rfl⟩ := iz_of x2
  have hM : F_X7_base (iz p) (iz q) known w = F_X7_base_57 (iz p) (iz q) known w (if VB p q then 1 else 0) := by
    have d1 : (iz q = 0) ↔ q = 0 := by rw [show (0 : Int32) = iz 0 from rfl]; exact iz_inj hq (by decide)
    have d3 : ((3 : Int32) ≤ iz p) ↔ 3 ≤ p := by rw [show (3 : Int32) = iz 3 from rfl]; exact iz_le (by decide) hp
    have e9 : F_X7_in (iz p).toInt64 (1 : Int64) (9 : Int64) = if 1 ≤ p ∧ p ≤ 9 then 1 else 0 := by
      rw [i2l, iz_to hp.1 hp.2, l1, show (9 : Int64) = lz 9 from rfl]
      exact inM (by omega) (by decide) (by decide)
    unfold F_X7_base
    rw [e9]
    by_cases h : 1 ≤ p ∧ p ≤ 9
    · have d2 : ((-1 : Int32) ≤ (2 : Int32) - iz p) ↔ -1 ≤ 2 - p := by
        rw [show (2 : Int32) = iz 2 from rfl, iz_sub, m1z]; exact iz_le (x := -1) (y := 2 - p) (by decide) (by omega)
      have f1 : F_X7_in (iz q).toInt64 (-1 : Int64) (iz p).toInt64 = if -1 ≤ q ∧ q ≤ p then 1 else 0 := by
        rw [i2l, i2l, iz_to hp.1 hp.2, iz_to hq.1 hq.2, show (-1 : Int64) = lz (-1) from rfl]
        exact inM (by omega) (by decide) (by omega)
      have f2 : F_X7_in (iz q).toInt64 (1 : Int64) (iz p).toInt64 = if 1 ≤ q ∧ q ≤ p then 1 else 0 := by
        rw [i2l, i2l, iz_to hp.1 hp.2, iz_to hq.1 hq.2, l1]
        exact inM (by omega) (by decide) (by omega)
      have f3 : F_X7_in (iz q).toInt64 (((2 : Int32) - iz p).toInt64) (iz p).toInt64 = if 2 - p ≤ q ∧ q ≤ p then 1 else 0 := by
        rw [show (2 : Int32) = iz 2 from rfl, iz_sub, i2l, i2l, i2l, iz_to hp.1 hp.2, iz_to hq.1 hq.2, iz_to (by omega) (by omega)]
        exact inM (by omega) (by omega) (by omega)
      rw [f1, f2, f3, if_pos h, if_neg n10]
      simp only [d1, d2, d3]
      unfold VB
      repeat' split
      all_goals first | rfl | (exfalso; omega) | (exfalso; rename_i z; exact absurd z (by decide)) | (exfalso; rename_i z _; exact absurd z (by decide)) | skip
    · have : ¬ VB p q := fun z => h ⟨z.1, z.2.1⟩
      rw [if_neg h, if_pos rfl, if_neg this]
  rw [hM]
  unfold F_X6_base
  rw [canBeC hp hq]
  by_cases c : VB p q
  · obtain ⟨ol', hn', kn', hc', p1, p2, p3, p4, p5⟩ := pushH hS hH hI
    rw [if_pos c, if_neg n10, p1]
    unfold F_X7_base_57
    rw [if_neg n10, p2]
    have e0 : upd (upd (sh 0 w) 0 (iz p)) 1 (iz q) 0 = iz p := by rw [pk_un (by omega), pk_us]
    have e1 : upd (upd (sh 0 w) 0 (iz p)) 1 (iz q) 1 = iz q := pk_us
    refine ⟨F_X0_top (iz p) (iz q), iz p, iz q, ol', hn', kn', hc', upd (upd (sh 0 w) 0 (iz p)) 1 (iz q), rfl, ?_, ⟨⟨e0, e1, fun i hi => ?_⟩, ?_, hS.2.2⟩, relH_w p3 (fun j h1 h2 => by rw [pk_un (by omega), pk_un (by omega)]), relI_w p4 (fun j h1 => by rw [pk_un (by omega), pk_un (by omega)])⟩
    · show some (F_X7_top (upd (upd (sh 0 w) 0 (iz p)) 1 (iz q)), kn', upd (upd (sh 0 w) 0 (iz p)) 1 (iz q)) = _
      unfold F_X7_top F_X0_top
      rw [z0, z1, e0, e1]
    · rw [Nat.zero_add, Nat.zero_add, pk_un (by omega), pk_un (by omega), pk_un (by omega), pk_un (by omega)]
      exact rS p5 hi
    · rw [iz_to hp.1 hp.2, iz_to hq.1 hq.2]; exact c
  · rw [if_neg c, if_pos t00]
    unfold F_X7_base_57
    rw [if_pos t00]
    exact ⟨_, _, _, _, _, _, _, _, rfl, rfl, hS, hH, hI⟩
theorem corePut (x1 x2 x3 : Int32) {a b ol hn known kept : Int32} {ms ns hc ic kp w : Nat → Int32} (hS : RelS a b ms ns w) (hH : RelH ol hn hc known w) (hI : RelI ic kp kept w) : ∃ (r ol' hn' kn' : Int32) (hc' ms' ns' w' : Nat → Int32), F_X6_put x1 x2 x3 a b ms ns ol hn hc = some (r, ms', ns', ol', hn', hc') ∧ F_X7_put x1 x2 x3 known w = some (r, kn', w') ∧ RelS a b ms' ns' w' ∧ RelH ol' hn' hc' kn' w' ∧ RelI ic kp kept w' := by
  unfold F_X6_put F_X7_put
  rcases shelfC x1 with ⟨c1, c2, i, hi, rfl⟩ | ⟨c1, c2⟩
  · rw [if_pos c1, if_neg c2]
    have r2 := i_rng x2
    have r3 := i_rng x3
    rw [i2l, i2l, oobC (by omega), oobC (by omega), inB (by omega), inB (by omega)]
    by_cases d1 : -999999 ≤ x2.toInt ∧ x2.toInt ≤ 999999
    · rw [if_pos d1, if_pos d1, if_pos t00, if_neg n10]
      by_cases d2 : -999999 ≤ x3.toInt ∧ x3.toInt ≤ 999999
      · rw [if_pos d2, if_pos d2, if_pos t00, if_neg n10]
        obtain ⟨ol', hn', kn', hc', ms', ns', w', e1, e2, e3, e4, e5, -⟩ := layEq hS hH hI hi d1 d2
        rw [e1, e2]
        exact ⟨_, _, _, _, _, _, _, _, rfl, rfl, e3, e4, e5⟩
      · rw [if_neg d2, if_neg d2, if_neg n10, if_pos t00]
        exact ⟨_, _, _, _, _, _, _, _, rfl, rfl, hS, hH, hI⟩
    · rw [if_neg d1, if_neg d1, if_neg n10, if_pos t00]
      exact ⟨_, _, _, _, _, _, _, _, rfl, rfl, hS, hH, hI⟩
  · rw [if_neg c1, if_pos c2]
    exact ⟨_, _, _, _, _, _, _, _, rfl, rfl, hS, hH, hI⟩
theorem mul_bd {x y K L : Int} (hx : -K ≤ x ∧ x ≤ K) (hy : -L ≤ y ∧ y ≤ L) : -(K * L) ≤ x * y ∧ x * y ≤ K * L := by
  have hK : 0 ≤ K := by omega
  have hL : 0 ≤ L := by omega
  rcases Int.lt_or_le x 0 with c | c <;> rcases Int.lt_or_le y 0 with d | d
  · have h5 : 0 ≤ -x * -y := Int.mul_nonneg (by omega) (by omega)
    have h6 : -x * -y ≤ K * L := Int.mul_le_mul (by omega) (by omega) (by omega) (by omega)
    have h7 : -x * -y = x * y := by grind
    omega
  · have h5 : 0 ≤ -x * y := Int.mul_nonneg (by omega) (by omega)
    have h6 : -x * y ≤ K * L := Int.mul_le_mul (by omega) (by omega) (by omega) (by omega)
    have h7 : -x * y = -(x * y) := by grind
    omega
  · have h5 : 0 ≤ x * -y := Int.mul_nonneg (by omega) (by omega)
    have h6 : x * -y ≤ K * L := Int.mul_le_mul (by omega) (by omega) (by omega) (by omega)
    have h7 : x * -y = -(x * y) := by grind
    omega
  · have h5 : 0 ≤ x * y := Int.mul_nonneg (by omega) (by omega)
    have h6 : x * y ≤ K * L := Int.mul_le_mul (by omega) (by omega) (by omega) (by omega)
    omega
theorem coreDeed (x1 x2 x3 x4 : Int32) {a b ol hn known kept : Int32} {ms ns hc ic kp w : Nat → Int32} (hS : RelS a b ms ns w) (hH : RelH ol hn hc known w) (hI : RelI ic kp kept w) : ∃ (r ol' hn' kn' : Int32) (hc' ms' ns' w' : Nat → Int32), F_X6_deed x1 x2 x3 x4 a b ms ns ol hn hc = some (r, ms', ns', ol', hn', hc') ∧ F_X7_deed x1 x2 x3 x4 known w = some (r, kn', w') ∧ RelS a b ms' ns' w' ∧ RelH ol' hn' hc' kn' w' ∧ RelI ic kp kept w' := by
  unfold F_X6_deed F_X7_deed
  rcases shelfC x1 with ⟨c1, c2, i, hi, rfl⟩ | ⟨c1, c2⟩
  · rw [if_pos c1, if_neg c2]
    rcases shelfC x3 with ⟨c1, c2, j, hj, rfl⟩ | ⟨c1, c2⟩
    · rw [if_pos c1, if_neg c2]
      rcases shelfC x4 with ⟨c1, c2, k, hk, rfl⟩ | ⟨c1, c2⟩
      · rw [if_pos c1, if_neg c2, inr_t hj (by omega), inr_t hk (by omega), nI_cl (by omega), nI_cl (by omega), mOfM hj, nOfM hj, mOfM hk, nOfM hk, (rS hS hj).1, (rS hS hj).2, (rS hS hk).1, (rS hS hk).2, z0, z1, (rS0 hS).1, (rS0 hS).2]
        show ∃ r ol' hn' kn' hc' ms' ns' w', _ ∧ (if x2 = 0 then ((F_X7_setIn (nI i) ((ms j).toInt64 + (ms k).toInt64) ((ns j).toInt64 + (ns k).toInt64) known w).bind fun o => some (o.1, o.2.1, o.2.2)) else (if x2 = 1 then ((F_X7_setIn (nI i) ((ms j).toInt64 - (ms k).toInt64) ((ns j).toInt64 - (ns k).toInt64) known w).bind fun o => some (o.1, o.2.1, o.2.2)) else (if x2 = 2 then ((F_X7_setIn (nI i) (((ms j).toInt64 * (ms k).toInt64) + ((b.toInt64 * (ns j).toInt64) * (ns k).toInt64)) ((((ms j).toInt64 * (ns k).toInt64) + ((ns j).toInt64 * (ms k).toInt64)) + ((a.toInt64 * (ns j).toInt64) * (ns k).toInt64)) known w).bind fun o => some (o.1, o.2.1, o.2.2)) else (if x2 = 3 then ((F_X7_setIn (nI i) ((ns j).toInt64 * b.toInt64) ((ms j).toInt64 + ((ns j).toInt64 * a.toInt64)) known w).bind fun o => some (o.1, o.2.1, o.2.2)) else some (-2000000002, known, w))))) = _ ∧ _
        have hj2 := hS.2.2 j hj
        have hk2 := hS.2.2 k hk
        have hV := hS.2.1
        have ha : -9 ≤ a.toInt ∧ a.toInt ≤ 9 := by have := hV.1; have := hV.2.1; omega
        have hb : -9 ≤ b.toInt ∧ b.toInt ≤ 9 := by have := hV.2; omega
        simp only [i2l, rzM, rzN, lz_add, lz_sub, lz_mul]
        generalize (ms j).toInt = mj at *
        generalize (ns j).toInt = nj at *
        generalize (ms k).toInt = mk at *
        generalize (ns k).toInt = nk at *
        generalize a.toInt = ai at *
        generalize b.toInt = bi at *
        have q1 := mul_bd (x := mj) (y := mk) (K := 999999) (L := 999999) (by omega) (by omega)
        have q2 := mul_bd (x := nj) (y := nk) (K := 999999) (L := 999999) (by omega) (by omega)
        have q3 := mul_bd (x := nj * nk) (y := bi) (K := 999999 * 999999) (L := 9) (by omega) (by omega)
        have q4 := mul_bd (x := nj * nk) (y := ai) (K := 999999 * 999999) (L := 9) (by omega) (by omega)
        have q5 := mul_bd (x := mj) (y := nk) (K := 999999) (L := 999999) (by omega) (by omega)
        have q6 := mul_bd (x := nj) (y := mk) (K := 999999) (L := 999999) (by omega) (by omega)
        have q7 := mul_bd (x := nj) (y := bi) (K := 999999) (L := 9) (by omega) (by omega)
        have q8 := mul_bd (x := nj) (y := ai) (K := 999999) (L := 9) (by omega) (by omega)
        have s1 : bi * nj * nk = nj * nk * bi := by grind
        have s2 : ai * nj * nk = nj * nk * ai := by grind
        rw [s1, s2]
        by_cases d0 : x2 = 0
        · rw [if_pos d0, if_pos d0]
          obtain ⟨r, ol', hn', kn', hc', ms', ns', w', e1, e2, e3, e4, e5⟩ := setEq hS hH hI hi (m := mj + mk) (n := nj + nk) (by omega) (by omega)
          rw [e1, e2]
          exact ⟨_, _, _, _, _, _, _, _, rfl, rfl, e3, e4, e5⟩
        · rw [if_neg d0, if_neg d0]
          by_cases d1 : x2 = 1
          · rw [if_pos d1, if_pos d1]
            obtain ⟨r, ol', hn', kn', hc', ms', ns', w', e1, e2, e3, e4, e5⟩ := setEq hS hH hI hi (m := mj - mk) (n := nj - nk) (by omega) (by omega)
            rw [e1, e2]
            exact ⟨_, _, _, _, _, _, _, _, rfl, rfl, e3, e4, e5⟩
          · rw [if_neg d1, if_neg d1]
            by_cases d2 : x2 = 2
            · rw [if_pos d2, if_pos d2]
              obtain ⟨r, ol', hn', kn', hc', ms', ns', w', e1, e2, e3, e4, e5⟩ := setEq hS hH hI hi (m := mj * mk + nj * nk * bi) (n := mj * nk + nj * mk + nj * nk * ai) (by omega) (by omega)
              rw [e1, e2]
              exact ⟨_, _, _, _, _, _, _, _, rfl, rfl, e3, e4, e5⟩
            · rw [if_neg d2, if_neg d2]
              by_cases d3 : x2 = 3
              · rw [if_pos d3, if_pos d3]
                obtain ⟨r, ol', hn', kn', hc', ms', ns', w', e1, e2, e3, e4, e5⟩ := setEq hS hH hI hi (m := nj * bi) (n := mj + nj * ai) (by omega) (by omega)
                rw [e1, e2]
                exact ⟨_, _, _, _, _, _, _, _, rfl, rfl, e3, e4, e5⟩
              · rw [if_neg d3, if_neg d3]
                exact ⟨_, _, _, _, _, _, _, _, rfl, rfl, hS, hH, hI⟩
      · rw [if_neg c1, if_pos c2]; exact ⟨_, _, _, _, _, _, _, _, rfl, rfl, hS, hH, hI⟩
    · rw [if_neg c1, if_pos c2]; exact ⟨_, _, _, _, _, _, _, _, rfl, rfl, hS, hH, hI⟩
  · rw [if_neg c1, if_pos c2]; exact ⟨_, _, _, _, _, _, _, _, rfl, rfl, hS, hH, hI⟩
