theorem i_rng (x : Int32) : -2147483648 ≤ x.toInt ∧ x.toInt < 2147483648 := ⟨Int32.le_toInt x, Int32.toInt_lt x⟩
theorem inM {v lo hi : Int} (h1 : -9223372036854775808 ≤ v ∧ v < 9223372036854775808) (h2 : -9223372036854775808 ≤ lo ∧ lo < 9223372036854775808) (h3 : -9223372036854775808 ≤ hi ∧ hi < 9223372036854775808) : F_X7_in (lz v) (lz lo) (lz hi) = if lo ≤ v ∧ v ≤ hi then 1 else 0 := by
  unfold F_X7_in
  by_cases c1 : v < lo
  · rw [if_pos ((lg_lt0 h1 h2).mpr c1), if_neg (by omega)]
  · rw [if_neg (fun q => c1 ((lg_lt0 h1 h2).mp q))]
    by_cases c2 : hi < v
    · rw [if_pos ((lg_gt0 h1 h3).mpr c2), if_neg (by omega)]
    · rw [if_neg (fun q => c2 ((lg_gt0 h1 h3).mp q)), if_pos (by omega)]
theorem oobC {v : Int} (h1 : -9223372036854775808 ≤ v ∧ v < 9223372036854775808) : F_X6_isOutOfBounds (lz v) = if -999999 ≤ v ∧ v ≤ 999999 then 0 else 1 := by
  unfold F_X6_isOutOfBounds
  rw [show (-999999 : Int64) = lz (-999999) from rfl, show (999999 : Int64) = lz 999999 from rfl]
  by_cases c1 : v < -999999
  · rw [if_pos ((lg_lt0 h1 (by decide)).mpr c1), if_neg (by omega)]
  · rw [if_neg (fun q => c1 ((lg_lt0 h1 (by decide)).mp q))]
    by_cases c2 : v ≤ 999999
    · rw [if_pos ((lg_le0 h1 (by decide)).mpr c2), if_pos (by omega)]
    · rw [if_neg (fun q => c2 ((lg_le0 h1 (by decide)).mp q)), if_neg (by omega)]
theorem inB {v : Int} (h1 : -9223372036854775808 ≤ v ∧ v < 9223372036854775808) : F_X7_in (lz v) (-999999 : Int64) (999999 : Int64) = if -999999 ≤ v ∧ v ≤ 999999 then 1 else 0 := by
  rw [show (-999999 : Int64) = lz (-999999) from rfl, show (999999 : Int64) = lz 999999 from rfl]
  exact inM (lo := -999999) (hi := 999999) h1 (by decide) (by decide)
theorem shelfC (x : Int32) : (F_X6_isNoShelf x = 0 ∧ ¬ F_X7_isShelf x = 0 ∧ ∃ i, i < 4 ∧ x = nI i) ∨ (¬ F_X6_isNoShelf x = 0 ∧ F_X7_isShelf x = 0) := by
  have hx := i_rng x
  have e : F_X7_isShelf x = if (0 : Int) ≤ x.toInt ∧ x.toInt ≤ 3 then 1 else 0 := by
    unfold F_X7_isShelf
    rw [i2l, l0, show (3 : Int64) = lz 3 from rfl]
    exact inM (v := x.toInt) (lo := 0) (hi := 3) (by omega) (by decide) (by decide)
  unfold F_X6_isNoShelf
  rw [e]
  rcases pk_ix x (n := 4) (by omega) with c | c | ⟨j, hj, rfl⟩
  · right
    have : x.toInt < 0 := by rw [Int32.lt_iff_toInt_lt] at c; exact c
    rw [if_pos c, if_neg (by omega)]
    exact ⟨by decide, rfl⟩
  · right
    have h4 : (4 : Int) ≤ x.toInt := by rw [Int32.le_iff_toInt_le] at c; exact c
    have c' : ¬ x < 0 := by rw [Int32.lt_iff_toInt_lt]; show ¬ x.toInt < 0; omega
    have c2 : ¬ x < 4 := by rw [Int32.lt_iff_toInt_lt]; show ¬ x.toInt < 4; omega
    rw [if_neg c', if_neg c2, if_neg (by omega)]
    exact ⟨by decide, rfl⟩
  · left
    have e2 : (nI j).toInt = (j : Int) := nI_toInt (by omega)
    rw [if_neg (nI_pos (by omega)), if_pos (by rw [show (4 : Int32) = nI 4 from rfl, nI_ltI (by omega) (by omega)]; exact hj), e2, if_pos (by omega)]
    exact ⟨rfl, by decide, j, hj, rfl⟩
/-! what the class holds and what the reference holds are the same -/
def RelS (a b : Int32) (ms ns w : Nat → Int32) : Prop := rowM w 0 a b ms ns ∧ GR a b ms ns
def RelH (ol hn : Int32) (hc : Nat → Int32) (known : Int32) (w : Nat → Int32) : Prop := ∃ kn o : Nat, hn = nI kn ∧ known = nI kn ∧ ol = nI o ∧ kn ≤ 8 ∧ o < 8 ∧ ∀ k, 1 ≤ k → k ≤ kn → ∃ (a b : Int32) (ms ns : Nat → Int32), GR a b ms ns ∧ rowM w (10 * k) a b ms ns ∧ rowC hc (10 * ((o + kn - k) % 8)) a b ms ns
def RelI (ic kp : Nat → Int32) (kept : Int32) (w : Nat → Int32) : Prop := ∃ k0 k1 : Nat, k0 ≤ 1 ∧ k1 ≤ 1 ∧ kept = nI (k0 + 2 * k1) ∧ kp 0 = nI k0 ∧ kp 1 = nI k1 ∧ (k0 = 1 → ∃ (a b : Int32) (ms ns : Nat → Int32), GR a b ms ns ∧ rowM w 90 a b ms ns ∧ rowC ic 0 a b ms ns) ∧ (k1 = 1 → ∃ (a b : Int32) (ms ns : Nat → Int32), GR a b ms ns ∧ rowM w 100 a b ms ns ∧ rowC ic 10 a b ms ns)
theorem relH_w {ol hn known : Int32} {hc w w' : Nat → Int32} (h : RelH ol hn hc known w) (e : ∀ i, 10 ≤ i → i < 90 → w' i = w i) : RelH ol hn hc known w' := by
  obtain ⟨kn, o, h1, h2, h3, h4, h5, h6⟩ := h
  refine ⟨kn, o, h1, h2, h3, h4, h5, fun k k1 k2 => ?_⟩
  obtain ⟨a, b, ms, ns, g1, g2, g3⟩ := h6 k k1 k2
  exact ⟨a, b, ms, ns, g1, rowM_eq g2 (fun j hj => e _ (by omega) (by omega)), g3⟩
theorem relI_w {ic kp w w' : Nat → Int32} {kept : Int32} (h : RelI ic kp kept w) (e : ∀ i, 90 ≤ i → w' i = w i) : RelI ic kp kept w' := by
  obtain ⟨k0, k1, h1, h2, h3, h4, h5, h6, h7⟩ := h
  refine ⟨k0, k1, h1, h2, h3, h4, h5, fun q => ?_, fun q => ?_⟩
  · obtain ⟨a, b, ms, ns, g1, g2, g3⟩ := h6 q
    exact ⟨a, b, ms, ns, g1, rowM_eq g2 (fun j hj => e _ (by omega)), g3⟩
  · obtain ⟨a, b, ms, ns, g1, g2, g3⟩ := h7 q
    exact ⟨a, b, ms, ns, g1, rowM_eq g2 (fun j hj => e _ (by omega)), g3⟩
theorem pushH {a b ol hn known kept : Int32} {ms ns hc ic kp w : Nat → Int32} (hS : RelS a b ms ns w) (hH : RelH ol hn hc known w) (hI : RelI ic kp kept w) : ∃ (ol' hn' kn' : Int32) (hc' : Nat → Int32), F_X1_remember ol hn hc a b ms ns = some (ol', hn', hc') ∧ F_X7_remember known w = some (kn', sh 0 w) ∧ RelH ol' hn' hc' kn' (sh 0 w) ∧ RelI ic kp kept (sh 0 w) ∧ RelS a b ms ns (sh 0 w) := by
  obtain ⟨kn, o, rfl, rfl, rfl, h4, h5, h6⟩ := hH
  have e1 : (nI o + nI kn) - (nI o + nI kn) / (8 : Int32) * (8 : Int32) = nI ((o + kn) % 8) := by
    rw [nI_add, show (8 : Int32) = nI 8 from rfl, pk_rem (by omega) (by omega) (by omega)]
  have e2 : nI ((o + kn) % 8) * (10 : Int32) = nI (10 * ((o + kn) % 8)) := by
    rw [show (10 : Int32) = nI 10 from rfl, pk_mul, Nat.mul_comm]
  obtain ⟨hc', c1, c2, c3⟩ := intoC (n := 80) (q := 10 * ((o + kn) % 8)) (by omega) (by omega) a b ms ns hc
  have sw0 : ∀ j, j < 10 → sh 0 w j = w j := fun j hj => by unfold sh; rw [if_neg (by omega)]
  have sw1 : ∀ k j, 1 ≤ k → k ≤ 8 → j < 10 → sh 0 w (10 * k + j) = w (10 * (k - 1) + j) := fun k j h1 h2 h3 => by
    unfold sh; rw [if_pos (by omega)]; congr 1; omega
  have sw2 : ∀ j, 90 ≤ j → sh 0 w j = w j := fun j hj => by unfold sh; rw [if_neg (by omega)]
  have hR1 : F_X1_remember (nI o) (nI kn) hc a b ms ns = if (8 : Int32) ≤ nI kn then some ((nI o + 1) - (nI o + 1) / 8 * 8, nI kn, hc') else some (nI o, nI kn + 1, hc') := by
    unfold F_X1_remember
    rw [e1, e2, c1]; rfl
  have hS' : RelS a b ms ns (sh 0 w) := ⟨rowM_eq hS.1 (fun j hj => by rw [Nat.zero_add]; exact sw0 j hj), hS.2⟩
  rw [hR1, remM w h4]
  by_cases c : kn < 8
  · rw [if_neg (by rw [show (8 : Int32) = nI 8 from rfl, nI_leI (by omega) (by omega)]; omega), if_pos c, nI_i1]
    refine ⟨_, _, _, _, rfl, rfl, ⟨kn + 1, o, rfl, rfl, rfl, by omega, h5, fun k k1 k2 => ?_⟩, relI_w hI sw2, hS'⟩
    rcases Nat.lt_or_ge 1 k with z | z
    · obtain ⟨a1, b1, m1, n1, g1, g2, g3⟩ := h6 (k - 1) (by omega) (by omega)
      refine ⟨a1, b1, m1, n1, g1, rowM_eq g2 (fun j hj => sw1 k j k1 (by omega) hj), ?_⟩
      have e5 : (o + (kn + 1) - k) % 8 = (o + kn - (k - 1)) % 8 := by congr 1; omega
      rw [e5]
      exact rowC_eq g3 (fun j hj => c3 _ (by omega))
    · have : k = 1 := by omega
      subst this
      refine ⟨a, b, ms, ns, hS.2, rowM_eq hS.1 (fun j hj => sw1 1 j (by omega) (by omega) hj), ?_⟩
      have e5 : (o + (kn + 1) - 1) % 8 = (o + kn) % 8 := by congr 1
      rw [e5]; exact c2
  · have : kn = 8 := by omega
    subst this
    have e6 : (nI o + (1 : Int32)) - (nI o + (1 : Int32)) / (8 : Int32) * (8 : Int32) = nI ((o + 1) % 8) := by
      rw [nI_i1, show (8 : Int32) = nI 8 from rfl, pk_rem (by omega) (by omega) (by omega)]
    rw [if_pos (by decide), if_neg c, e6]
    refine ⟨_, _, _, _, rfl, rfl, ⟨8, (o + 1) % 8, rfl, rfl, rfl, by omega, by omega, fun k k1 k2 => ?_⟩, relI_w hI sw2, hS'⟩
    rcases Nat.lt_or_ge 1 k with z | z
    · obtain ⟨a1, b1, m1, n1, g1, g2, g3⟩ := h6 (k - 1) (by omega) (by omega)
      refine ⟨a1, b1, m1, n1, g1, rowM_eq g2 (fun j hj => sw1 k j k1 (by omega) hj), ?_⟩
      have e5 : ((o + 1) % 8 + 8 - k) % 8 = (o + 8 - (k - 1)) % 8 := by omega
      rw [e5]
      exact rowC_eq g3 (fun j hj => c3 _ (by omega))
    · have : k = 1 := by omega
      subst this
      refine ⟨a, b, ms, ns, hS.2, rowM_eq hS.1 (fun j hj => sw1 1 j (by omega) (by omega) hj), ?_⟩
      have e5 : ((o + 1) % 8 + 8 - 1) % 8 = (o + 8) % 8 := by omega
      rw [e5]; exact c2
theorem mIdx (i : Nat) : (2 : Int32) + (2 : Int32) * nI i = nI (2 + 2 * i) := by rw [show (2 : Int32) = nI 2 from rfl, pk_mul, nI_add]
theorem nIdx (i : Nat) : (3 : Int32) + (2 : Int32) * nI i = nI (3 + 2 * i) := by rw [show (2 : Int32) = nI 2 from rfl, show (3 : Int32) = nI 3 from rfl, pk_mul, nI_add]
theorem mOfM {w : Nat → Int32} {i : Nat} (hi : i < 4) : F_X7_mOf (nI i) w = some (w (2 + 2 * i)) := by
  unfold F_X7_mOf; rw [mIdx, inr_t (by omega) (by omega), nI_cl (by omega)]
theorem nOfM {w : Nat → Int32} {i : Nat} (hi : i < 4) : F_X7_nOf (nI i) w = some (w (3 + 2 * i)) := by
  unfold F_X7_nOf; rw [nIdx, inr_t (by omega) (by omega), nI_cl (by omega)]
theorem rS {a b : Int32} {ms ns w : Nat → Int32} (h : RelS a b ms ns w) {i : Nat} (hi : i < 4) : w (2 + 2 * i) = ms i ∧ w (3 + 2 * i) = ns i := by
  have := h.1.2.2 i hi
  rw [Nat.zero_add, Nat.zero_add] at this
  exact this
theorem rS0 {a b : Int32} {ms ns w : Nat → Int32} (h : RelS a b ms ns w) : w 0 = a ∧ w 1 = b := ⟨h.1.1, h.1.2.1⟩
/-- a number comes onto a shelf, on both sides -/
theorem layEq {a b ol hn known kept : Int32} {ms ns hc ic kp w : Nat → Int32} (hS : RelS a b ms ns w) (hH : RelH ol hn hc known w) (hI : RelI ic kp kept w) {i : Nat} (hi : i < 4) {m n : Int} (hm : -999999 ≤ m ∧ m ≤ 999999) (hn0 : -999999 ≤ n ∧ n ≤ 999999) : ∃ (ol' hn' kn' : Int32) (hc' ms' ns' w' : Nat → Int32), F_X6_lay (nI i) (lz m) (lz n) a b ms ns ol hn hc = some (sgz (Vv a.toInt (Rf a.toInt b.toInt) m n), ms', ns', ol', hn', hc') ∧ F_X7_set (nI i) (lz m) (lz n) known w = some (sgz (Vv a.toInt (Rf a.toInt b.toInt) m n), kn', w') ∧ RelS a b ms' ns' w' ∧ RelH ol' hn' hc' kn' w' ∧ RelI ic kp kept w' ∧ w' (2 + 2 * i) = iz m := by
  obtain ⟨ol', hn', kn', hc', p1, p2, p3, p4, p5⟩ := pushH hS hH hI
  have hV := hS.2.1
  have w0 := rS0 p5
  refine ⟨ol', hn', kn', hc', upd ms i (iz m), upd ns i (iz n), upd (upd (sh 0 w) (2 + 2 * i) (iz m)) (3 + 2 * i) (iz n), ?_, ?_, ⟨⟨?_, ?_, ?_⟩, hV, ?_⟩, relH_w p3 (fun j h1 h2 => by rw [pk_un (by omega), pk_un (by omega)]), relI_w p4 (fun j h1 => by rw [pk_un (by omega), pk_un (by omega)]), by rw [pk_un (by omega), pk_us]⟩
  · unfold F_X6_lay
    rw [oobC (by omega), oobC (by omega), if_pos hm, if_pos hn0, if_pos rfl, if_pos rfl, p1]
    show ck (nI i) 4 _ = _
    rw [inr_t hi (by omega), nI_cl (by omega)]
    unfold F_X6_signOf
    rw [inr_t hi (by omega), nI_cl (by omega), l2i, l2i, pk_us, pk_us, i2l, i2l, iz_to (by omega) (by omega), iz_to (by omega) (by omega), sgC hV (by omega) (by omega)]
    rfl
  · unfold F_X7_set
    rw [p2]
    show ck _ 110 _ = _
    rw [mIdx, nIdx, inr_t (by omega) (by omega), inr_t (by omega) (by omega), nI_cl (by omega), nI_cl (by omega), l2i, l2i]
    have e0 : upd (upd (sh 0 w) (2 + 2 * i) (iz m)) (3 + 2 * i) (iz n) 0 = a := by rw [pk_un (by omega), pk_un (by omega), w0.1]
    have e1 : upd (upd (sh 0 w) (2 + 2 * i) (iz m)) (3 + 2 * i) (iz n) 1 = b := by rw [pk_un (by omega), pk_un (by omega), w0.2]
    have := sgM (w := upd (upd (sh 0 w) (2 + 2 * i) (iz m)) (3 + 2 * i) (iz n)) (m := m) (n := n) (by rw [e0, e1]; exact hV) (by omega) (by omega)
    rw [e0, e1] at this
    rw [this]
  · rw [pk_un (by omega), pk_un (by omega), w0.1]
  · rw [Nat.zero_add, pk_un (by omega), pk_un (by omega), w0.2]
  · intro j hj
    rw [Nat.zero_add, Nat.zero_add]
    by_cases c : j = i
    · subst c
      rw [pk_un (by omega), pk_us, pk_us, pk_us, pk_us]
      exact ⟨rfl, rfl⟩
    · refine ⟨?_, ?_⟩
      · rw [pk_un (by omega), pk_un (by omega), pk_un c]; exact (rS p5 hj).1
      · rw [pk_un (by omega), pk_un (by omega), pk_un c]; exact (rS p5 hj).2
  · intro j hj
    by_cases c : j = i
    · subst c
      rw [pk_us, pk_us, iz_to (by omega) (by omega), iz_to (by omega) (by omega)]
      exact ⟨hm, hn0⟩
    · rw [pk_un c, pk_un c]; exact hS.2.2 j hj
/-- the same, or it is full -/
theorem setEq {a b ol hn known kept : Int32} {ms ns hc ic kp w : Nat → Int32} (hS : RelS a b ms ns w) (hH : RelH ol hn hc known w) (hI : RelI ic kp kept w) {i : Nat} (hi : i < 4) {m n : Int} (hm : -9223372036854775808 ≤ m ∧ m < 9223372036854775808) (hn0 : -9223372036854775808 ≤ n ∧ n < 9223372036854775808) : ∃ (r ol' hn' kn' : Int32) (hc' ms' ns' w' : Nat → Int32), F_X6_lay (nI i) (lz m) (lz n) a b ms ns ol hn hc = some (r, ms', ns', ol', hn', hc') ∧ F_X7_setIn (nI i) (lz m) (lz n) known w = some (r, kn', w') ∧ RelS a b ms' ns' w' ∧ RelH ol' hn' hc' kn' w' ∧ RelI ic kp kept w' := by
  by_cases c1 : -999999 ≤ m ∧ m ≤ 999999
  · by_cases c2 : -999999 ≤ n ∧ n ≤ 999999
    · obtain ⟨ol', hn', kn', hc', ms', ns', w', r1, r2, r3, r4, r5, -⟩ := layEq hS hH hI hi c1 c2
      refine ⟨_, ol', hn', kn', hc', ms', ns', w', r1, ?_, r3, r4, r5⟩
      unfold F_X7_setIn
      rw [inB hm, inB hn0, if_pos c1, if_pos c2, if_neg (by decide), if_neg (by decide), r2]
      rfl
    · refine ⟨-2000000004, ol, hn, known, hc, ms, ns, w, ?_, ?_, hS, hH, hI⟩
      · unfold F_X6_lay
        rw [oobC hm, oobC hn0, if_pos c1, if_neg c2, if_pos rfl, if_neg (by decide)]
      · unfold F_X7_setIn
        rw [inB hm, inB hn0, if_pos c1, if_neg c2, if_neg (by decide), if_pos rfl]
  · refine ⟨-2000000004, ol, hn, known, hc, ms, ns, w, ?_, ?_, hS, hH, hI⟩
    · unfold F_X6_lay
      rw [oobC hm, if_neg c1, if_neg (by decide)]
    · unfold F_X7_setIn
      rw [inB hm, if_neg c1, if_pos rfl]
