theorem ofEq (x2 : Int32) {a b : Int32} {ms ns w : Nat → Int32} (hS : RelS a b ms ns w) {i : Nat} (hi : i < 4) (hx : x2 = 3 ∨ x2 = 4 ∨ x2 = 5 ∨ x2 = 6 ∨ x2 = 7) {v_ahead v_behind v_ends v_lead v_round v_ofA v_ofB v_ofM v_ofN : Int32} {v_figures : Nat → Int32} (hc : Ca v_ofA v_ofB v_ofM v_ofN v_ahead v_behind v_ends v_lead v_round v_figures) (v_leftM v_leftN : Int64) (v_powerMs v_powerNs v_restMs v_restNs : Nat → Int64) (v_high v_bm v_en0 v_le0 v_ro0 : Int32) (v_ah0 v_be0 : Nat → Int32) (v_rM0 v_rN0 v_pM0 v_pN0 : Nat → Int64) :
    ∃ (r : Int32) (o_ah o_be o_en o_le o_ro : Int32) (o_lM o_lN : Int64) (o_A o_B o_M o_N : Int32) (o_figs : Nat → Int32) (o_pM o_pN o_rM o_rN : Nat → Int64) (om : Int32 × Int32 × Int32 × Int32 × Int32 × Int32 × (Nat → Int32) × (Nat → Int32) × (Nat → Int64) × (Nat → Int64) × (Nat → Int64) × (Nat → Int64)), ((F_X6_spellShelf (nI i) a b ms ns v_ahead v_behind v_ends v_lead v_round v_leftM v_leftN v_ofA v_ofB v_ofM v_ofN v_figures v_powerMs v_powerNs v_restMs v_restNs).bind fun o => (if o.1 = 0 then (some ((-2000000003 : Int32), o.2.1, o.2.2.1, o.2.2.2.1, o.2.2.2.2.1, o.2.2.2.2.2.1, o.2.2.2.2.2.2.1, o.2.2.2.2.2.2.2.1, o.2.2.2.2.2.2.2.2.1, o.2.2.2.2.2.2.2.2.2.1, o.2.2.2.2.2.2.2.2.2.2.1, o.2.2.2.2.2.2.2.2.2.2.2.1, o.2.2.2.2.2.2.2.2.2.2.2.2.1, o.2.2.2.2.2.2.2.2.2.2.2.2.2.1, o.2.2.2.2.2.2.2.2.2.2.2.2.2.2.1, o.2.2.2.2.2.2.2.2.2.2.2.2.2.2.2.1, o.2.2.2.2.2.2.2.2.2.2.2.2.2.2.2.2)) else (some ((F_X5_tell x2 o.2.1 o.2.2.1 o.2.2.2.1 o.2.2.2.2.1 o.2.2.2.2.2.1), o.2.1, o.2.2.1, o.2.2.2.1, o.2.2.2.2.1, o.2.2.2.2.2.1, o.2.2.2.2.2.2.1, o.2.2.2.2.2.2.2.1, o.2.2.2.2.2.2.2.2.1, o.2.2.2.2.2.2.2.2.2.1, o.2.2.2.2.2.2.2.2.2.2.1, o.2.2.2.2.2.2.2.2.2.2.2.1, o.2.2.2.2.2.2.2.2.2.2.2.2.1, o.2.2.2.2.2.2.2.2.2.2.2.2.2.1, o.2.2.2.2.2.2.2.2.2.2.2.2.2.2.1, o.2.2.2.2.2.2.2.2.2.2.2.2.2.2.2.1, o.2.2.2.2.2.2.2.2.2.2.2.2.2.2.2.2)))) = some (r, o_ah, o_be, o_en, o_le, o_ro, o_lM, o_lN, o_A, o_B, o_M, o_N, o_figs, o_pM, o_pN, o_rM, o_rN) ∧ F_X7_writtenOf (nI i) x2 v_high v_bm v_en0 v_le0 v_ro0 w v_ah0 v_be0 v_rM0 v_rN0 v_pM0 v_pN0 = some om ∧ om.1 = r ∧ Ca o_A o_B o_M o_N o_ah o_be o_en o_le o_ro o_figs := by
  unfold F_X5_tell F_X7_writtenOf
  rw [mOfM hi, nOfM hi, (rS hS hi).1, (rS hS hi).2]
  rcases shW hS hi hc v_leftM v_leftN v_powerMs v_powerNs v_restMs v_restNs with ⟨e1, e2⟩ | ⟨e2, h, c, fig, en, le, ro, lM, lN, figs, pM, pN, rM, rN, e1, g1, g2, g3, g4, g5, g6⟩
  · rw [e1, bso, bso, bso, if_neg e2, if_pos t00]
    exact ⟨_, _, _, _, _, _, _, _, _, _, _, _, _, _, _, _, _, _, rfl, rfl, rfl, hc⟩
  · obtain ⟨ah, be, rM', rN', pM', pN', q1, q2, q3⟩ := g6 v_bm v_en0 v_le0 v_ro0 v_ah0 v_be0 v_rM0 v_rN0 v_pM0 v_pN0
    rw [e1, bso, bso, bso, if_pos e2, if_neg n10, bso, bso, i2l, i2l, q1, bso]
    by_cases c3 : x2 = 3
    · rw [if_pos c3, if_pos c3]
      exact ⟨_, _, _, _, _, _, _, _, _, _, _, _, _, _, _, _, _, _, rfl, rfl, nI_i1 h, g1⟩
    rw [if_neg c3, if_neg c3]
    by_cases c4 : x2 = 4
    · rw [if_pos c4, if_pos c4]
      exact ⟨_, _, _, _, _, _, _, _, _, _, _, _, _, _, _, _, _, _, rfl, rfl, rfl, g1⟩
    rw [if_neg c4, if_neg c4]
    by_cases c5 : x2 = 5
    · rw [if_pos c5, if_pos c5]
      rcases g5 with ⟨k1, k2, k3⟩ | k1
      · rw [if_neg (show ¬ en = 0 from by rw [k1]; exact n10)]
        exact ⟨_, _, _, _, _, _, _, _, _, _, _, _, _, _, _, _, _, _, rfl, rfl, k1, g1⟩
      · rw [if_pos k1]
        exact ⟨_, _, _, _, _, _, _, _, _, _, _, _, _, _, _, _, _, _, rfl, rfl, k1, g1⟩
    rw [if_neg c5, if_neg c5]
    by_cases c6 : x2 = 6
    · rw [if_pos c6, if_pos c6]
      rcases g5 with ⟨k1, k2, k3⟩ | k1
      · rw [if_pos k1]
        exact ⟨_, _, _, _, _, _, _, _, _, _, _, _, _, _, _, _, _, _, rfl, rfl, k2.symm, g1⟩
      · rw [if_neg (show ¬ en = 1 from by rw [k1]; decide)]
        exact ⟨_, _, _, _, _, _, _, _, _, _, _, _, _, _, _, _, _, _, rfl, rfl, rfl, g1⟩
    rw [if_neg c6, if_neg c6]
    rcases g5 with ⟨k1, k2, k3⟩ | k1
    · rw [if_pos k1]
      exact ⟨_, _, _, _, _, _, _, _, _, _, _, _, _, _, _, _, _, _, rfl, rfl, k3.symm, g1⟩
    · rw [if_neg (show ¬ en = 1 from by rw [k1]; decide)]
      exact ⟨_, _, _, _, _, _, _, _, _, _, _, _, _, _, _, _, _, _, rfl, rfl, rfl, g1⟩
theorem ne_int {x : Int32} {k : Int} (hk : -2147483648 ≤ k ∧ k < 2147483648) (h : ¬ x = iz k) : ¬ x.toInt = k := fun q => h (by rw [← q, iz_self])
theorem coreShelf (x1 x2 : Int32) {a b : Int32} {ms ns w : Nat → Int32} (hS : RelS a b ms ns w) {v_ahead v_behind v_ends v_lead v_round v_ofA v_ofB v_ofM v_ofN : Int32} {v_figures : Nat → Int32} (hc : Ca v_ofA v_ofB v_ofM v_ofN v_ahead v_behind v_ends v_lead v_round v_figures) (v_leftM v_leftN : Int64) (v_powerMs v_powerNs v_restMs v_restNs : Nat → Int64) (v_high v_bm v_en0 v_le0 v_ro0 : Int32) (v_ah0 v_be0 : Nat → Int32) (v_rM0 v_rN0 v_pM0 v_pN0 : Nat → Int64) :
    ∃ (r : Int32) (o_ah o_be o_en o_le o_ro : Int32) (o_lM o_lN : Int64) (o_A o_B o_M o_N : Int32) (o_figs : Nat → Int32) (o_pM o_pN o_rM o_rN : Nat → Int64) (om : Int32 × Int32 × Int32 × Int32 × Int32 × Int32 × (Nat → Int32) × (Nat → Int32) × (Nat → Int64) × (Nat → Int64) × (Nat → Int64) × (Nat → Int64)), F_X6_shelf x1 x2 a b ms ns v_ahead v_behind v_ends v_lead v_round v_leftM v_leftN v_ofA v_ofB v_ofM v_ofN v_figures v_powerMs v_powerNs v_restMs v_restNs = some (r, o_ah, o_be, o_en, o_le, o_ro, o_lM, o_lN, o_A, o_B, o_M, o_N, o_figs, o_pM, o_pN, o_rM, o_rN) ∧ F_X7_shelf x1 x2 v_high v_bm v_en0 v_le0 v_ro0 w v_ah0 v_be0 v_rM0 v_rN0 v_pM0 v_pN0 = some om ∧ om.1 = r ∧ Ca o_A o_B o_M o_N o_ah o_be o_en o_le o_ro o_figs := by
  unfold F_X6_shelf F_X7_shelf
  rcases shelfC x1 with ⟨c1, c2, i, hi, rfl⟩ | ⟨c1, c2⟩
  · have hi2 := hS.2.2 i hi
    have w0 := rS0 hS
    have hV := hS.2.1
    rw [if_pos c1, if_neg c2]
    by_cases k0 : x2 = 0
    · rw [if_pos k0, if_pos k0, inr_t hi (by omega), nI_cl (by omega), mOfM hi, (rS hS hi).1]
      exact ⟨_, _, _, _, _, _, _, _, _, _, _, _, _, _, _, _, _, _, rfl, rfl, rfl, hc⟩
    rw [if_neg k0, if_neg k0]
    by_cases k1 : x2 = 1
    · rw [if_pos k1, if_pos k1, inr_t hi (by omega), nI_cl (by omega), nOfM hi, (rS hS hi).2]
      exact ⟨_, _, _, _, _, _, _, _, _, _, _, _, _, _, _, _, _, _, rfl, rfl, rfl, hc⟩
    rw [if_neg k1, if_neg k1]
    by_cases k2 : x2 = 2
    · have sM := sgM (w := w) (m := (ms i).toInt) (n := (ns i).toInt) (by rw [w0.1, w0.2]; exact hV) (by omega) (by omega)
      rw [w0.1, w0.2] at sM
      rw [if_pos k2, if_pos k2, mOfM hi, nOfM hi, (rS hS hi).1, (rS hS hi).2]
      unfold F_X6_signOf
      rw [inr_t hi (by omega), nI_cl (by omega), i2l, i2l, sgC hV (by omega) (by omega), bso, bso, bso, i2l, i2l, sM]
      exact ⟨_, _, _, _, _, _, _, _, _, _, _, _, _, _, _, _, _, _, rfl, rfl, rfl, hc⟩
    rw [if_neg k2, if_neg k2]
    by_cases k3 : x2 = 3
    · obtain ⟨r, o_ah, o_be, o_en, o_le, o_ro, o_lM, o_lN, o_A, o_B, o_M, o_N, o_figs, o_pM, o_pN, o_rM, o_rN, om, e1, e2, e3, e4⟩ := ofEq x2 hS hi (by simp only [k3, true_or, or_true]) hc v_leftM v_leftN v_powerMs v_powerNs v_restMs v_restNs v_high v_bm v_en0 v_le0 v_ro0 v_ah0 v_be0 v_rM0 v_rN0 v_pM0 v_pN0
      rw [if_pos k3, if_pos k3, if_neg (by rw [k3]; decide), e1, e2, bso]
      exact ⟨_, _, _, _, _, _, _, _, _, _, _, _, _, _, _, _, _, _, rfl, rfl, e3, e4⟩
    rw [if_neg k3, if_neg k3]
    by_cases k4 : x2 = 4
    · obtain ⟨r, o_ah, o_be, o_en, o_le, o_ro, o_lM, o_lN, o_A, o_B, o_M, o_N, o_figs, o_pM, o_pN, o_rM, o_rN, om, e1, e2, e3, e4⟩ := ofEq x2 hS hi (by simp only [k4, true_or, or_true]) hc v_leftM v_leftN v_powerMs v_powerNs v_restMs v_restNs v_high v_bm v_en0 v_le0 v_ro0 v_ah0 v_be0 v_rM0 v_rN0 v_pM0 v_pN0
      rw [if_pos k4, if_pos k4, if_neg (by rw [k4]; decide), e1, e2, bso]
      exact ⟨_, _, _, _, _, _, _, _, _, _, _, _, _, _, _, _, _, _, rfl, rfl, e3, e4⟩
    rw [if_neg k4, if_neg k4]
    by_cases k5 : x2 = 5
    · obtain ⟨r, o_ah, o_be, o_en, o_le, o_ro, o_lM, o_lN, o_A, o_B, o_M, o_N, o_figs, o_pM, o_pN, o_rM, o_rN, om, e1, e2, e3, e4⟩ := ofEq x2 hS hi (by simp only [k5, true_or, or_true]) hc v_leftM v_leftN v_powerMs v_powerNs v_restMs v_restNs v_high v_bm v_en0 v_le0 v_ro0 v_ah0 v_be0 v_rM0 v_rN0 v_pM0 v_pN0
      rw [if_pos k5, if_pos k5, if_neg (by rw [k5]; decide), e1, e2, bso]
      exact ⟨_, _, _, _, _, _, _, _, _, _, _, _, _, _, _, _, _, _, rfl, rfl, e3, e4⟩
    rw [if_neg k5, if_neg k5]
    by_cases k6 : x2 = 6
    · obtain ⟨r, o_ah, o_be, o_en, o_le, o_ro, o_lM, o_lN, o_A, o_B, o_M, o_N, o_figs, o_pM, o_pN, o_rM, o_rN, om, e1, e2, e3, e4⟩ := ofEq x2 hS hi (by simp only [k6, true_or, or_true]) hc v_leftM v_leftN v_powerMs v_powerNs v_restMs v_restNs v_high v_bm v_en0 v_le0 v_ro0 v_ah0 v_be0 v_rM0 v_rN0 v_pM0 v_pN0
      rw [if_pos k6, if_pos k6, if_neg (by rw [k6]; decide), e1, e2, bso]
      exact ⟨_, _, _, _, _, _, _, _, _, _, _, _, _, _, _, _, _, _, rfl, rfl, e3, e4⟩
    rw [if_neg k6, if_neg k6]
    by_cases k7 : x2 = 7
    · obtain ⟨r, o_ah, o_be, o_en, o_le, o_ro, o_lM, o_lN, o_A, o_B, o_M, o_N, o_figs, o_pM, o_pN, o_rM, o_rN, om, e1, e2, e3, e4⟩ := ofEq x2 hS hi (by simp only [k7, or_true]) hc v_leftM v_leftN v_powerMs v_powerNs v_restMs v_restNs v_high v_bm v_en0 v_le0 v_ro0 v_ah0 v_be0 v_rM0 v_rN0 v_pM0 v_pN0
      rw [if_pos k7, if_pos k7, if_neg (by rw [k7]; decide), e1, e2, bso]
      exact ⟨_, _, _, _, _, _, _, _, _, _, _, _, _, _, _, _, _, _, rfl, rfl, e3, e4⟩
    rw [if_neg k7, if_neg k7]
    by_cases k8 : x2 = 8
    · have sM := wlM (w := w) (m := (ms i).toInt) (n := (ns i).toInt) (by rw [w0.1, w0.2]; exact hV) (by omega) (by omega)
      rw [w0.1, w0.2] at sM
      rw [if_pos k8, if_pos k8, mOfM hi, nOfM hi, (rS hS hi).1, (rS hS hi).2, inr_t hi (by omega), nI_cl (by omega), i2l, i2l, wlC hV (by omega) (by omega), bso, bso, bso, i2l, i2l, sM, bso]
      exact ⟨_, _, _, _, _, _, _, _, _, _, _, _, _, _, _, _, _, _, rfl, rfl, rfl, hc⟩
    rw [if_neg k8, if_neg k8]
    have n3 := ne_int (k := 3) (by decide) k3
    have n4 := ne_int (k := 4) (by decide) k4
    have n5 := ne_int (k := 5) (by decide) k5
    have n6 := ne_int (k := 6) (by decide) k6
    have n7 := ne_int (k := 7) (by decide) k7
    have hx := i_rng x2
    have e : F_X7_in x2.toInt64 (3 : Int64) (7 : Int64) = 0 := by
      rw [i2l, show (3 : Int64) = lz 3 from rfl, show (7 : Int64) = lz 7 from rfl, inM (v := x2.toInt) (lo := 3) (hi := 7) (by omega) (by decide) (by decide), if_neg (by omega)]
    rw [if_pos e]
    exact ⟨_, _, _, _, _, _, _, _, _, _, _, _, _, _, _, _, _, _, rfl, rfl, rfl, hc⟩
  · rw [if_neg c1, if_pos c2]; exact ⟨_, _, _, _, _, _, _, _, _, _, _, _, _, _, _, _, _, _, rfl, rfl, rfl, hc⟩
theorem coreFigure (x1 x2 : Int32) {a b : Int32} {ms ns w : Nat → Int32} (hS : RelS a b ms ns w) {v_ahead v_behind v_ends v_lead v_round v_ofA v_ofB v_ofM v_ofN : Int32} {v_figures : Nat → Int32} (hc : Ca v_ofA v_ofB v_ofM v_ofN v_ahead v_behind v_ends v_lead v_round v_figures) (v_leftM v_leftN : Int64) (v_powerMs v_powerNs v_restMs v_restNs : Nat → Int64) (v_high v_bm v_en0 v_le0 v_ro0 : Int32) (v_ah0 v_be0 : Nat → Int32) (v_rM0 v_rN0 v_pM0 v_pN0 : Nat → Int64) :
    ∃ (r : Int32) (o_ah o_be o_en o_le o_ro : Int32) (o_lM o_lN : Int64) (o_A o_B o_M o_N : Int32) (o_figs : Nat → Int32) (o_pM o_pN o_rM o_rN : Nat → Int64) (om : Int32 × Int32 × Int32 × Int32 × Int32 × Int32 × (Nat → Int32) × (Nat → Int32) × (Nat → Int64) × (Nat → Int64) × (Nat → Int64) × (Nat → Int64)), F_X6_figure x1 x2 a b ms ns v_ahead v_behind v_ends v_lead v_round v_leftM v_leftN v_ofA v_ofB v_ofM v_ofN v_figures v_powerMs v_powerNs v_restMs v_restNs = some (r, o_ah, o_be, o_en, o_le, o_ro, o_lM, o_lN, o_A, o_B, o_M, o_N, o_figs, o_pM, o_pN, o_rM, o_rN) ∧ F_X7_figure x1 x2 v_high v_bm v_en0 v_le0 v_ro0 w v_ah0 v_be0 v_rM0 v_rN0 v_pM0 v_pN0 = some om ∧ om.1 = r ∧ Ca o_A o_B o_M o_N o_ah o_be o_en o_le o_ro o_figs := by
  unfold F_X6_figure F_X7_figure
  rcases shelfC x1 with ⟨c1, c2, i, hi, rfl⟩ | ⟨c1, c2⟩
  · rw [if_pos c1, if_neg c2]
    obtain ⟨z, hz, rfl⟩ := iz_of x2
    have ein : F_X7_in (iz z).toInt64 (-40 : Int64) (60 : Int64) = if -40 ≤ z ∧ z ≤ 60 then 1 else 0 := by
      rw [i2l, iz_to (by omega) (by omega), show (-40 : Int64) = lz (-40) from rfl, show (60 : Int64) = lz 60 from rfl, inM (v := z) (lo := -40) (hi := 60) (by omega) (by decide) (by decide)]
    rw [ein, show (-40 : Int32) = iz (-40) from rfl, show (60 : Int32) = iz 60 from rfl]
    by_cases k1 : z < -40
    · rw [if_pos ((iz_lt (by omega) (by omega)).mpr k1), if_neg (show ¬ (-40 ≤ z ∧ z ≤ 60) from by omega), if_pos t00]
      exact ⟨_, _, _, _, _, _, _, _, _, _, _, _, _, _, _, _, _, _, rfl, rfl, rfl, hc⟩
    rw [if_neg (fun q => k1 ((iz_lt (by omega) (by omega)).mp q))]
    by_cases k2 : z ≤ 60
    · rw [if_pos ((iz_le (by omega) (by omega)).mpr k2), if_pos (show -40 ≤ z ∧ z ≤ 60 from by omega), if_neg n10, mOfM hi, nOfM hi, (rS hS hi).1, (rS hS hi).2]
      rcases shW hS hi hc v_leftM v_leftN v_powerMs v_powerNs v_restMs v_restNs with ⟨e1, e2⟩ | ⟨e2, h, c, fig, en, le, ro, lM, lN, figs, pM, pN, rM, rN, e1, g1, g2, g3, g4, g5, g6⟩
      · rw [e1, bso, bso, bso, if_neg e2, if_pos t00]
        exact ⟨_, _, _, _, _, _, _, _, _, _, _, _, _, _, _, _, _, _, rfl, rfl, rfl, hc⟩
      · obtain ⟨ah, be, rM', rN', pM', pN', q1, q2, q3⟩ := g6 v_bm v_en0 v_le0 v_ro0 v_ah0 v_be0 v_rM0 v_rN0 v_pM0 v_pN0
        rw [e1, bso, bso, bso, if_pos e2, if_neg n10, bso, bso, i2l, i2l, q1, bso, figAt g2 g3 q2 q3 (by omega), bso]
        have ei : (nI (h + 1) - (1 : Int32)) - iz z = iz ((h : Int) - z) := by
          rw [nI_is, show (1 : Int32) = iz 1 from rfl, iz_sub, iz_sub]
          exact congrArg iz (by omega)
        have hh := hasC g2 g3 (z := (h : Int) - z) (by omega)
        by_cases k3 : -(c : Int) ≤ z ∧ z ≤ h
        · rw [if_pos (show 0 ≤ (h : Int) - z ∧ (h : Int) - z < (h : Int) + 1 + c from by omega)] at hh
          dsimp only
          rw [ei, hh, if_neg n10, izn (by omega), inr_t (by omega) (by omega), nI_cl (by omega), if_pos k3, (g4 _ (by omega)).2]
          exact ⟨_, _, _, _, _, _, _, _, _, _, _, _, _, _, _, _, _, _, rfl, rfl, rfl, g1⟩
        · rw [if_neg (show ¬ (0 ≤ (h : Int) - z ∧ (h : Int) - z < (h : Int) + 1 + c) from by omega)] at hh
          dsimp only
          rw [ei, hh, if_pos t00, if_neg k3]
          exact ⟨_, _, _, _, _, _, _, _, _, _, _, _, _, _, _, _, _, _, rfl, rfl, rfl, g1⟩
    · rw [if_neg (fun q => k2 ((iz_le (by omega) (by omega)).mp q)), if_neg (show ¬ (-40 ≤ z ∧ z ≤ 60) from by omega), if_pos t00]
      exact ⟨_, _, _, _, _, _, _, _, _, _, _, _, _, _, _, _, _, _, rfl, rfl, rfl, hc⟩
  · rw [if_neg c1, if_pos c2]; exact ⟨_, _, _, _, _, _, _, _, _, _, _, _, _, _, _, _, _, _, rfl, rfl, rfl, hc⟩
