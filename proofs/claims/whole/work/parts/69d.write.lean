theorem iz_neg (x : Int) : -iz x = iz (-x) := (Int32.ofInt_neg x).symm
theorem izn {z : Int} (h : 0 ≤ z) : iz z = nI z.toNat := by rw [nI_is, Int.toNat_of_nonneg h]
/-- both have written the same of x and y times B -/
def Bth (a b x y : Int32) (w : Nat → Int32) (h c : Nat) (fig : Nat → Nat) (en le ro : Int32) (figs : Nat → Int32) : Prop :=
  Ca a b x y (nI (h + 1)) (nI c) en le ro figs ∧ h < 40 ∧ c ≤ 40 ∧ (∀ i, i < h + 1 + c → fig i ≤ 9 ∧ figs i = nI (fig i)) ∧ ((en = 1 ∧ le = -1 ∧ ro = -1) ∨ en = 0) ∧ ∀ (bm en0 le0 ro0 : Int32) (ah0 be0 : Nat → Int32) (rM0 rN0 pM0 pN0 : Nat → Int64), ∃ (ah be : Nat → Int32) (rM rN pM pN : Nat → Int64), F_X7_layWritten (lz x.toInt) (lz y.toInt) bm en0 le0 ro0 w ah0 be0 rM0 rN0 pM0 pN0 = some (nI h, nI c, en, le, ro, ah, be, rM, rN, pM, pN) ∧ (∀ i, i ≤ h → ah (h - i) = nI (fig i)) ∧ (∀ i, i < c → be i = nI (fig (h + 1 + i)))
theorem dg_bd {a b R k M N : Int} (hV : VB a b) (B : BF a b R k) (hM : -999999 ≤ M ∧ M ≤ 999999) (hN : -999999 ≤ N ∧ N ≤ 999999) (h0 : 0 ≤ Vv a R M N) (j : Nat) (hj : j ≤ hp a b R M N) : 0 ≤ dg a b R M N (hp a b R M N) j ∧ dg a b R M N (hp a b R M N) j ≤ 9 := by
  have := tk_t (TK_lf hV B hM hN h0 rfl j hj)
  exact ⟨this.1, this.2.1⟩
theorem fg_bd {a b R k M N : Int} (hV : VB a b) (B : BF a b R k) (hM : -999999 ≤ M ∧ M ≤ 999999) (hN : -999999 ≤ N ∧ N ≤ 999999) (h0 : 0 ≤ Vv a R M N) (j : Nat) (hj : j ≤ 40) : 0 ≤ fg a b R (lf a b R M N (hp a b R M N) (hp a b R M N + 1)) j ∧ fg a b R (lf a b R M N (hp a b R M N) (hp a b R M N + 1)) j ≤ 9 := by
  have r0 := rst_ok hV B hM hN h0
  have r1 := rs_ok hV B r0.2 (by omega) j (by omega)
  have r2 := (rsU_ok hV B r1 (by omega)).2
  have hS : (0 : Int) < 2 * S0 := by decide
  refine ⟨Int.ediv_nonneg r2.1 (Int.le_of_lt hS), ?_⟩
  exact Int.le_of_lt_add_one (show _ < (9 : Int) + 1 from Int.ediv_lt_of_lt_mul hS r2.2)
theorem bothW {a b : Int32} {ms ns w : Nat → Int32} (hS : RelS a b ms ns w) {x y : Int32} (hM : -999999 ≤ x.toInt ∧ x.toInt ≤ 999999) (hN : -999999 ≤ y.toInt ∧ y.toInt ≤ 999999) (h0 : 0 ≤ Vv a.toInt (Rf a.toInt b.toInt) x.toInt y.toInt) {v_ahead v_behind v_ends v_lead v_round v_ofA v_ofB v_ofM v_ofN : Int32} {v_figures : Nat → Int32} (hc : Ca v_ofA v_ofB v_ofM v_ofN v_ahead v_behind v_ends v_lead v_round v_figures) (v_leftM v_leftN : Int64) (v_powerMs v_powerNs v_restMs v_restNs : Nat → Int64) :
    ∃ (h c : Nat) (fig : Nat → Nat) (en le ro : Int32) (lM lN : Int64) (figs : Nat → Int32) (pM pN rM rN : Nat → Int64), F_X5_spell x y v_ahead v_behind v_ends v_lead v_round v_leftM v_leftN v_ofA v_ofB v_ofM v_ofN v_figures v_powerMs v_powerNs v_restMs v_restNs a b = some (nI (h + 1), nI c, en, le, ro, lM, lN, a, b, x, y, figs, pM, pN, rM, rN) ∧ Bth a b x y w h c fig en le ro figs := by
  have hV := hS.2.1
  have Bk := base_ok hV
  have w0 := rS0 hS
  obtain ⟨ah, be, en, le, ro, lM, lN, figs, pM, pN, rM, rN, e1, g1, g2, g3, g4, g5, g6, g7⟩ := spellC hV hM hN h0 hc v_leftM v_leftN v_powerMs v_powerNs v_restMs v_restNs
  have r0 := rst_ok hV Bk hM hN h0
  have hb := (bc_spec (ffw a.toInt b.toInt (Rf a.toInt b.toInt) x.toInt y.toInt)).1
  have d1 := fun j hj => dg_bd hV Bk hM hN h0 j hj
  have d2 := fun j hj => fg_bd hV Bk hM hN h0 j hj
  have hwr : Wr a b x.toInt y.toInt ah be en le ro figs := ⟨g1, g2, g3, g4, g5, g6, g7⟩
  refine ⟨hp a.toInt b.toInt (Rf a.toInt b.toInt) x.toInt y.toInt, bc (ffw a.toInt b.toInt (Rf a.toInt b.toInt) x.toInt y.toInt), fun i => if i ≤ hp a.toInt b.toInt (Rf a.toInt b.toInt) x.toInt y.toInt then (dg a.toInt b.toInt (Rf a.toInt b.toInt) x.toInt y.toInt (hp a.toInt b.toInt (Rf a.toInt b.toInt) x.toInt y.toInt) i).toNat else (fg a.toInt b.toInt (Rf a.toInt b.toInt) (lf a.toInt b.toInt (Rf a.toInt b.toInt) x.toInt y.toInt (hp a.toInt b.toInt (Rf a.toInt b.toInt) x.toInt y.toInt) (hp a.toInt b.toInt (Rf a.toInt b.toInt) x.toInt y.toInt + 1)) (i - (hp a.toInt b.toInt (Rf a.toInt b.toInt) x.toInt y.toInt + 1))).toNat, en, le, ro, lM, lN, figs, pM, pN, rM, rN, ?_, ?_, r0.1, hb, ?_, ?_, ?_⟩
  · rw [e1, g1, g2]
  · intro _; rw [← g1, ← g2]; exact hwr
  · intro i hi
    dsimp only
    by_cases c : i ≤ hp a.toInt b.toInt (Rf a.toInt b.toInt) x.toInt y.toInt
    · rw [if_pos c]
      have := d1 i c
      exact ⟨by omega, by rw [g6 i c]; exact izn this.1⟩
    · rw [if_neg c]
      have := d2 (i - (hp a.toInt b.toInt (Rf a.toInt b.toInt) x.toInt y.toInt + 1)) (by omega)
      refine ⟨by omega, ?_⟩
      have e := g7 (i - (hp a.toInt b.toInt (Rf a.toInt b.toInt) x.toInt y.toInt + 1)) (by omega)
      rw [show hp a.toInt b.toInt (Rf a.toInt b.toInt) x.toInt y.toInt + 1 + (i - (hp a.toInt b.toInt (Rf a.toInt b.toInt) x.toInt y.toInt + 1)) = i from by omega] at e
      rw [e]; exact izn this.1
  · rw [g3, g4, g5]
    by_cases c : ffw a.toInt b.toInt (Rf a.toInt b.toInt) x.toInt y.toInt (bc (ffw a.toInt b.toInt (Rf a.toInt b.toInt) x.toInt y.toInt)) = (0, 0)
    · left
      rw [scE_end _ _ _ _ c]
      exact ⟨if_pos c, rfl, rfl⟩
    · right; exact if_neg c
  · intro bm en0 le0 ro0 ah0 be0 rM0 rN0 pM0 pN0
    have q := writM (w := w) (M := x.toInt) (N := y.toInt) (by rw [w0.1, w0.2]; exact hV) hM hN (by rw [w0.1, w0.2]; exact h0) bm en0 le0 ro0 ah0 be0 rM0 rN0 pM0 pN0
    rw [w0.1, w0.2] at q
    obtain ⟨ah', be', rM', rN', pM', pN', q1, q2, q3⟩ := q
    refine ⟨ah', be', rM', rN', pM', pN', ?_, ?_, ?_⟩
    · rw [q1, g3, g4, g5]
    · intro i hi
      dsimp only
      rw [q2 i hi, if_pos hi]; exact izn (d1 i hi).1
    · intro i hi
      dsimp only
      rw [q3 i hi, if_neg (by omega), show hp a.toInt b.toInt (Rf a.toInt b.toInt) x.toInt y.toInt + 1 + i - (hp a.toInt b.toInt (Rf a.toInt b.toInt) x.toInt y.toInt + 1) = i from by omega]
      exact izn (d2 i (by omega)).1
theorem shW {a b : Int32} {ms ns w : Nat → Int32} (hS : RelS a b ms ns w) {i : Nat} (hi : i < 4) {v_ahead v_behind v_ends v_lead v_round v_ofA v_ofB v_ofM v_ofN : Int32} {v_figures : Nat → Int32} (hc : Ca v_ofA v_ofB v_ofM v_ofN v_ahead v_behind v_ends v_lead v_round v_figures) (v_leftM v_leftN : Int64) (v_powerMs v_powerNs v_restMs v_restNs : Nat → Int64) :
    (F_X6_spellShelf (nI i) a b ms ns v_ahead v_behind v_ends v_lead v_round v_leftM v_leftN v_ofA v_ofB v_ofM v_ofN v_figures v_powerMs v_powerNs v_restMs v_restNs = some (0, v_ahead, v_behind, v_ends, v_lead, v_round, v_leftM, v_leftN, v_ofA, v_ofB, v_ofM, v_ofN, v_figures, v_powerMs, v_powerNs, v_restMs, v_restNs) ∧ ¬ 0 ≤ F_X7_signOf (ms i).toInt64 (ns i).toInt64 w) ∨ (0 ≤ F_X7_signOf (ms i).toInt64 (ns i).toInt64 w ∧ ∃ (h c : Nat) (fig : Nat → Nat) (en le ro : Int32) (lM lN : Int64) (figs : Nat → Int32) (pM pN rM rN : Nat → Int64), F_X6_spellShelf (nI i) a b ms ns v_ahead v_behind v_ends v_lead v_round v_leftM v_leftN v_ofA v_ofB v_ofM v_ofN v_figures v_powerMs v_powerNs v_restMs v_restNs = some (1, nI (h + 1), nI c, en, le, ro, lM, lN, a, b, ms i, ns i, figs, pM, pN, rM, rN) ∧ Bth a b (ms i) (ns i) w h c fig en le ro figs) := by
  have hV := hS.2.1
  have w0 := rS0 hS
  have hi2 := hS.2.2 i hi
  have sM := sgM (w := w) (m := (ms i).toInt) (n := (ns i).toInt) (by rw [w0.1, w0.2]; exact hV) (by omega) (by omega)
  rw [w0.1, w0.2] at sM
  unfold F_X6_spellShelf F_X6_signOf
  rw [inr_t hi (by omega), nI_cl (by omega), i2l, i2l, sM, sgC hV (by omega) (by omega), bso]
  by_cases c : 0 ≤ Vv a.toInt (Rf a.toInt b.toInt) (ms i).toInt (ns i).toInt
  · right
    have cz := sgz_ge0.mpr c
    refine ⟨cz, ?_⟩
    rw [if_pos cz, inr_t hi (by omega)]
    obtain ⟨h, c', fig, en, le, ro, lM, lN, figs, pM, pN, rM, rN, e1, e2⟩ := bothW hS hi2.1 hi2.2 c hc v_leftM v_leftN v_powerMs v_powerNs v_restMs v_restNs
    rw [e1, bso]
    exact ⟨h, c', fig, en, le, ro, lM, lN, figs, pM, pN, rM, rN, rfl, e2⟩
  · left
    have cz := fun q => c (sgz_ge0.mp q)
    rw [if_neg cz]
    exact ⟨rfl, cz⟩
/-- the figure of a place -/
theorem figAt {h c : Nat} {fig : Nat → Nat} {ah be : Nat → Int32} (hh : h < 40) (hc : c ≤ 40) (h1 : ∀ i, i ≤ h → ah (h - i) = nI (fig i)) (h2 : ∀ i, i < c → be i = nI (fig (h + 1 + i))) {z : Int} (hz : -100 ≤ z ∧ z ≤ 100) : F_X7_figureAt (iz z) (nI h) (nI c) ah be = some (if -(c : Int) ≤ z ∧ z ≤ h then nI (fig ((h : Int) - z).toNat) else 0) := by
  unfold F_X7_figureAt
  rw [show (0 : Int32) = iz 0 from rfl, iz_neg, nI_is, nI_is]
  by_cases c1 : z < 0
  · rw [if_pos ((iz_lt (by omega) (by omega)).mpr c1)]
    by_cases c2 : (c : Int) < -z
    · rw [if_pos ((iz_lt (by omega) (by omega)).mpr c2), if_neg (by omega)]
    · rw [if_neg (fun q => c2 ((iz_lt (by omega) (by omega)).mp q)), if_pos (by omega), show (1 : Int32) = iz 1 from rfl, iz_sub, izn (by omega), inr_t (by omega) (by omega), nI_cl (by omega), h2 _ (by omega)]
      exact congrArg (fun t => some (nI (fig t))) (by omega)
  · rw [if_neg (fun q => c1 ((iz_lt (by omega) (by omega)).mp q))]
    by_cases c2 : (h : Int) < z
    · rw [if_pos ((iz_lt (by omega) (by omega)).mpr c2), if_neg (by omega)]
    · rw [if_neg (fun q => c2 ((iz_lt (by omega) (by omega)).mp q)), if_pos (by omega), izn (by omega), inr_t (by omega) (by omega), nI_cl (by omega)]
      have e := h1 (h - z.toNat) (by omega)
      rw [show h - (h - z.toNat) = z.toNat from by omega] at e
      rw [e]
      exact congrArg (fun t => some (nI (fig t))) (by omega)
theorem hasC {h c : Nat} (hh : h < 40) (hc : c ≤ 40) {z : Int} (hz : -2147483648 ≤ z ∧ z < 2147483648) : F_X5_hasFigure (iz z) (nI (h + 1)) (nI c) = if 0 ≤ z ∧ z < (h : Int) + 1 + c then 1 else 0 := by
  unfold F_X5_hasFigure
  rw [show (0 : Int32) = iz 0 from rfl, nI_add, nI_is]
  by_cases c1 : z < 0
  · rw [if_pos ((iz_lt (by omega) (by omega)).mpr c1), if_neg (by omega)]
  · rw [if_neg (fun q => c1 ((iz_lt (by omega) (by omega)).mp q))]
    by_cases c2 : ((h + 1 + c : Nat) : Int) ≤ z
    · rw [if_pos ((iz_le (by omega) (by omega)).mpr c2), if_neg (by omega)]
    · rw [if_neg (fun q => c2 ((iz_le (by omega) (by omega)).mp q)), if_pos (by omega)]
