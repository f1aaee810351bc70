/-- what the class has written of M and N times B -/
abbrev ffw (a b R M N : Int) : Nat → Int × Int := rs a b R (lf a b R M N (hp a b R M N) (hp a b R M N + 1))
def Wr (A B : Int32) (M N : Int) (ah be en le ro : Int32) (figs : Nat → Int32) : Prop :=
  ah = nI (hp A.toInt B.toInt (Rf A.toInt B.toInt) M N + 1) ∧ be = nI (bc (ffw A.toInt B.toInt (Rf A.toInt B.toInt) M N)) ∧ en = enE (ffw A.toInt B.toInt (Rf A.toInt B.toInt) M N) ∧ le = (scE (ffw A.toInt B.toInt (Rf A.toInt B.toInt) M N)).1 ∧ ro = (scE (ffw A.toInt B.toInt (Rf A.toInt B.toInt) M N)).2 ∧ (∀ i, i ≤ hp A.toInt B.toInt (Rf A.toInt B.toInt) M N → figs i = iz (dg A.toInt B.toInt (Rf A.toInt B.toInt) M N (hp A.toInt B.toInt (Rf A.toInt B.toInt) M N) i)) ∧ (∀ i, i < bc (ffw A.toInt B.toInt (Rf A.toInt B.toInt) M N) → figs (hp A.toInt B.toInt (Rf A.toInt B.toInt) M N + 1 + i) = iz (fg A.toInt B.toInt (Rf A.toInt B.toInt) (lf A.toInt B.toInt (Rf A.toInt B.toInt) M N (hp A.toInt B.toInt (Rf A.toInt B.toInt) M N) (hp A.toInt B.toInt (Rf A.toInt B.toInt) M N + 1)) i))
theorem rst_ok {a b R k M N : Int} (hV : VB a b) (B : BF a b R k) (hM : -999999 ≤ M ∧ M ≤ 999999) (hN : -999999 ≤ N ∧ N ≤ 999999) (h0 : 0 ≤ Vv a R M N) : hp a b R M N < 40 ∧ RsI a R (lf a b R M N (hp a b R M N) (hp a b R M N + 1)) (2000000 + 9 * ((hp a b R M N + 1 : Nat) : Int)) := by
  have s := Sm_in hV B hM hN
  have hXB : XB = 12000000 * (2 * S0) := rfl
  have hS : (0 : Int) < S0 := by decide
  have p := hp_spec (M := M) (N := N) B (by omega)
  obtain ⟨⟨i1, i2⟩, ⟨i3, i4⟩, -⟩ := lf_ok hV B hM hN h0 rfl (hp a b R M N + 1) (Nat.le_refl _)
  rw [Nat.sub_self, vp0] at i2
  exact ⟨p.1, i1, i2, i3, i4⟩
theorem spell39 {A B x2 x3 : Int32} (hV : VB A.toInt B.toInt) (hM : -999999 ≤ x2.toInt ∧ x2.toInt ≤ 999999) (hN : -999999 ≤ x3.toInt ∧ x3.toInt ≤ 999999) (h0 : 0 ≤ Vv A.toInt (Rf A.toInt B.toInt) x2.toInt x3.toInt) (v_ahead v_behind v_ends v_lead v_round : Int32) (v_leftM v_leftN : Int64) (v_ofA v_ofB v_ofM v_ofN : Int32) (v_figures : Nat → Int32) (v_powerMs v_powerNs v_restMs v_restNs : Nat → Int64) :
    ∃ (ah be en le ro : Int32) (lM lN : Int64) (figs : Nat → Int32) (pM pN rM rN : Nat → Int64), F_X5_spell_39 x2 x3 A B v_ahead v_behind v_ends v_lead v_round v_leftM v_leftN v_ofA v_ofB v_ofM v_ofN v_figures v_powerMs v_powerNs v_restMs v_restNs = some (ah, be, en, le, ro, lM, lN, A, B, x2, x3, figs, pM, pN, rM, rN) ∧ Wr A B x2.toInt x3.toInt ah be en le ro figs := by
  have Bk := base_ok hV
  have r0 := rst_ok hV Bk hM hN h0
  obtain ⟨pM, pN, e1, hp1⟩ := hpC hV hM hN rfl (hp A.toInt B.toInt (Rf A.toInt B.toInt) x2.toInt x3.toInt) 0 128 (vp_updL v_powerMs (0 : Int32).toNatClampNeg (1 : Int64)) (vp_updL v_powerNs (0 : Int32).toNatClampNeg (0 : Int64)) (by omega) (by omega) (fun i hi => by
    have : i = 0 := by omega
    subst this
    exact ⟨pk_uLs, pk_uLs⟩)
  obtain ⟨figs, e2, hf1⟩ := aheadC hV hM hN h0 rfl (hp A.toInt B.toInt (Rf A.toInt B.toInt) x2.toInt x3.toInt + 1) 0 128 v_figures pM pN (nI (hp A.toInt B.toInt (Rf A.toInt B.toInt) x2.toInt x3.toInt)) (by omega) (by omega) (by
    rw [nI_is]
    have : ((hp A.toInt B.toInt (Rf A.toInt B.toInt) x2.toInt x3.toInt + 1 : Nat) : Int) - 1 = (hp A.toInt B.toInt (Rf A.toInt B.toInt) x2.toInt x3.toInt : Int) := by omega
    rw [this]) hp1 (fun i hi => by omega)
  obtain ⟨figs', rM, rN, e3, hf2, hf3⟩ := behindC hV r0.2 (by omega) (h := hp A.toInt B.toInt (Rf A.toInt B.toInt) x2.toInt x3.toInt) r0.1 v_ends (bc (ffw A.toInt B.toInt (Rf A.toInt B.toInt) x2.toInt x3.toInt)) 0 128 figs v_restMs v_restNs (Nat.zero_add _) (by have := (bc_spec (ffw A.toInt B.toInt (Rf A.toInt B.toInt) x2.toInt x3.toInt)).1; omega) (fun i hi => by omega) (fun i hi => by omega)
  refine ⟨nI (hp A.toInt B.toInt (Rf A.toInt B.toInt) x2.toInt x3.toInt + 1), nI (bc (ffw A.toInt B.toInt (Rf A.toInt B.toInt) x2.toInt x3.toInt)), enE (ffw A.toInt B.toInt (Rf A.toInt B.toInt) x2.toInt x3.toInt), (scE (ffw A.toInt B.toInt (Rf A.toInt B.toInt) x2.toInt x3.toInt)).1, (scE (ffw A.toInt B.toInt (Rf A.toInt B.toInt) x2.toInt x3.toInt)).2, lz (ffw A.toInt B.toInt (Rf A.toInt B.toInt) x2.toInt x3.toInt (bc (ffw A.toInt B.toInt (Rf A.toInt B.toInt) x2.toInt x3.toInt))).1, lz (ffw A.toInt B.toInt (Rf A.toInt B.toInt) x2.toInt x3.toInt (bc (ffw A.toInt B.toInt (Rf A.toInt B.toInt) x2.toInt x3.toInt))).2, figs', pM, pN, rM, rN, ?_, rfl, rfl, rfl, rfl, rfl, fun i hi => ?_, hf3⟩
  · have h1 : F_X5_highestPlace (x2.toInt64) (x3.toInt64) v_powerMs v_powerNs A B = some (nI (hp A.toInt B.toInt (Rf A.toInt B.toInt) x2.toInt x3.toInt), pM, pN) := e1
    have h2 : F_X5_spellAhead (nI (hp A.toInt B.toInt (Rf A.toInt B.toInt) x2.toInt x3.toInt)) (x2.toInt64) (x3.toInt64) v_figures pM pN A B = some (nI (hp A.toInt B.toInt (Rf A.toInt B.toInt) x2.toInt x3.toInt + 1), lz (lf A.toInt B.toInt (Rf A.toInt B.toInt) x2.toInt x3.toInt (hp A.toInt B.toInt (Rf A.toInt B.toInt) x2.toInt x3.toInt) (hp A.toInt B.toInt (Rf A.toInt B.toInt) x2.toInt x3.toInt + 1)).1, lz (lf A.toInt B.toInt (Rf A.toInt B.toInt) x2.toInt x3.toInt (hp A.toInt B.toInt (Rf A.toInt B.toInt) x2.toInt x3.toInt) (hp A.toInt B.toInt (Rf A.toInt B.toInt) x2.toInt x3.toInt + 1)).2, figs) := by
      unfold F_X5_spellAhead
      exact e2
    unfold F_X5_spell_39
    rw [h1]
    show (F_X5_spellAhead (nI (hp A.toInt B.toInt (Rf A.toInt B.toInt) x2.toInt x3.toInt)) (x2.toInt64) (x3.toInt64) v_figures pM pN A B).bind _ = _
    rw [h2]
    show (F_X5_spellBehind (nI (hp A.toInt B.toInt (Rf A.toInt B.toInt) x2.toInt x3.toInt + 1)) v_ends _ _ figs v_restMs v_restNs A B).bind _ = _
    unfold F_X5_spellBehind
    have e3' : F_X5_spellBehind_17 (nI (hp A.toInt B.toInt (Rf A.toInt B.toInt) x2.toInt x3.toInt + 1)) A B 128 (0 : Int32) (0 : Int32) v_ends (-1 : Int32) (-1 : Int32) (lz (lf A.toInt B.toInt (Rf A.toInt B.toInt) x2.toInt x3.toInt (hp A.toInt B.toInt (Rf A.toInt B.toInt) x2.toInt x3.toInt) (hp A.toInt B.toInt (Rf A.toInt B.toInt) x2.toInt x3.toInt + 1)).1) (lz (lf A.toInt B.toInt (Rf A.toInt B.toInt) x2.toInt x3.toInt (hp A.toInt B.toInt (Rf A.toInt B.toInt) x2.toInt x3.toInt) (hp A.toInt B.toInt (Rf A.toInt B.toInt) x2.toInt x3.toInt + 1)).2) figs v_restMs v_restNs = _ := e3
    rw [e3']
    rfl
  · rw [hf2 i hi, hf1 i hi]
/-- what the class keeps of the last writing -/
def Ca (oA oB oM oN ah be en le ro : Int32) (figs : Nat → Int32) : Prop := oA ≠ 0 → Wr oA oB oM.toInt oN.toInt ah be en le ro figs
theorem spellC {A B x2 x3 : Int32} (hV : VB A.toInt B.toInt) (hM : -999999 ≤ x2.toInt ∧ x2.toInt ≤ 999999) (hN : -999999 ≤ x3.toInt ∧ x3.toInt ≤ 999999) (h0 : 0 ≤ Vv A.toInt (Rf A.toInt B.toInt) x2.toInt x3.toInt) {v_ahead v_behind v_ends v_lead v_round v_ofA v_ofB v_ofM v_ofN : Int32} {v_figures : Nat → Int32} (hc : Ca v_ofA v_ofB v_ofM v_ofN v_ahead v_behind v_ends v_lead v_round v_figures) (v_leftM v_leftN : Int64) (v_powerMs v_powerNs v_restMs v_restNs : Nat → Int64) :
    ∃ (ah be en le ro : Int32) (lM lN : Int64) (figs : Nat → Int32) (pM pN rM rN : Nat → Int64), F_X5_spell x2 x3 v_ahead v_behind v_ends v_lead v_round v_leftM v_leftN v_ofA v_ofB v_ofM v_ofN v_figures v_powerMs v_powerNs v_restMs v_restNs A B = some (ah, be, en, le, ro, lM, lN, A, B, x2, x3, figs, pM, pN, rM, rN) ∧ Wr A B x2.toInt x3.toInt ah be en le ro figs := by
  have key := spell39 hV hM hN h0 v_ahead v_behind v_ends v_lead v_round v_leftM v_leftN v_ofA v_ofB v_ofM v_ofN v_figures v_powerMs v_powerNs v_restMs v_restNs
  unfold F_X5_spell
  by_cases c1 : v_ofA = A
  · rw [if_pos c1]
    by_cases c2 : v_ofB = B
    · rw [if_pos c2]
      by_cases c3 : v_ofM = x2
      · rw [if_pos c3]
        by_cases c4 : v_ofN = x3
        · rw [if_pos c4]
          subst c1 c2 c3 c4
          refine ⟨_, _, _, _, _, _, _, _, _, _, _, _, rfl, hc (fun q => ?_)⟩
          have h1 := hV.1
          rw [q] at h1
          exact absurd h1 (by decide)
        · rw [if_neg c4]; exact key
      · rw [if_neg c3]; exact key
    · rw [if_neg c2]; exact key
  · rw [if_neg c1]; exact key
