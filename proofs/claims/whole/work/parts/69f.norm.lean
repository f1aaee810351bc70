theorem wordW {a b cnt aop size : Int32} {ms ns w wf word : Nat → Int32} (hS : RelS a b ms ns w) (hW : RelW cnt aop wf size word) {v_ahead v_behind v_ends v_lead v_round v_ofA v_ofB v_ofM v_ofN : Int32} {v_figures : Nat → Int32} (hc : Ca v_ofA v_ofB v_ofM v_ofN v_ahead v_behind v_ends v_lead v_round v_figures) (v_leftM v_leftN : Int64) (v_powerMs v_powerNs v_restMs v_restNs : Nat → Int64) (wm wn : Int32) (v_high v_bm v_en0 v_le0 v_ro0 : Int32) (v_ah0 v_be0 : Nat → Int32) (v_rM0 v_rN0 v_pM0 v_pN0 : Nat → Int64) (row : Nat → Int32) :
    (F_X6_spellWord a b cnt wm wn wf v_ahead v_behind v_ends v_lead v_round v_leftM v_leftN v_ofA v_ofB v_ofM v_ofN v_figures v_powerMs v_powerNs v_restMs v_restNs = some (0, wm, wn, v_ahead, v_behind, v_ends, v_lead, v_round, v_leftM, v_leftN, v_ofA, v_ofB, v_ofM, v_ofN, v_figures, v_powerMs, v_powerNs, v_restMs, v_restNs) ∧ ∃ om : Int32 × Int32 × Int32 × Int32 × Int32 × Int32 × Int64 × Int64 × (Nat → Int32) × (Nat → Int32) × (Nat → Int64) × (Nat → Int64) × (Nat → Int64) × (Nat → Int64) × (Nat → Int32), F_X7_normalMany size v_high v_bm v_en0 v_le0 v_ro0 w word v_ah0 v_be0 v_rM0 v_rN0 v_pM0 v_pN0 row = some om ∧ om.1 = -2000000004) ∨ (∃ (h c : Nat) (fig : Nat → Nat) (M N en le ro : Int32) (lM lN : Int64) (figs : Nat → Int32) (pM pN rM rN : Nat → Int64) (vM vN : Int64) (ah be : Nat → Int32) (rM' rN' pM' pN' : Nat → Int64) (row' : Nat → Int32), F_X6_spellWord a b cnt wm wn wf v_ahead v_behind v_ends v_lead v_round v_leftM v_leftN v_ofA v_ofB v_ofM v_ofN v_figures v_powerMs v_powerNs v_restMs v_restNs = some (1, M, N, nI (h + 1), nI c, en, le, ro, lM, lN, a, b, M, N, figs, pM, pN, rM, rN) ∧ F_X7_normalMany size v_high v_bm v_en0 v_le0 v_ro0 w word v_ah0 v_be0 v_rM0 v_rN0 v_pM0 v_pN0 row = some (nI (h + 1 + c), nI h, nI c, en, le, ro, vM, vN, ah, be, rM', rN', pM', pN', row') ∧ Bth a b M N w h c fig en le ro figs ∧ (∀ i, i ≤ h → ah (h - i) = nI (fig i)) ∧ (∀ i, i < c → be i = nI (fig (h + 1 + i)))) := by
  obtain ⟨ok, M, N, p1, p2, p3⟩ := worthEq hS hW
  obtain ⟨r, q1, q2, q3⟩ := p2 row
  unfold F_X6_spellWord F_X7_normalMany
  rw [p1, q1]
  by_cases c : ok = true
  · right
    obtain ⟨s1, s2, s3⟩ := q2 c
    obtain ⟨t1, t2, t3⟩ := p3 c
    obtain ⟨r1, r2, r3, r4⟩ := r
    dsimp only at s1 s2 s3
    subst s1 s2 s3
    have w0 := rS0 hS
    have hV := hS.2.1
    have zM : (iz M).toInt = M := iz_to (by omega) (by omega)
    have zN : (iz N).toInt = N := iz_to (by omega) (by omega)
    have sM := sgM (w := w) (m := M) (n := N) (by rw [w0.1, w0.2]; exact hV) (by omega) (by omega)
    rw [w0.1, w0.2] at sM
    obtain ⟨h, c', fig, en, le, ro, lM, lN, figs, pM, pN, rM, rN, e1, e2⟩ := bothW hS (x := iz M) (y := iz N) (by rw [zM]; exact t1) (by rw [zN]; exact t2) (by rw [zM, zN]; exact t3) hc v_leftM v_leftN v_powerMs v_powerNs v_restMs v_restNs
    have g6 := e2.2.2.2.2.2 v_bm v_en0 v_le0 v_ro0 v_ah0 v_be0 v_rM0 v_rN0 v_pM0 v_pN0
    rw [zM, zN] at g6
    obtain ⟨ah, be, rM', rN', pM', pN', k1, k2, k3⟩ := g6
    refine ⟨h, c', fig, iz M, iz N, en, le, ro, lM, lN, figs, pM, pN, rM, rN, lz M, lz N, ah, be, rM', rN', pM', pN', r4, ?_, ?_, e2, k2, k3⟩
    · rw [if_pos c, bso, if_neg n10, e1, bso]
    · rw [bso, if_neg n10]
      dsimp only
      rw [sM, if_pos (sgz_ge0.mpr t3), k1, bso, nI_i1, nI_add]
  · left
    have s1 := q3 c
    obtain ⟨r1, r2, r3, r4⟩ := r
    dsimp only at s1
    subst s1
    rw [if_neg c, bso, bso, if_pos t00, if_pos t00]
    exact ⟨rfl, _, rfl, rfl⟩
theorem coreNormal (x1 : Int32) {a b cnt aop size : Int32} {ms ns w wf word : Nat → Int32} (hS : RelS a b ms ns w) (hW : RelW cnt aop wf size word) {v_ahead v_behind v_ends v_lead v_round v_ofA v_ofB v_ofM v_ofN : Int32} {v_figures : Nat → Int32} (hc : Ca v_ofA v_ofB v_ofM v_ofN v_ahead v_behind v_ends v_lead v_round v_figures) (v_leftM v_leftN : Int64) (v_powerMs v_powerNs v_restMs v_restNs : Nat → Int64) (wm wn : Int32) (v_high v_bm v_en0 v_le0 v_ro0 : Int32) (v_ah0 v_be0 : Nat → Int32) (v_rM0 v_rN0 v_pM0 v_pN0 : Nat → Int64) (vM vN : Int64) (row : Nat → Int32) :
    ∃ (r o_wm o_wn : Int32) (o_ah o_be o_en o_le o_ro : Int32) (o_lM o_lN : Int64) (o_A o_B o_M o_N : Int32) (o_figs : Nat → Int32) (o_pM o_pN o_rM o_rN : Nat → Int64) (om : Int32 × Int32 × Int32 × Int32 × Int32 × Int32 × Int64 × Int64 × (Nat → Int32) × (Nat → Int32) × (Nat → Int64) × (Nat → Int64) × (Nat → Int64) × (Nat → Int64) × (Nat → Int32)), F_X6_normal x1 a b cnt wm wn wf v_ahead v_behind v_ends v_lead v_round v_leftM v_leftN v_ofA v_ofB v_ofM v_ofN v_figures v_powerMs v_powerNs v_restMs v_restNs = some (r, o_wm, o_wn, o_ah, o_be, o_en, o_le, o_ro, o_lM, o_lN, o_A, o_B, o_M, o_N, o_figs, o_pM, o_pN, o_rM, o_rN) ∧ F_X7_normal x1 size v_high v_bm v_en0 v_le0 v_ro0 vM vN w word v_ah0 v_be0 v_rM0 v_rN0 v_pM0 v_pN0 row = some om ∧ om.1 = r ∧ Ca o_A o_B o_M o_N o_ah o_be o_en o_le o_ro o_figs := by
  unfold F_X6_normal F_X7_normal
  by_cases c0 : 0 ≤ x1
  · rw [if_pos c0, if_pos c0]
    rcases wordW hS hW hc v_leftM v_leftN v_powerMs v_powerNs v_restMs v_restNs wm wn v_high v_bm v_en0 v_le0 v_ro0 v_ah0 v_be0 v_rM0 v_rN0 v_pM0 v_pN0 row with ⟨e1, om, e2, e3⟩ | ⟨h, c, fig, M, N, en, le, ro, lM, lN, figs, pM, pN, rM, rN, vM', vN', ah, be, rM', rN', pM', pN', row', e1, e2, ⟨g1, g2, g3, g4, g5, g6⟩, k2, k3⟩
    · rw [e1, e2, bso, bso, if_pos t00, if_neg (by rw [e3]; decide)]
      exact ⟨_, _, _, _, _, _, _, _, _, _, _, _, _, _, _, _, _, _, _, _, rfl, rfl, e3, hc⟩
    · rw [e1, e2, bso, bso, if_neg n10, if_pos (nI_pos' (by omega))]
      dsimp only
      obtain ⟨z, hz, rfl⟩ := iz_of x1
      have hz0 : 0 ≤ z := (iz_le (x := 0) (y := z) (by omega) (by omega)).mp c0
      have hh := hasC g2 g3 (z := z) hz
      by_cases k : z < (h : Int) + 1 + c
      · rw [if_pos (show 0 ≤ z ∧ z < (h : Int) + 1 + c from by omega)] at hh
        rw [hh, if_neg n10, if_neg (fun q => by rw [nI_is, iz_le (by omega) (by omega)] at q; omega)]
        rw [show nI h - iz z = iz ((h : Int) - z) from by rw [nI_is, iz_sub], figAt g2 g3 k2 k3 (by omega), bso, if_pos (by omega), izn hz0, inr_t (by omega) (by omega), nI_cl (by omega), (g4 _ (by omega)).2]
        exact ⟨_, _, _, _, _, _, _, _, _, _, _, _, _, _, _, _, _, _, _, _, rfl, rfl, congrArg (fun t => nI (fig t)) (by omega), g1⟩
      · rw [if_neg (show ¬ (0 ≤ z ∧ z < (h : Int) + 1 + c) from by omega)] at hh
        rw [hh, if_pos t00, if_pos (show nI (h + 1 + c) ≤ iz z from by rw [nI_is, iz_le (by omega) (by omega)]; omega)]
        exact ⟨_, _, _, _, _, _, _, _, _, _, _, _, _, _, _, _, _, _, _, _, rfl, rfl, rfl, g1⟩
  · rw [if_neg c0, if_neg c0]; exact ⟨_, _, _, _, _, _, _, _, _, _, _, _, _, _, _, _, _, _, _, _, rfl, rfl, rfl, hc⟩
theorem coreTold (x1 : Int32) {a b hn known cnt aop size : Int32} {ms ns w wf word : Nat → Int32} (hS : RelS a b ms ns w) (hkn : known = hn) (hW : RelW cnt aop wf size word) {v_ahead v_behind v_ends v_lead v_round v_ofA v_ofB v_ofM v_ofN : Int32} {v_figures : Nat → Int32} (hc : Ca v_ofA v_ofB v_ofM v_ofN v_ahead v_behind v_ends v_lead v_round v_figures) (v_leftM v_leftN : Int64) (v_powerMs v_powerNs v_restMs v_restNs : Nat → Int64) (wm wn : Int32) (v_high v_bm v_en0 v_le0 v_ro0 : Int32) (v_ah0 v_be0 : Nat → Int32) (v_rM0 v_rN0 v_pM0 v_pN0 : Nat → Int64) (vM vN : Int64) (row : Nat → Int32) :
    ∃ (r o_wm o_wn : Int32) (o_ah o_be o_en o_le o_ro : Int32) (o_lM o_lN : Int64) (o_A o_B o_M o_N : Int32) (o_figs : Nat → Int32) (o_pM o_pN o_rM o_rN : Nat → Int64) (om : Int32 × Int32 × Int32 × Int32 × Int32 × Int32 × Int64 × Int64 × (Nat → Int32) × (Nat → Int32) × (Nat → Int64) × (Nat → Int64) × (Nat → Int64) × (Nat → Int64) × (Nat → Int32)), F_X6_told x1 a b hn cnt aop wm wn wf v_ahead v_behind v_ends v_lead v_round v_leftM v_leftN v_ofA v_ofB v_ofM v_ofN v_figures v_powerMs v_powerNs v_restMs v_restNs = some (r, o_wm, o_wn, o_ah, o_be, o_en, o_le, o_ro, o_lM, o_lN, o_A, o_B, o_M, o_N, o_figs, o_pM, o_pN, o_rM, o_rN) ∧ F_X7_told x1 known size v_high v_bm v_en0 v_le0 v_ro0 vM vN w word v_ah0 v_be0 v_rM0 v_rN0 v_pM0 v_pN0 row = some om ∧ om.1 = r ∧ Ca o_A o_B o_M o_N o_ah o_be o_en o_le o_ro o_figs := by
  have w0 := rS0 hS
  have hV := hS.2.1
  unfold F_X6_told F_X7_told
  by_cases c0 : x1 = 0
  · rw [if_pos c0, if_pos c0]; exact ⟨_, _, _, _, _, _, _, _, _, _, _, _, _, _, _, _, _, _, _, _, rfl, rfl, w0.1, hc⟩
  rw [if_neg c0, if_neg c0]
  by_cases c1 : x1 = 1
  · rw [if_pos c1, if_pos c1]; exact ⟨_, _, _, _, _, _, _, _, _, _, _, _, _, _, _, _, _, _, _, _, rfl, rfl, congrArg (· + (10 : Int32)) w0.2, hc⟩
  rw [if_neg c1, if_neg c1]
  by_cases c2 : x1 = 2
  · rw [if_pos c2, if_pos c2]
    have e : F_X7_top w = F_X0_top a b := by
      unfold F_X7_top F_X0_top
      rw [z0, z1, w0.1, w0.2]
    exact ⟨_, _, _, _, _, _, _, _, _, _, _, _, _, _, _, _, _, _, _, _, rfl, rfl, e, hc⟩
  rw [if_neg c2, if_neg c2]
  by_cases c3 : x1 = 3
  · have sM := wlM (w := w) (m := 0) (n := 1) (by rw [w0.1, w0.2]; exact hV) (by omega) (by omega)
    rw [w0.1, w0.2] at sM
    rw [if_pos c3, if_pos c3, l0, show (1 : Int64) = lz 1 from rfl, sM, wlC hV (by omega) (by omega), bso, bso]
    exact ⟨_, _, _, _, _, _, _, _, _, _, _, _, _, _, _, _, _, _, _, _, rfl, rfl, rfl, hc⟩
  rw [if_neg c3, if_neg c3]
  by_cases c4 : x1 = 4
  · obtain ⟨sz, p, h1, h2, h3, h4, h5, h6, h7⟩ := hW
    rw [if_pos c4, if_pos c4, h4, h5, sgnsC h1 h2, h3]
    exact ⟨_, _, _, _, _, _, _, _, _, _, _, _, _, _, _, _, _, _, _, _, rfl, rfl, rfl, hc⟩
  rw [if_neg c4, if_neg c4]
  by_cases c5 : x1 = 5
  · obtain ⟨r, row', e1, e2, row2, e3⟩ := badlyEq hS hW row
    rw [if_pos c5, if_pos c5, e1, e3, bso, bso]
    by_cases k : r = -1
    · rw [if_pos k, if_pos k]; exact ⟨_, _, _, _, _, _, _, _, _, _, _, _, _, _, _, _, _, _, _, _, rfl, rfl, rfl, hc⟩
    · rw [if_neg k, if_neg k]; exact ⟨_, _, _, _, _, _, _, _, _, _, _, _, _, _, _, _, _, _, _, _, rfl, rfl, rfl, hc⟩
  rw [if_neg c5, if_neg c5]
  by_cases c6 : x1 = 6
  · obtain ⟨r, row', e1, e2, -⟩ := badlyEq hS hW row
    rw [if_pos c6, if_pos c6, e1, e2, bso, bso]
    exact ⟨_, _, _, _, _, _, _, _, _, _, _, _, _, _, _, _, _, _, _, _, rfl, rfl, rfl, hc⟩
  rw [if_neg c6, if_neg c6]
  by_cases c7 : x1 = 7
  · rw [if_pos c7, if_pos c7, shiftEq hW, bso]
    exact ⟨_, _, _, _, _, _, _, _, _, _, _, _, _, _, _, _, _, _, _, _, rfl, rfl, rfl, hc⟩
  rw [if_neg c7, if_neg c7]
  have wor : ∀ x : Int32, ∃ (M N : Int32) (r : Int32 × Int64 × Int64 × (Nat → Int32)), F_X7_worth x size w word row = some r ∧ ((F_X4_reckon cnt wm wn wf a b = some (1, M, N) ∧ r.1 = (if x = 0 then M + 1000000 else N + 1000000)) ∨ (F_X4_reckon cnt wm wn wf a b = some (0, wm, wn) ∧ r.1 = -2000000004)) := by
    intro x
    obtain ⟨ok, M, N, p1, p2, p3⟩ := worthEq hS hW
    obtain ⟨r, q1, q2, q3⟩ := p2 row
    unfold F_X7_worth
    rw [p1, q1, bso]
    by_cases c : ok = true
    · obtain ⟨s1, s2, s3⟩ := q2 c
      rw [if_pos c, if_neg (by rw [s1]; exact n10), s2, s3, l2i, l2i]
      by_cases k : x = 0
      · rw [if_pos k]
        exact ⟨iz M, iz N, _, rfl, Or.inl ⟨rfl, (if_pos k).symm⟩⟩
      · rw [if_neg k]
        exact ⟨iz M, iz N, _, rfl, Or.inl ⟨rfl, (if_neg k).symm⟩⟩
    · rw [if_neg c, if_pos (q3 c)]
      exact ⟨0, 0, _, rfl, Or.inr ⟨rfl, rfl⟩⟩
  by_cases c8 : x1 = 8
  · rw [if_pos c8, if_pos c8]
    obtain ⟨M, N, r, e1, ⟨e2, e3⟩ | ⟨e2, e3⟩⟩ := wor (x1 - 8)
    · rw [e1, e2, bso, bso, if_neg n10]
      rw [if_pos (by rw [c8]; decide)] at e3
      exact ⟨_, _, _, _, _, _, _, _, _, _, _, _, _, _, _, _, _, _, _, _, rfl, rfl, e3, hc⟩
    · rw [e1, e2, bso, bso, if_pos t00]
      exact ⟨_, _, _, _, _, _, _, _, _, _, _, _, _, _, _, _, _, _, _, _, rfl, rfl, e3, hc⟩
  rw [if_neg c8, if_neg c8]
  by_cases c9 : x1 = 9
  · rw [if_pos c9, if_pos c9]
    obtain ⟨M, N, r, e1, ⟨e2, e3⟩ | ⟨e2, e3⟩⟩ := wor (x1 - 8)
    · rw [e1, e2, bso, bso, if_neg n10]
      rw [if_neg (by rw [c9]; decide)] at e3
      exact ⟨_, _, _, _, _, _, _, _, _, _, _, _, _, _, _, _, _, _, _, _, rfl, rfl, e3, hc⟩
    · rw [e1, e2, bso, bso, if_pos t00]
      exact ⟨_, _, _, _, _, _, _, _, _, _, _, _, _, _, _, _, _, _, _, _, rfl, rfl, e3, hc⟩
  rw [if_neg c9, if_neg c9]
  by_cases c10 : x1 = 10
  · rw [if_pos c10, if_pos c10]
    rcases wordW hS hW hc v_leftM v_leftN v_powerMs v_powerNs v_restMs v_restNs wm wn v_high v_bm v_en0 v_le0 v_ro0 v_ah0 v_be0 v_rM0 v_rN0 v_pM0 v_pN0 row with ⟨e1, om, e2, e3⟩ | ⟨h, c, fig, M, N, en, le, ro, lM, lN, figs, pM, pN, rM, rN, vM', vN', ah, be, rM', rN', pM', pN', row', e1, e2, ⟨g1, g2, g3, g4, g5, g6⟩, k2, k3⟩
    · rw [e1, e2, bso, bso, if_pos t00]
      exact ⟨_, _, _, _, _, _, _, _, _, _, _, _, _, _, _, _, _, _, _, _, rfl, rfl, e3, hc⟩
    · rw [e1, e2, bso, bso, if_neg n10]
      exact ⟨_, _, _, _, _, _, _, _, _, _, _, _, _, _, _, _, _, _, _, _, rfl, rfl, (nI_add (h + 1) c).symm, g1⟩
  rw [if_neg c10, if_neg c10]
  by_cases c11 : x1 = 11
  · rw [if_pos c11, if_pos c11]; exact ⟨_, _, _, _, _, _, _, _, _, _, _, _, _, _, _, _, _, _, _, _, rfl, rfl, hkn, hc⟩
  rw [if_neg c11, if_neg c11]
  exact ⟨_, _, _, _, _, _, _, _, _, _, _, _, _, _, _, _, _, _, _, _, rfl, rfl, rfl, hc⟩
