theorem bso {α β : Type} (o : α) (g : α → Option β) : (some o).bind g = g o := rfl
theorem hpC0 {sz p : Nat} (h1 : sz ≤ 60) (h2 : p < sz ∨ p = 100) : F_X4_hasPoint (if p < sz then nI p else -1) = if p < sz then 1 else 0 := by
  unfold F_X4_hasPoint
  by_cases c : p < sz
  · rw [if_pos c, if_pos c, if_neg (nI_m1 p (by omega))]
  · rw [if_neg c, if_neg c, if_pos rfl]
theorem sgnsC {sz p : Nat} (h1 : sz ≤ 60) (h2 : p < sz ∨ p = 100) : F_X4_signs (nI (fcn sz p)) (if p < sz then nI p else -1) = nI sz := by
  unfold F_X4_signs
  rw [hpC0 h1 h2]
  unfold fcn
  by_cases c : p < sz
  · rw [if_pos c, if_neg n10, if_pos c, nI_i1]
    congr 1; omega
  · rw [if_neg c, if_pos t00, if_neg c]
theorem shiftEq {cnt aop size : Int32} {wf word : Nat → Int32} (hW : RelW cnt aop wf size word) : F_X7_shiftNow size word = some (F_X4_shift cnt aop) := by
  obtain ⟨sz, p, h1, h2, h3, h4, h5, h6, h7⟩ := hW
  have hp := pointM h1 h3 h6 h7
  unfold F_X7_shiftNow F_X4_shift
  rw [hp, h5, hpC0 h1 h2, h4, h3]
  by_cases c : p < sz
  · rw [if_pos c, if_pos c, if_neg n10]
    rw [bso, if_pos (nI_pos' (by omega)), bso]
    unfold fcn
    rw [if_pos c]
    obtain ⟨z, rfl⟩ : ∃ z, sz = z + 1 := ⟨sz - 1, by omega⟩
    rw [nI_pred]; rfl
  · rw [if_neg c, if_neg c, if_pos t00]
    rfl
theorem coreClear {cnt aop size : Int32} {wf word : Nat → Int32} (hW : RelW cnt aop wf size word) : (F_X6_clear cnt aop).1 = (F_X7_clear size).1 ∧ RelW (F_X6_clear cnt aop).2.1 (F_X6_clear cnt aop).2.2 wf (F_X7_clear size).2 word := by
  obtain ⟨sz, p, h1, h2, h3, h4, h5, h6, h7⟩ := hW
  refine ⟨?_, 0, 100, by omega, Or.inr rfl, rfl, rfl, rfl, fun k hk => by omega, fun i hi => ?_⟩
  · show F_X4_signs cnt aop = size
    rw [h4, h5, h3]; exact sgnsC h1 h2
  · unfold fcn at hi
    rw [if_neg (by omega)] at hi
    omega
theorem feedM40 {sz p : Nat} (h1 : sz ≤ 60) (x1 : Int32) (word : Nat → Int32) : F_X7_feed_40 x1 (nI sz) word = if sz < 60 then some (nI (sz + 1), nI (sz + 1), upd word sz x1) else some (-2000000004, nI sz, word) := by
  unfold F_X7_feed_40
  by_cases c : sz < 60
  · rw [if_neg (by rw [show (60 : Int32) = nI 60 from rfl, nI_eq (by omega) (by omega)]; omega), inr_t c (by omega), nI_cl (by omega), nI_i1, if_pos c]
  · have : sz = 60 := by omega
    subst this
    rw [if_pos (show nI 60 = (60 : Int32) from rfl), if_neg c]
theorem coreFeed (x1 : Int32) {cnt aop size : Int32} {wf word : Nat → Int32} (hW : RelW cnt aop wf size word) : ∃ (r cnt' aop' size' : Int32) (wf' word' : Nat → Int32), F_X6_feed x1 cnt aop wf = some (r, cnt', aop', wf') ∧ F_X7_feed x1 size word = some (r, size', word') ∧ RelW cnt' aop' wf' size' word' := by
  have hW0 := hW
  obtain ⟨sz, p, h1, h2, h3, h4, h5, h6, h7⟩ := hW
  have hp := pointM h1 h3 h6 h7
  have hS := sgnsC h1 h2
  have hH := hpC0 h1 h2
  subst h3 h4 h5
  obtain ⟨z, hz, rfl⟩ := iz_of x1
  have d1 : (iz z = (46 : Int32)) ↔ z = 46 := by rw [show (46 : Int32) = iz 46 from rfl]; exact iz_inj hz (by decide)
  have d2 : (iz z < (48 : Int32)) ↔ z < 48 := by rw [show (48 : Int32) = iz 48 from rfl]; exact iz_lt hz (by decide)
  have d3 : ((57 : Int32) < iz z) ↔ 57 < z := by rw [show (57 : Int32) = iz 57 from rfl]; exact iz_lt (by decide) hz
  have e9 : F_X7_in (iz z).toInt64 (48 : Int64) (57 : Int64) = if 48 ≤ z ∧ z ≤ 57 then 1 else 0 := by
    rw [i2l, iz_to hz.1 hz.2, show (48 : Int64) = lz 48 from rfl, show (57 : Int64) = lz 57 from rfl]
    exact inM (by omega) (by decide) (by decide)
  unfold F_X6_feed F_X7_feed
  by_cases c46 : z = 46
  · rw [if_pos (d1.mpr c46), if_pos (d1.mpr c46), hp]
    unfold F_X6_feed_11
    rw [if_pos (d2.mpr (by omega)), if_neg n10, if_neg n10, hH]
    have e0 : F_X7_in (iz z).toInt64 (48 : Int64) (57 : Int64) = 0 := by rw [e9]; exact if_neg (by omega)
    by_cases c : p < sz
    · rw [if_pos c, if_neg n10, if_pos c]
      refine ⟨-2000000002, nI (fcn sz p), nI p, nI sz, wf, word, rfl, ?_, ?_⟩
      · rw [bso, if_pos (nI_pos' (by omega)), if_pos t00, e0, if_pos t00]
      · rw [if_pos c] at hW0; exact hW0
    · rw [if_neg c, if_pos t00, if_neg c]
      rw [if_neg c] at hS hW0
      unfold F_X6_feed_55
      rw [hS]
      have hpn : ¬ (0 : Int32) ≤ -1 := by decide
      have hfc : fcn sz p = sz := by unfold fcn; rw [if_neg c]
      have hmod : ((some (-1 : Int32)).bind fun o_6 => (if 0 ≤ o_6 then (if (0 : Int32) = 0 then (if (F_X7_in (iz z).toInt64 (48 : Int64) (57 : Int64)) = 0 then (some ((-2000000002 : Int32), nI sz, word)) else (F_X7_feed_40 (iz z) (nI sz) word)) else (F_X7_feed_40 (iz z) (nI sz) word)) else (if (1 : Int32) = 0 then (if (F_X7_in (iz z).toInt64 (48 : Int64) (57 : Int64)) = 0 then (some ((-2000000002 : Int32), nI sz, word)) else (F_X7_feed_40 (iz z) (nI sz) word)) else (F_X7_feed_40 (iz z) (nI sz) word)))) = F_X7_feed_40 (iz z) (nI sz) word := by
        rw [bso, if_neg hpn, if_neg n10]
      rw [hmod, feedM40 (p := p) h1]
      by_cases q : sz < 60
      · rw [if_pos (by rw [show (60 : Int32) = nI 60 from rfl, nI_ltI (by omega) (by omega)]; exact q), if_neg n10, if_pos q]
        have es : F_X4_signs (nI (fcn sz p)) (F_X4_addPoint (nI (fcn sz p))) = nI (sz + 1) := by
          unfold F_X4_addPoint F_X4_signs F_X4_hasPoint
          rw [hfc, if_neg (nI_m1 sz (by omega)), if_neg n10, nI_i1]
        rw [es]
        have hf1 : fcn (sz + 1) sz = sz := by unfold fcn; rw [if_pos (by omega)]; rfl
        refine ⟨_, _, _, _, _, _, rfl, rfl, sz + 1, sz, by omega, Or.inl (by omega), rfl, by rw [hf1, hfc], by rw [if_pos (by omega)]; unfold F_X4_addPoint; rw [hfc], fun k hk => ?_, fun i hi => h7 i (by rw [hf1] at hi; rw [hfc]; exact hi)⟩
        by_cases e : k = sz
        · subst e
          rw [pk_us, if_pos rfl, c46]; rfl
        · rw [pk_un e, if_neg e, h6 k (by omega), if_neg (by omega)]
          have : fcn k p = fcn k sz := by unfold fcn; rw [if_neg (by omega), if_neg (by omega)]
          rw [this]
      · rw [if_neg (by rw [show (60 : Int32) = nI 60 from rfl, nI_ltI (by omega) (by omega)]; exact q), if_neg q]
        exact ⟨_, _, _, _, _, _, rfl, rfl, hW0⟩
  · rw [if_neg (fun q => c46 (d1.mp q)), if_neg (fun q => c46 (d1.mp q)), if_pos t00]
    unfold F_X6_feed_11
    by_cases c1 : 48 ≤ z ∧ z ≤ 57
    · have e1 : F_X7_in (iz z).toInt64 (48 : Int64) (57 : Int64) = 1 := by rw [e9]; exact if_pos c1
      rw [if_neg (fun q => by have := d2.mp q; omega), if_neg (fun q => by have := d3.mp q; omega), if_pos t00, if_neg n10, if_pos t00, e1, if_neg n10, feedM40 (p := p) h1]
      unfold F_X6_feed_55
      rw [hS]
      by_cases q : sz < 60
      · have hle : fcn sz p ≤ sz := fc_le
        have hne : sz ≠ p := by omega
        have e2 : iz z - (48 : Int32) = nI (z - 48).toNat := by
          rw [show (48 : Int32) = iz 48 from rfl, iz_sub, nI_is]; congr 1; omega
        rw [if_pos (by rw [show (60 : Int32) = nI 60 from rfl, nI_ltI (by omega) (by omega)]; exact q), if_pos t00, if_pos q]
        have ea : F_X4_addFigure (iz z - 48) (nI (fcn sz p)) wf = some (nI (fcn sz p + 1), upd wf (fcn sz p) (iz z - 48)) := by
          unfold F_X4_addFigure
          rw [if_neg (show ¬ Int32.ofNat 60 ≤ nI (fcn sz p) from nI_ge (by omega) (by omega)), inr_t (by omega) (by omega), nI_cl (by omega), nI_i1]
        rw [ea]
        have hs2 : F_X4_signs (nI (fcn sz p + 1)) (if p < sz then nI p else -1) = nI (sz + 1) := by
          have := sgnsC (sz := sz + 1) (p := p) (by omega) (by omega)
          rw [fc_s hne] at this
          have ei : (if p < sz + 1 then nI p else -1) = if p < sz then nI p else -1 := by
            by_cases v : p < sz
            · rw [if_pos v, if_pos (by omega)]
            · rw [if_neg v, if_neg (by omega)]
          rw [ei] at this
          exact this
        refine ⟨nI (sz + 1), nI (fcn sz p + 1), (if p < sz then nI p else -1), nI (sz + 1), upd wf (fcn sz p) (iz z - 48), upd word sz (iz z), ?_, rfl, sz + 1, p, by omega, by omega, rfl, by rw [fc_s hne], ?_, fun k hk => ?_, fun i hi => ?_⟩
        · show some (F_X4_signs (nI (fcn sz p + 1)) (if p < sz then nI p else -1), nI (fcn sz p + 1), (if p < sz then nI p else -1), upd wf (fcn sz p) (iz z - 48)) = _
          rw [hs2]
        · by_cases v : p < sz
          · rw [if_pos v, if_pos (by omega)]
          · rw [if_neg v, if_neg (by omega)]
        · by_cases e : k = sz
          · subst e
            rw [pk_us, if_neg hne, pk_us]
            exact (Int32.sub_add_cancel _ _).symm
          · rw [pk_un e, h6 k (by omega)]
            by_cases v : k = p
            · rw [if_pos v, if_pos v]
            · rw [if_neg v, if_neg v, pk_un (by have := fc_m (k := k) (s := sz) (p := p) (by omega) v; omega)]
        · rw [fc_s hne] at hi
          by_cases e : i = fcn sz p
          · subst e
            exact ⟨(z - 48).toNat, by omega, by rw [pk_us, e2]⟩
          · rw [pk_un e]; exact h7 i (by omega)
      · rw [if_neg (by rw [show (60 : Int32) = nI 60 from rfl, nI_ltI (by omega) (by omega)]; exact q), if_neg q]
        exact ⟨_, _, _, _, _, _, rfl, rfl, hW0⟩
    · have e0 : F_X7_in (iz z).toInt64 (48 : Int64) (57 : Int64) = 0 := by rw [e9]; exact if_neg c1
      rw [e0, if_pos t00]
      rcases Int.lt_or_le z 48 with v | v
      · rw [if_pos (d2.mpr v), if_pos t00, if_pos t00]
        exact ⟨_, _, _, _, _, _, rfl, rfl, hW0⟩
      · rw [if_neg (fun q => by have := d2.mp q; omega), if_pos (d3.mpr (by omega)), if_pos t00, if_pos t00]
        exact ⟨_, _, _, _, _, _, rfl, rfl, hW0⟩
theorem coreRead (x1 : Int32) {a b ol hn known kept cnt aop size : Int32} {ms ns hc ic kp w wf word : Nat → Int32} (hS : RelS a b ms ns w) (hH : RelH ol hn hc known w) (hI : RelI ic kp kept w) (hW : RelW cnt aop wf size word) (wm wn : Int32) (vM vN : Int64) (row : Nat → Int32) : ∃ (r ol' hn' kn' wm' wn' : Int32) (vM' vN' : Int64) (hc' ms' ns' w' row' : Nat → Int32), F_X6_read x1 a b ms ns ol hn hc cnt aop wm wn wf = some (r, ms', ns', ol', hn', hc', wm', wn') ∧ F_X7_read x1 known size vM vN w word row = some (r, kn', vM', vN', w', row') ∧ RelS a b ms' ns' w' ∧ RelH ol' hn' hc' kn' w' ∧ RelI ic kp kept w' := by
  obtain ⟨ok, M, N, p1, p2, p3⟩ := worthEq hS hW
  obtain ⟨r, q1, q2, q3⟩ := p2 row
  unfold F_X6_read F_X7_read
  rcases shelfC x1 with ⟨c1, c2, i, hi, rfl⟩ | ⟨c1, c2⟩
  · rw [if_pos c1, if_neg c2, p1, q1]
    by_cases c : ok = true
    · obtain ⟨s1, s2, s3⟩ := q2 c
      obtain ⟨t1, t2, -⟩ := p3 c
      obtain ⟨r1, r2, r3, r4⟩ := r
      dsimp only at s1 s2 s3
      subst s1 s2 s3
      rw [if_pos c]
      obtain ⟨ol', hn', kn', hc', ms', ns', w', e1, e2, e3, e4, e5, -⟩ := layEq hS hH hI hi t1 t2
      have e1' : F_X6_lay (nI i) (iz M).toInt64 (iz N).toInt64 a b ms ns ol hn hc = F_X6_lay (nI i) (lz M) (lz N) a b ms ns ol hn hc := by
        rw [i2l, i2l, iz_to (by omega) (by omega), iz_to (by omega) (by omega)]
      refine ⟨F_X4_shift cnt aop, ol', hn', kn', iz M, iz N, lz M, lz N, hc', ms', ns', w', r4, ?_, ?_, e3, e4, e5⟩
      · rw [bso, if_neg n10, e1', e1]
        rfl
      · rw [bso, if_neg n10, e2, bso, shiftEq hW]
        rfl
    · have s1 := q3 c
      obtain ⟨r1, r2, r3, r4⟩ := r
      dsimp only at s1
      subst s1
      rw [if_neg c]
      exact ⟨-2000000004, ol, hn, known, wm, wn, r2, r3, hc, ms, ns, w, r4, rfl, rfl, hS, hH, hI⟩
  · rw [if_neg c1, if_pos c2]
    exact ⟨_, _, _, _, _, _, _, _, _, _, _, _, _, rfl, rfl, hS, hH, hI⟩
