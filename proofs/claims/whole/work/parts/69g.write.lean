theorem cpC6 {h c : Nat} {fig : Nat → Nat} {figs : Nat → Int32} (hl : h + 1 + c ≤ 60) (hf : ∀ i, i < h + 1 + c → fig i ≤ 9 ∧ figs i = nI (fig i)) (aop : Int32) : ∀ (d k fu : Nat) (wf : Nat → Int32), k + d = h + 1 + c → d + 1 ≤ fu → (∀ i, i < k → wf i = nI (fig i)) → ∃ wf' : Nat → Int32, F_X4_copyFrom_6 (nI (h + 1)) (nI c) figs fu (nI k) (nI k) aop wf = some (nI (h + 1 + c), (if c = 0 then aop else nI (h + 1)), wf') ∧ ∀ i, i < h + 1 + c → wf' i = nI (fig i) := by
  intro d
  induction d with
  | zero =>
    intro k fu wf h1 h2 h3
    obtain ⟨fu, rfl⟩ : ∃ f, fu = f + 1 := ⟨fu - 1, by omega⟩
    unfold F_X4_copyFrom_6 F_X5_figureCount F_X4_copyFrom_30
    have hk : k = h + 1 + c := by omega
    subst hk
    refine ⟨wf, ?_, h3⟩
    rw [nI_add, if_pos ((nI_leI (by omega) (by omega)).mpr (Nat.le_refl _))]
    by_cases c0 : c = 0
    · rw [if_pos c0, c0, if_pos (show nI 0 ≤ 0 from by decide)]
    · rw [if_neg c0, if_neg (show ¬ nI c ≤ 0 from fun q => c0 (by have := (nI_leI (a := c) (b := 0) (by omega) (by omega)).mp q; omega))]
  | succ d ih =>
    intro k fu wf h1 h2 h3
    obtain ⟨fu, rfl⟩ : ∃ f, fu = f + 1 := ⟨fu - 1, by omega⟩
    unfold F_X4_copyFrom_6
    rw [show F_X5_figureCount (nI (h + 1)) (nI c) = nI (h + 1 + c) from nI_add _ _, if_neg (fun q => by have := (nI_leI (by omega) (by omega)).mp q; omega), inr_t (by omega) (by omega)]
    unfold F_X4_addFigure
    rw [if_neg (fun q => by have := (nI_leI (a := 60) (b := k) (by omega) (by omega)).mp q; omega), inr_t (by omega) (by omega), bso, nI_cl (by omega), (hf k (by omega)).2]
    dsimp only
    rw [nI_i1]
    refine ih (k + 1) fu _ (by omega) (by omega) (fun i hi => ?_)
    by_cases e : i = k
    · rw [e, pk_us]
    · rw [pk_un e]; exact h3 i (by omega)
/-- the place of the point -/
def ppt (h c : Nat) : Nat := if c = 0 then 100 else h + 1
def szw (h c : Nat) : Nat := if c = 0 then h + 1 + c else h + 1 + c + 1
def szk (h k : Nat) : Nat := if k ≤ h + 1 then k else k + 1
theorem w127 {h c : Nat} {fig : Nat → Nat} {ah be : Nat → Int32} (hh : h < 40) (hc : c ≤ 40) (h1 : ∀ i, i ≤ h → ah (h - i) = nI (fig i)) (h2 : ∀ i, i < c → be i = nI (fig (h + 1 + i))) {k s : Nat} (hk : k < h + 1 + c) (hs : s < 60) (en le ro : Int32) (word : Nat → Int32) (rM rN pM pN : Nat → Int64) (kk) : F_X7_write_127 kk (iz ((h : Int) - k)) (nI s) (nI h) (nI c) en le ro word ah be rM rN pM pN = kk (iz ((h : Int) - (k + 1 : Nat))) (nI (s + 1)) (nI h) (nI c) en le ro (upd word s (nI (fig k) + 48)) ah be rM rN pM pN := by
  unfold F_X7_write_127
  rw [figAt hh hc h1 h2 (by omega), bso, if_pos (by omega), inr_t hs (by omega), nI_cl (by omega), nI_i1, show (-1 : Int32) = iz (-1) from rfl, iz_add, Int32.add_comm, show ((h : Int) - ((h : Int) - k)).toNat = k from by omega, show (h : Int) - k + -1 = (h : Int) - (k + 1 : Nat) from by omega]
theorem w92 {h c : Nat} {fig : Nat → Nat} {ah be : Nat → Int32} (hh : h < 40) (hc : c ≤ 40) (hl : szw h c ≤ 60) (h1 : ∀ i, i ≤ h → ah (h - i) = nI (fig i)) (h2 : ∀ i, i < c → be i = nI (fig (h + 1 + i))) (en le ro : Int32) (rM rN pM pN : Nat → Int64) : ∀ (d k fu : Nat) (word : Nat → Int32), k + d = h + 1 + c → d + 1 ≤ fu → (∀ j, j < szk h k → word j = if j = ppt h c then 46 else nI (fig (fcn j (ppt h c))) + 48) → ∃ word' : Nat → Int32, F_X7_write_92 fu (iz ((h : Int) - k)) (nI (szk h k)) (nI h) (nI c) en le ro word ah be rM rN pM pN = some (nI (szw h c), nI (szw h c), nI h, nI c, en, le, ro, word', ah, be, rM, rN, pM, pN) ∧ ∀ j, j < szw h c → word' j = if j = ppt h c then 46 else nI (fig (fcn j (ppt h c))) + 48 := by
  intro d
  induction d with
  | zero =>
    intro k fu word e1 e2 e3
    obtain ⟨fu, rfl⟩ : ∃ f, fu = f + 1 := ⟨fu - 1, by omega⟩
    unfold F_X7_write_92
    have hk : k = h + 1 + c := by omega
    have hz : szk h k = szw h c := by
      unfold szk szw
      by_cases q : c = 0
      · rw [if_pos (by omega), if_pos q, hk]
      · rw [if_neg (by omega), if_neg q, hk]
    rw [hz] at e3 ⊢
    refine ⟨word, ?_, e3⟩
    rw [nI_is, iz_neg, if_pos ((iz_lt (by omega) (by omega)).mpr (by omega))]
  | succ d ih =>
    intro k fu word e1 e2 e3
    obtain ⟨fu, rfl⟩ : ∃ f, fu = f + 1 := ⟨fu - 1, by omega⟩
    unfold F_X7_write_92
    have hz : szk h k < 60 := by
      unfold szk; unfold szw at hl; split <;> split at hl <;> omega
    have cA : ¬ iz ((h : Int) - k) < -nI c := by
      rw [nI_is, iz_neg, iz_lt (by omega) (by omega)]; omega
    rw [if_neg cA, show (-1 : Int32) = iz (-1) from rfl]
    by_cases q : k = h + 1
    · have cB : iz ((h : Int) - k) = iz (-1) := congrArg iz (by omega)
      have hc0 : ¬ c = 0 := by omega
      have hs : szk h k = h + 1 := by unfold szk; rw [if_pos (by omega), q]
      have hz2 : h + 2 < 60 := by unfold szw at hl; rw [if_neg hc0] at hl; omega
      rw [if_pos cB, hs, inr_t (by omega) (by omega), nI_cl (by omega), nI_i1, w127 hh hc h1 h2 (by omega) (by omega)]
      have hs2 : szk h (k + 1) = h + 1 + 1 + 1 := by unfold szk; rw [if_neg (by omega), q]
      rw [← hs2]
      refine ih (k + 1) fu _ (by omega) (by omega) (fun j hj => ?_)
      have hp : ppt h c = h + 1 := if_neg hc0
      rw [hs] at e3
      rw [hs2] at hj
      by_cases j1 : j = h + 1 + 1
      · rw [j1, pk_us, hp, if_neg (by omega)]
        unfold fcn
        rw [if_pos (by omega), q]; rfl
      · rw [pk_un j1]
        by_cases j2 : j = h + 1
        · rw [j2, pk_us, hp, if_pos rfl]
        · rw [pk_un j2]; exact e3 j (by omega)
    · have cB : ¬ iz ((h : Int) - k) = iz (-1) := fun t => by
        have := congrArg Int32.toInt t
        rw [iz_to (by omega) (by omega), iz_to (by omega) (by omega)] at this; omega
      rw [if_neg cB, w127 hh hc h1 h2 (by omega) hz]
      have hs2 : szk h (k + 1) = szk h k + 1 := by
        unfold szk; by_cases t : k < h + 1
        · rw [if_pos (by omega), if_pos (by omega)]
        · rw [if_neg (by omega), if_neg (by omega)]
      rw [← hs2]
      refine ih (k + 1) fu _ (by omega) (by omega) (fun j hj => ?_)
      rw [hs2] at hj
      by_cases j1 : j = szk h k
      · have hne : ¬ szk h k = ppt h c := by
          unfold szk ppt; split <;> split <;> omega
        have hfc : fcn (szk h k) (ppt h c) = k := by
          unfold fcn szk ppt
          by_cases t : k ≤ h + 1
          · rw [if_pos t, if_neg (by split <;> omega)]
          · rw [if_neg t, if_pos (by split <;> omega)]; rfl
        rw [j1, pk_us, if_neg hne, hfc]
      · rw [pk_un j1]; exact e3 j (by omega)
theorem coreWrite (x1 : Int32) {a b cnt aop size : Int32} {ms ns w wf word : Nat → Int32} (hS : RelS a b ms ns w) (hW : RelW cnt aop wf size word) {v_ahead v_behind v_ends v_lead v_round v_ofA v_ofB v_ofM v_ofN : Int32} {v_figures : Nat → Int32} (hc : Ca v_ofA v_ofB v_ofM v_ofN v_ahead v_behind v_ends v_lead v_round v_figures) (v_leftM v_leftN : Int64) (v_powerMs v_powerNs v_restMs v_restNs : Nat → Int64) (v_high v_bm v_en0 v_le0 v_ro0 : Int32) (v_ah0 v_be0 : Nat → Int32) (v_rM0 v_rN0 v_pM0 v_pN0 : Nat → Int64) :
    ∃ (r o_cnt o_aop : Int32) (o_wf : Nat → Int32) (o_ah o_be o_en o_le o_ro : Int32) (o_lM o_lN : Int64) (o_A o_B o_M o_N : Int32) (o_figs : Nat → Int32) (o_pM o_pN o_rM o_rN : Nat → Int64) (o_size o1 o2 o3 o4 o5 : Int32) (o_word o6 o7 : Nat → Int32) (o8 o9 o10 o11 : Nat → Int64), F_X6_write x1 a b ms ns cnt aop wf v_ahead v_behind v_ends v_lead v_round v_leftM v_leftN v_ofA v_ofB v_ofM v_ofN v_figures v_powerMs v_powerNs v_restMs v_restNs = some (r, o_cnt, o_aop, o_wf, o_ah, o_be, o_en, o_le, o_ro, o_lM, o_lN, o_A, o_B, o_M, o_N, o_figs, o_pM, o_pN, o_rM, o_rN) ∧ F_X7_write x1 size v_high v_bm v_en0 v_le0 v_ro0 w word v_ah0 v_be0 v_rM0 v_rN0 v_pM0 v_pN0 = some (r, o_size, o1, o2, o3, o4, o5, o_word, o6, o7, o8, o9, o10, o11) ∧ RelW o_cnt o_aop o_wf o_size o_word ∧ Ca o_A o_B o_M o_N o_ah o_be o_en o_le o_ro o_figs := by
  unfold F_X6_write F_X7_write
  rcases shelfC x1 with ⟨c1, c2, i, hi, rfl⟩ | ⟨c1, c2⟩
  · rw [if_pos c1, if_neg c2, mOfM hi, nOfM hi, (rS hS hi).1, (rS hS hi).2]
    rcases shW hS hi hc v_leftM v_leftN v_powerMs v_powerNs v_restMs v_restNs with ⟨e1, e2⟩ | ⟨e2, h, c, fig, en, le, ro, lM, lN, figs, pM, pN, rM, rN, e1, g1, g2, g3, g4, g5, g6⟩
    · rw [e1, bso, bso, bso, if_neg e2, if_pos t00]
      exact ⟨_, _, _, _, _, _, _, _, _, _, _, _, _, _, _, _, _, _, _, _, _, _, _, _, _, _, _, _, _, _, _, _, _, rfl, rfl, hW, hc⟩
    · obtain ⟨ah, be, rM', rN', pM', pN', q1, q2, q3⟩ := g6 v_bm v_en0 v_le0 v_ro0 v_ah0 v_be0 v_rM0 v_rN0 v_pM0 v_pN0
      rw [e1, bso, bso, bso, if_pos e2, if_neg n10, bso, bso, i2l, i2l, q1, bso]
      dsimp only
      have ec : F_X5_figureCount (nI (h + 1)) (nI c) = nI (h + 1 + c) := nI_add _ _
      have key : szw h c ≤ 60 → ∃ (wf' word' : Nat → Int32), F_X4_copyFrom wf (nI (h + 1)) (nI c) figs = some (nI (h + 1 + c), (if c = 0 then -1 else nI (h + 1)), wf') ∧ F_X7_write_92 128 (nI h) (0 : Int32) (nI h) (nI c) en le ro word ah be rM' rN' pM' pN' = some (nI (szw h c), nI (szw h c), nI h, nI c, en, le, ro, word', ah, be, rM', rN', pM', pN') ∧ RelW (nI (h + 1 + c)) (if c = 0 then -1 else nI (h + 1)) wf' (nI (szw h c)) word' := by
        intro hl
        have hl' : h + 1 + c ≤ 60 := by unfold szw at hl; split at hl <;> omega
        obtain ⟨wf', k1, k2⟩ := cpC6 hl' g4 (-1) (h + 1 + c) 0 128 wf (by omega) (by omega) (fun i hi => by omega)
        obtain ⟨word', k3, k4⟩ := w92 g2 g3 hl q2 q3 en le ro rM' rN' pM' pN' (h + 1 + c) 0 128 word (by omega) (by omega) (fun j hj => by
          have : szk h 0 = 0 := if_pos (by omega)
          omega)
        have hfc : fcn (szw h c) (ppt h c) = h + 1 + c := by
          unfold fcn szw ppt; by_cases t : c = 0
          · rw [if_pos t, if_pos t, if_neg (by omega)]
          · rw [if_neg t, if_neg t, if_pos (by omega)]; rfl
        refine ⟨wf', word', k1, ?_, szw h c, ppt h c, hl, ?_, rfl, ?_, ?_, ?_, ?_⟩
        · have e0 : szk h 0 = 0 := if_pos (by omega)
          rw [e0] at k3
          rw [← k3, nI_is]
          exact congrArg (fun t => F_X7_write_92 128 (iz t) (nI 0) (iz (h : Int)) (nI c) en le ro word ah be rM' rN' pM' pN') (by omega)
        · unfold szw ppt; by_cases t : c = 0
          · rw [if_pos t, if_pos t]; right; rfl
          · rw [if_neg t, if_neg t]; left; omega
        · rw [hfc]
        · unfold szw ppt; by_cases t : c = 0
          · rw [if_pos t, if_pos t, if_pos t, if_neg (by omega)]
          · rw [if_neg t, if_neg t, if_neg t, if_pos (by omega)]
        · intro k hk
          rw [k4 k hk]
          by_cases t : k = ppt h c
          · rw [if_pos t, if_pos t]
          · rw [if_neg t, if_neg t, k2 _ (by rw [← hfc]; exact fc_m hk t)]
        · intro i hi'
          rw [hfc] at hi'
          exact ⟨fig i, (g4 i hi').1, k2 i hi'⟩
      by_cases c0 : c = 0
      · have cz : nI c ≤ 0 := by rw [c0]; decide
        have hz : szw h c = h + 1 + c := if_pos c0
        rw [hz] at key
        rw [if_pos cz, if_pos cz, ec, show nI (h + 1 + c) + (0 : Int32) = nI (h + 1 + c) from Int32.add_zero _, nI_i1, show nI (h + 1) + (0 : Int32) = nI (h + 1 + c) from by rw [c0]; exact Int32.add_zero _]
        by_cases k : h + 1 + c ≤ 60
        · obtain ⟨wf', word', k1, k2, k3⟩ := key k
          have kl : nI (h + 1 + c) ≤ (60 : Int32) := (nI_leI (a := h + 1 + c) (b := 60) (by omega) (by omega)).mpr k
          rw [if_pos kl, if_pos kl, k1, k2, bso]
          exact ⟨_, _, _, _, _, _, _, _, _, _, _, _, _, _, _, _, _, _, _, _, _, _, _, _, _, _, _, _, _, _, _, _, _, rfl, rfl, k3, g1⟩
        · have kl : ¬ nI (h + 1 + c) ≤ (60 : Int32) := fun q => k ((nI_leI (a := h + 1 + c) (b := 60) (by omega) (by omega)).mp q)
          rw [if_neg kl, if_neg kl]
          exact ⟨_, _, _, _, _, _, _, _, _, _, _, _, _, _, _, _, _, _, _, _, _, _, _, _, _, _, _, _, _, _, _, _, _, rfl, rfl, hW, g1⟩
      · have cz : ¬ nI c ≤ 0 := fun q => c0 (by have := (nI_leI (a := c) (b := 0) (by omega) (by omega)).mp q; omega)
        have hz : szw h c = h + 1 + c + 1 := if_neg c0
        rw [hz] at key
        rw [if_neg cz, if_neg cz, ec, nI_i1, nI_i1, show (1 : Int32) + nI c = nI (1 + c) from nI_add 1 c, nI_add, show h + 1 + (1 + c) = h + 1 + c + 1 from by omega]
        by_cases k : h + 1 + c + 1 ≤ 60
        · obtain ⟨wf', word', k1, k2, k3⟩ := key k
          have kl : nI (h + 1 + c + 1) ≤ (60 : Int32) := (nI_leI (a := h + 1 + c + 1) (b := 60) (by omega) (by omega)).mpr k
          rw [if_pos kl, if_pos kl, k1, k2, bso]
          exact ⟨_, _, _, _, _, _, _, _, _, _, _, _, _, _, _, _, _, _, _, _, _, _, _, _, _, _, _, _, _, _, _, _, _, rfl, rfl, k3, g1⟩
        · have kl : ¬ nI (h + 1 + c + 1) ≤ (60 : Int32) := fun q => k ((nI_leI (a := h + 1 + c + 1) (b := 60) (by omega) (by omega)).mp q)
          rw [if_neg kl, if_neg kl]
          exact ⟨_, _, _, _, _, _, _, _, _, _, _, _, _, _, _, _, _, _, _, _, _, _, _, _, _, _, _, _, _, _, _, _, _, rfl, rfl, hW, g1⟩
  · rw [if_neg c1, if_pos c2]; exact ⟨_, _, _, _, _, _, _, _, _, _, _, _, _, _, _, _, _, _, _, _, _, _, _, _, _, _, _, _, _, _, _, _, _, rfl, rfl, hW, hc⟩
