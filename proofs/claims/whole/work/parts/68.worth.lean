theorem up_nn {a b R k m n : Int} (hV : VB a b) (B : BF a b R k) (hm : -268435456 ≤ m ∧ m ≤ 268435456) (hn : -8388608 ≤ n ∧ n ≤ 8388608) (h0 : 0 ≤ Vv a R m n) : 0 ≤ Vv a R (n * b) (m + n * a) := by
  have hE := E_bd B
  have hu := V_up a b R m n
  have hg := gap hV B hm (n := n)
  obtain ⟨-, -, r3, r4, r5, r6, -⟩ := B
  generalize Dd a b * (S0 * S0) - R * R = E at *
  generalize Vv a R (n * b) (m + n * a) = y at *
  generalize hx : Vv a R m n = x at *
  generalize a * S0 + R = T at *
  have hS : (0 : Int) < S0 := by decide
  have hE2 : E ≤ 22 * S0 := by omega
  apply Int.not_lt.mp
  intro c
  have c1 : 2 * S0 * y < 0 := Int.mul_neg_of_pos_of_neg (by omega) c
  rcases Int.lt_or_le n 0 with d | d
  · have g1 := hg ⟨by omega, d⟩ h0
    have g2 : 3 * S0 * 1152921504606846976 ≤ T * x := Int.mul_le_mul r5 g1 (by decide) (by omega)
    have g3 : -n * E ≤ 8388608 * (22 * S0) := Int.mul_le_mul (by omega) hE2 (by omega) (by decide)
    have g4 : -n * E = -(n * E) := Int.neg_mul n E
    omega
  · have g2 : 0 ≤ T * x := Int.mul_nonneg (by omega) h0
    have g3 : 0 ≤ n * E := Int.mul_nonneg d (by omega)
    omega
def wv (a b : Int) (d : Nat → Int) : Nat → Int × Int
  | 0 => (0, 0)
  | k + 1 => ((wv a b d k).2 * b + d k, (wv a b d k).1 + (wv a b d k).2 * a)
def inbB (x : Int × Int) : Bool := decide (-999999 ≤ x.1 ∧ x.1 ≤ 999999) && decide (-999999 ≤ x.2 ∧ x.2 ≤ 999999)
theorem inbB_iff (x : Int × Int) : inbB x = true ↔ (-999999 ≤ x.1 ∧ x.1 ≤ 999999) ∧ (-999999 ≤ x.2 ∧ x.2 ≤ 999999) := by
  unfold inbB; rw [Bool.and_eq_true, decide_eq_true_eq, decide_eq_true_eq]
def wokB (a b : Int) (d : Nat → Int) : Nat → Bool
  | 0 => true
  | k + 1 => wokB a b d k && inbB (wv a b d (k + 1))
theorem wok_dn {a b : Int} {d : Nat → Int} : ∀ {n k : Nat}, wokB a b d n = true → k ≤ n → wokB a b d k = true
  | 0, k, h, hk => by
    have : k = 0 := by omega
    subst this; rfl
  | n + 1, k, h, hk => by
    rcases Nat.lt_or_ge k (n + 1) with c | c
    · unfold wokB at h
      rw [Bool.and_eq_true] at h
      exact wok_dn h.1 (by omega)
    · have : k = n + 1 := by omega
      subst this; exact h
theorem wok_in {a b : Int} {d : Nat → Int} : ∀ {k : Nat}, wokB a b d k = true → (-999999 ≤ (wv a b d k).1 ∧ (wv a b d k).1 ≤ 999999) ∧ (-999999 ≤ (wv a b d k).2 ∧ (wv a b d k).2 ≤ 999999)
  | 0, _ => by unfold wv; decide
  | k + 1, h => by
    unfold wokB at h
    rw [Bool.and_eq_true] at h
    exact (inbB_iff _).mp h.2
theorem wv_nn {a b R k : Int} (hV : VB a b) (B : BF a b R k) {d : Nat → Int} {n : Nat} (hd : ∀ i, i < n → 0 ≤ d i) : ∀ {j : Nat}, j ≤ n → wokB a b d j = true → 0 ≤ Vv a R (wv a b d j).1 (wv a b d j).2
  | 0, _, _ => by
    have : Vv a R (wv a b d 0).1 (wv a b d 0).2 = 0 := by unfold wv; grind
    omega
  | j + 1, hj, h => by
    have h1 := wok_dn h (Nat.le_succ j)
    have ih := wv_nn hV B hd (j := j) (by omega) h1
    have bd := wok_in h1
    have u := up_nn hV B (m := (wv a b d j).1) (n := (wv a b d j).2) (by omega) (by omega) ih
    have hS : (0 : Int) < S0 := by decide
    have e : Vv a R (wv a b d (j + 1)).1 (wv a b d (j + 1)).2 = Vv a R ((wv a b d j).2 * b) ((wv a b d j).1 + (wv a b d j).2 * a) + d j * (2 * S0) := by
      show Vv a R ((wv a b d j).2 * b + d j) ((wv a b d j).1 + (wv a b d j).2 * a) = _
      grind
    have : 0 ≤ d j * (2 * S0) := Int.mul_nonneg (hd j (by omega)) (by omega)
    omega
abbrev dgt (wf : Nat → Int32) : Nat → Int := fun i => (wf i).toInt
theorem dgt_rng {wf : Nat → Int32} {cn : Nat} (hd : ∀ i, i < cn → ∃ d : Nat, d ≤ 9 ∧ wf i = nI d) {i : Nat} (hi : i < cn) : 0 ≤ dgt wf i ∧ dgt wf i ≤ 9 := by
  obtain ⟨d, h1, h2⟩ := hd i hi
  unfold dgt
  rw [h2, nI_toInt (by omega)]
  omega
theorem nxt_bd {a b m n e : Int} (hV : VB a b) (hm : -999999 ≤ m ∧ m ≤ 999999) (hn : -999999 ≤ n ∧ n ≤ 999999) (he : 0 ≤ e ∧ e ≤ 9) : (-10000000 ≤ n * b + e ∧ n * b + e ≤ 10000000) ∧ (-10000000 ≤ m + n * a ∧ m + n * a ≤ 10000000) := by
  have ha : -9 ≤ a ∧ a ≤ 9 := by have := hV.1; have := hV.2.1; omega
  have hb : -9 ≤ b ∧ b ≤ 9 := by have := hV.2; omega
  have q1 := mul_bd (x := n) (y := b) (K := 999999) (L := 9) (by omega) hb
  have q2 := mul_bd (x := n) (y := a) (K := 999999) (L := 9) (by omega) ha
  omega
theorem reckC {A B : Int32} (hV : VB A.toInt B.toInt) {wf : Nat → Int32} {cn : Nat} (hcn : cn ≤ 60) (hd : ∀ i, i < cn → ∃ d : Nat, d ≤ 9 ∧ wf i = nI d) (wm wn : Int32) : ∀ (d k fu : Nat), k + d = cn → d + 1 ≤ fu → wokB A.toInt B.toInt (dgt wf) k = true → F_X4_reckon_8 (nI cn) wf A B fu (lz (wv A.toInt B.toInt (dgt wf) k).1) (lz (wv A.toInt B.toInt (dgt wf) k).2) (nI k) wm wn = if wokB A.toInt B.toInt (dgt wf) cn = true then some (1, iz (wv A.toInt B.toInt (dgt wf) cn).1, iz (wv A.toInt B.toInt (dgt wf) cn).2) else some (0, wm, wn) := by
  intro d
  induction d with
  | zero =>
    intro k fu e hf hk
    obtain ⟨fu, rfl⟩ : ∃ z, fu = z + 1 := ⟨fu - 1, by omega⟩
    have : k = cn := by omega
    subst this
    rw [F_X4_reckon_8, if_pos (Int32.le_refl _), if_pos hk]
    unfold F_X4_reckon_69
    rw [l2i, l2i]
  | succ d ih =>
    intro k fu e hf hk
    obtain ⟨fu, rfl⟩ : ∃ z, fu = z + 1 := ⟨fu - 1, by omega⟩
    have bd := wok_in hk
    have dr := dgt_rng hd (i := k) (by omega)
    have ed : dgt wf k = (wf k).toInt := rfl
    have nb := nxt_bd hV bd.1 bd.2 dr
    rw [F_X4_reckon_8, if_neg (nI_ge (by omega) (by omega)), inr_t (by omega) (by omega), nI_cl (by omega), rzM, rzN, i2l, lz_add, oobC (by omega), oobC (by omega)]
    have e1 : (wv A.toInt B.toInt (dgt wf) k).2 * B.toInt + (wf k).toInt = (wv A.toInt B.toInt (dgt wf) (k + 1)).1 := rfl
    have e2 : (wv A.toInt B.toInt (dgt wf) k).1 + (wv A.toInt B.toInt (dgt wf) k).2 * A.toInt = (wv A.toInt B.toInt (dgt wf) (k + 1)).2 := rfl
    rw [e1, e2, nI_i1]
    by_cases c : inbB (wv A.toInt B.toInt (dgt wf) (k + 1)) = true
    · have c' := (inbB_iff _).mp c
      rw [if_pos c'.1, if_pos t00, if_pos c'.2, if_pos t00]
      exact ih (k + 1) fu (by omega) (by omega) (by unfold wokB; rw [hk, c]; rfl)
    · have hno : ¬ wokB A.toInt B.toInt (dgt wf) cn = true := fun q => by
        have := wok_dn q (show k + 1 ≤ cn by omega)
        unfold wokB at this
        rw [Bool.and_eq_true] at this
        exact c this.2
      rw [if_neg hno]
      by_cases c1 : -999999 ≤ (wv A.toInt B.toInt (dgt wf) (k + 1)).1 ∧ (wv A.toInt B.toInt (dgt wf) (k + 1)).1 ≤ 999999
      · rw [if_pos c1, if_pos t00, if_neg (fun q => c ((inbB_iff _).mpr ⟨c1, q⟩)), if_neg n10]
      · rw [if_neg c1, if_neg n10]
theorem worM {w : Nat → Int32} (hV : VB (w 0).toInt (w 1).toInt) {size : Int32} {wf word : Nat → Int32} {cn : Nat} (hcn : cn ≤ 60) (hfg : F_X7_figures size word = some (nI cn)) (hd : ∀ i, i < cn → ∃ d : Nat, d ≤ 9 ∧ wf i = nI d) {row : Nat → Int32} (hr : ∀ i, i < cn → row i = wf i) : ∀ (d k fu : Nat), k + d = cn → d + 2 ≤ fu → wokB (w 0).toInt (w 1).toInt (dgt wf) k = true → ∃ r : Int32 × Int64 × Int64 × (Nat → Int32), F_X7_layWorth_18 size w word fu 1 (nI k) (lz (wv (w 0).toInt (w 1).toInt (dgt wf) k).1) (lz (wv (w 0).toInt (w 1).toInt (dgt wf) k).2) row = some r ∧ (wokB (w 0).toInt (w 1).toInt (dgt wf) cn = true → r = (1, lz (wv (w 0).toInt (w 1).toInt (dgt wf) cn).1, lz (wv (w 0).toInt (w 1).toInt (dgt wf) cn).2, row)) ∧ (¬ wokB (w 0).toInt (w 1).toInt (dgt wf) cn = true → r.1 = 0) := by
  intro d
  induction d with
  | zero =>
    intro k fu e hf hk
    obtain ⟨fu, rfl⟩ : ∃ z, fu = z + 1 := ⟨fu - 1, by omega⟩
    have : k = cn := by omega
    subst this
    rw [F_X7_layWorth_18, hfg]
    show ∃ r, (if nI k ≤ nI k then _ else _) = _ ∧ _
    rw [if_pos (Int32.le_refl _), zk_t (Or.inr rfl)]
    exact ⟨_, rfl, fun _ => rfl, fun q => absurd hk q⟩
  | succ d ih =>
    intro k fu e hf hk
    obtain ⟨fu, rfl⟩ : ∃ z, fu = z + 1 + 1 := ⟨fu - 2, by omega⟩
    have bd := wok_in hk
    have dr := dgt_rng hd (i := k) (by omega)
    have ed : dgt wf k = (wf k).toInt := rfl
    have nb := nxt_bd hV bd.1 bd.2 dr
    have e1 : (wv (w 0).toInt (w 1).toInt (dgt wf) k).2 * (w 1).toInt + (wf k).toInt = (wv (w 0).toInt (w 1).toInt (dgt wf) (k + 1)).1 := rfl
    have e2 : (wv (w 0).toInt (w 1).toInt (dgt wf) k).1 + (wv (w 0).toInt (w 1).toInt (dgt wf) k).2 * (w 0).toInt = (wv (w 0).toInt (w 1).toInt (dgt wf) (k + 1)).2 := rfl
    have step : F_X7_layWorth_18 size w word (fu + 1 + 1) 1 (nI k) (lz (wv (w 0).toInt (w 1).toInt (dgt wf) k).1) (lz (wv (w 0).toInt (w 1).toInt (dgt wf) k).2) row = F_X7_layWorth_18 size w word (fu + 1) (if inbB (wv (w 0).toInt (w 1).toInt (dgt wf) (k + 1)) = true then 1 else 0) (nI (k + 1)) (lz (wv (w 0).toInt (w 1).toInt (dgt wf) (k + 1)).1) (lz (wv (w 0).toInt (w 1).toInt (dgt wf) (k + 1)).2) row := by
      rw [F_X7_layWorth_18, hfg]
      refine (if_neg (nI_ge (by omega) (by omega)) : (if nI cn ≤ nI k then _ else _) = _).trans ?_
      rw [if_neg n10, inr_t (by omega) (by omega), nI_cl (by omega), hr k (by omega), z0, z1, i2l, i2l, i2l, lz_mul, lz_mul, lz_add, lz_add, inB (by omega), inB (by omega), e1, e2, nI_i1]
      by_cases c : inbB (wv (w 0).toInt (w 1).toInt (dgt wf) (k + 1)) = true
      · have c' := (inbB_iff _).mp c
        rw [if_pos c'.1, if_neg n10, if_pos c'.2, if_neg n10, if_pos c]
      · rw [if_neg c]
        by_cases c1 : -999999 ≤ (wv (w 0).toInt (w 1).toInt (dgt wf) (k + 1)).1 ∧ (wv (w 0).toInt (w 1).toInt (dgt wf) (k + 1)).1 ≤ 999999
        · rw [if_pos c1, if_neg n10, if_neg (fun q => c ((inbB_iff _).mpr ⟨c1, q⟩)), if_pos t00]
        · rw [if_neg c1, if_pos t00]
    rw [step]
    by_cases c : inbB (wv (w 0).toInt (w 1).toInt (dgt wf) (k + 1)) = true
    · rw [if_pos c]
      exact ih (k + 1) (fu + 1) (by omega) (by omega) (by unfold wokB; rw [hk, c]; rfl)
    · have hno : ¬ wokB (w 0).toInt (w 1).toInt (dgt wf) cn = true := fun q => by
        have := wok_dn q (show k + 1 ≤ cn by omega)
        unfold wokB at this
        rw [Bool.and_eq_true] at this
        exact c this.2
      rw [if_neg c, F_X7_layWorth_18, hfg]
      refine ⟨(0, lz (wv (w 0).toInt (w 1).toInt (dgt wf) (k + 1)).1, lz (wv (w 0).toInt (w 1).toInt (dgt wf) (k + 1)).2, row), ?_, fun q => absurd q hno, fun _ => rfl⟩
      show (if nI cn ≤ nI (k + 1) then zk (0 : Int32) (some ((0 : Int32), lz (wv (w 0).toInt (w 1).toInt (dgt wf) (k + 1)).1, lz (wv (w 0).toInt (w 1).toInt (dgt wf) (k + 1)).2, row)) else (if (0 : Int32) = 0 then zk (0 : Int32) (some ((0 : Int32), lz (wv (w 0).toInt (w 1).toInt (dgt wf) (k + 1)).1, lz (wv (w 0).toInt (w 1).toInt (dgt wf) (k + 1)).2, row)) else _)) = _
      rw [zk_t (Or.inl rfl), if_pos t00]
      by_cases z : nI cn ≤ nI (k + 1)
      · rw [if_pos z]
      · rw [if_neg z]
/-- what the word is worth, on both sides -/
theorem worthEq {a b cnt aop size : Int32} {ms ns w wf word : Nat → Int32} (hS : RelS a b ms ns w) (hW : RelW cnt aop wf size word) : ∃ (ok : Bool) (M N : Int), (∀ wm wn : Int32, F_X4_reckon cnt wm wn wf a b = if ok = true then some (1, iz M, iz N) else some (0, wm, wn)) ∧ (∀ row : Nat → Int32, ∃ r : Int32 × Int64 × Int64 × (Nat → Int32), F_X7_layWorth size w word row = some r ∧ (ok = true → r.1 = 1 ∧ r.2.1 = lz M ∧ r.2.2.1 = lz N) ∧ (¬ ok = true → r.1 = 0)) ∧ (ok = true → (-999999 ≤ M ∧ M ≤ 999999) ∧ (-999999 ≤ N ∧ N ≤ 999999) ∧ 0 ≤ Vv a.toInt (Rf a.toInt b.toInt) M N) := by
  obtain ⟨sz, p, h1, h2, h3, h4, h5, h6, h7⟩ := hW
  have hV := hS.2.1
  have w0 := rS0 hS
  have hcn : fcn sz p ≤ 60 := Nat.le_trans fc_le h1
  refine ⟨wokB a.toInt b.toInt (dgt wf) (fcn sz p), (wv a.toInt b.toInt (dgt wf) (fcn sz p)).1, (wv a.toInt b.toInt (dgt wf) (fcn sz p)).2, fun wm wn => ?_, fun row => ?_, fun ok => ?_⟩
  · rw [h4]
    exact reckC hV hcn h7 wm wn (fcn sz p) 0 128 (by omega) (by omega) rfl
  · obtain ⟨row', r1, r2⟩ := layRowM h1 h3 h6 h7 row
    obtain ⟨r, q1, q2, q3⟩ := worM (w := w) (by rw [w0.1, w0.2]; exact hV) hcn (figsM h1 h3 h6 h7) h7 r2 (fcn sz p) 0 128 (by omega) (by omega) rfl
    rw [w0.1, w0.2] at q2 q3
    refine ⟨r, ?_, fun z => by rw [q2 z]; exact ⟨rfl, rfl, rfl⟩, q3⟩
    unfold F_X7_layWorth
    rw [r1]
    exact q1
  · have := wok_in ok
    exact ⟨this.1, this.2, wv_nn hV (base_ok hV) (n := fcn sz p) (fun i hi => (dgt_rng h7 hi).1) (Nat.le_refl _) ok⟩
