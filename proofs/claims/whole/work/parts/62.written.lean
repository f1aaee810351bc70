theorem wrM {w : Nat → Int32} {M N : Int} (hV : VB (w 0).toInt (w 1).toInt) (hM : -999999 ≤ M ∧ M ≤ 999999) (hN : -999999 ≤ N ∧ N ≤ 999999) (h0 : 0 ≤ Vv (w 0).toInt (Rf (w 0).toInt (w 1).toInt) M N) {h : Nat} (hh : h = hp (w 0).toInt (w 1).toInt (Rf (w 0).toInt (w 1).toInt) M N) (bm en le ro : Int32) (be : Nat → Int32) (rM rN : Nat → Int64) {pM pN : Nat → Int64} (hp0 : ∀ i, i ≤ h → pM i = lz (Pw (w 0).toInt (w 1).toInt i).1 ∧ pN i = lz (Pw (w 0).toInt (w 1).toInt i).2) : ∀ (k j fu : Nat) (ah : Nat → Int32) (x9 : Int32), j + k = h + 1 → k + 1 ≤ fu → x9 = iz ((k : Int) - 1) → (∀ i, i < j → ah (h - i) = iz (dg (w 0).toInt (w 1).toInt (Rf (w 0).toInt (w 1).toInt) M N h i)) →
    ∃ ah' : Nat → Int32, F_X7_layWritten_18 w fu (lz (lf (w 0).toInt (w 1).toInt (Rf (w 0).toInt (w 1).toInt) M N h j).1) (lz (lf (w 0).toInt (w 1).toInt (Rf (w 0).toInt (w 1).toInt) M N h j).2) x9 (nI h) bm en le ro ah be rM rN pM pN = F_X7_layWritten_98 w (lz (lf (w 0).toInt (w 1).toInt (Rf (w 0).toInt (w 1).toInt) M N h (h + 1)).1) (lz (lf (w 0).toInt (w 1).toInt (Rf (w 0).toInt (w 1).toInt) M N h (h + 1)).2) (nI h) bm en le ro ah' be rM rN pM pN ∧ ∀ i, i ≤ h → ah' (h - i) = iz (dg (w 0).toInt (w 1).toInt (Rf (w 0).toInt (w 1).toInt) M N h i) := by
  have Bk := base_ok hV
  have s := Sm_in hV Bk hM hN
  have hXB : XB = 12000000 * (2 * S0) := rfl
  have hS : (0 : Int) < S0 := by decide
  have p := hp_spec (M := M) (N := N) Bk (by omega)
  rw [← hh] at p
  intro k
  induction k with
  | zero =>
    intro j fu ah x9 e hf hx hfg
    obtain ⟨fu, rfl⟩ : ∃ z, fu = z + 1 := ⟨fu - 1, by omega⟩
    have e2 : j = h + 1 := by omega
    subst e2
    have hx' : x9 = -1 := by rw [hx]; rfl
    subst hx'
    rw [F_X7_layWritten_18, if_pos (by decide)]
    exact ⟨ah, rfl, fun i hi => hfg i (by omega)⟩
  | succ k ih =>
    intro j fu ah x9 e hf hx hfg
    obtain ⟨fu, rfl⟩ : ∃ z, fu = z + 1 := ⟨fu - 1, by omega⟩
    have hx' : x9 = nI k := by
      rw [hx, nI_is]
      have : ((k + 1 : Nat) : Int) - 1 = (k : Int) := by omega
      rw [this]
    subst hx'
    have ek : h - j = k := by omega
    have tk := TK_lf hV Bk hM hN h0 hh j (by omega)
    rw [ek] at tk
    have t1 := tk_t tk
    obtain ⟨t, ht⟩ : ∃ t : Nat, (t : Int) = Vv (w 0).toInt (Rf (w 0).toInt (w 1).toInt) (lf (w 0).toInt (w 1).toInt (Rf (w 0).toInt (w 1).toInt) M N h j).1 (lf (w 0).toInt (w 1).toInt (Rf (w 0).toInt (w 1).toInt) M N h j).2 / Vv (w 0).toInt (Rf (w 0).toInt (w 1).toInt) (Pw (w 0).toInt (w 1).toInt k).1 (Pw (w 0).toInt (w 1).toInt k).2 := ⟨(Vv (w 0).toInt (Rf (w 0).toInt (w 1).toInt) (lf (w 0).toInt (w 1).toInt (Rf (w 0).toInt (w 1).toInt) M N h j).1 (lf (w 0).toInt (w 1).toInt (Rf (w 0).toInt (w 1).toInt) M N h j).2 / Vv (w 0).toInt (Rf (w 0).toInt (w 1).toInt) (Pw (w 0).toInt (w 1).toInt k).1 (Pw (w 0).toInt (w 1).toInt k).2).toNat, by omega⟩
    have tm := tkM hV tk ht (k := k) (by omega) (hp0 k (by omega)).1 (hp0 k (by omega)).2 (F_X7_layWritten_18 w fu) (nI h) bm en le ro ah be rM rN t 0 128 (by omega) (by omega)
    have e1 : (lf (w 0).toInt (w 1).toInt (Rf (w 0).toInt (w 1).toInt) M N h j).1 - ((0 : Nat) : Int) * (Pw (w 0).toInt (w 1).toInt k).1 = (lf (w 0).toInt (w 1).toInt (Rf (w 0).toInt (w 1).toInt) M N h j).1 := by grind
    have e2 : (lf (w 0).toInt (w 1).toInt (Rf (w 0).toInt (w 1).toInt) M N h j).2 - ((0 : Nat) : Int) * (Pw (w 0).toInt (w 1).toInt k).2 = (lf (w 0).toInt (w 1).toInt (Rf (w 0).toInt (w 1).toInt) M N h j).2 := by grind
    rw [e1, e2] at tm
    have el : lf (w 0).toInt (w 1).toInt (Rf (w 0).toInt (w 1).toInt) M N h (j + 1) = ((lf (w 0).toInt (w 1).toInt (Rf (w 0).toInt (w 1).toInt) M N h j).1 - (t : Int) * (Pw (w 0).toInt (w 1).toInt k).1, (lf (w 0).toInt (w 1).toInt (Rf (w 0).toInt (w 1).toInt) M N h j).2 - (t : Int) * (Pw (w 0).toInt (w 1).toInt k).2) := by
      rw [ht, ← ek]; rfl
    have ih2 := ih (j + 1) fu (upd ah k (nI t)) (nI k + -1) (by omega) (by omega) (by
      cases k with
      | zero => rfl
      | succ k =>
        rw [pk_m1, nI_is]
        have : ((k + 1 : Nat) : Int) - 1 = (k : Int) := by omega
        rw [this]) (fun i hi => by
      rcases Nat.lt_or_ge i j with c | c
      · rw [pk_un (by omega)]; exact hfg i c
      · have : i = j := by omega
        subst this
        rw [ek, pk_us, nI_is, ht, ← ek])
    rw [el] at ih2
    rw [F_X7_layWritten_18, if_neg (nI_pos (by omega))]
    have tm' : F_X7_layWritten_26 (F_X7_layWritten_18 w fu) w 128 (lz (lf (w 0).toInt (w 1).toInt (Rf (w 0).toInt (w 1).toInt) M N h j).1) (lz (lf (w 0).toInt (w 1).toInt (Rf (w 0).toInt (w 1).toInt) M N h j).2) (nI k) (0 : Int32) (nI h) bm en le ro ah be rM rN pM pN = _ := tm
    rw [tm']
    exact ih2
theorem writM {w : Nat → Int32} {M N : Int} (hV : VB (w 0).toInt (w 1).toInt) (hM : -999999 ≤ M ∧ M ≤ 999999) (hN : -999999 ≤ N ∧ N ≤ 999999) (h0 : 0 ≤ Vv (w 0).toInt (Rf (w 0).toInt (w 1).toInt) M N) (bm en le ro : Int32) (ah0 be0 : Nat → Int32) (rM0 rN0 pM0 pN0 : Nat → Int64) :
    ∃ (ah be : Nat → Int32) (rM rN pM pN : Nat → Int64), F_X7_layWritten (lz M) (lz N) bm en le ro w ah0 be0 rM0 rN0 pM0 pN0 = some (nI (hp (w 0).toInt (w 1).toInt (Rf (w 0).toInt (w 1).toInt) M N), nI (bc (ffw (w 0).toInt (w 1).toInt (Rf (w 0).toInt (w 1).toInt) M N)), enE (ffw (w 0).toInt (w 1).toInt (Rf (w 0).toInt (w 1).toInt) M N), (scE (ffw (w 0).toInt (w 1).toInt (Rf (w 0).toInt (w 1).toInt) M N)).1, (scE (ffw (w 0).toInt (w 1).toInt (Rf (w 0).toInt (w 1).toInt) M N)).2, ah, be, rM, rN, pM, pN) ∧ (∀ i, i ≤ hp (w 0).toInt (w 1).toInt (Rf (w 0).toInt (w 1).toInt) M N → ah (hp (w 0).toInt (w 1).toInt (Rf (w 0).toInt (w 1).toInt) M N - i) = iz (dg (w 0).toInt (w 1).toInt (Rf (w 0).toInt (w 1).toInt) M N (hp (w 0).toInt (w 1).toInt (Rf (w 0).toInt (w 1).toInt) M N) i)) ∧ (∀ i, i < bc (ffw (w 0).toInt (w 1).toInt (Rf (w 0).toInt (w 1).toInt) M N) → be i = iz (fg (w 0).toInt (w 1).toInt (Rf (w 0).toInt (w 1).toInt) (lf (w 0).toInt (w 1).toInt (Rf (w 0).toInt (w 1).toInt) M N (hp (w 0).toInt (w 1).toInt (Rf (w 0).toInt (w 1).toInt) M N) (hp (w 0).toInt (w 1).toInt (Rf (w 0).toInt (w 1).toInt) M N + 1)) i)) := by
  have Bk := base_ok hV
  have r0 := rst_ok hV Bk hM hN h0
  obtain ⟨pM, pN, e1, hp1⟩ := powM hV hM hN rfl (hp (w 0).toInt (w 1).toInt (Rf (w 0).toInt (w 1).toInt) M N) 0 128 (vp_updL pM0 (0 : Int32).toNatClampNeg (1 : Int64)) (vp_updL pN0 (0 : Int32).toNatClampNeg (0 : Int64)) (-1 : Int32) (0 : Int32) (by omega) (by omega) rfl (by decide) (fun i hi => by
    have : i = 0 := by omega
    subst this
    exact ⟨pk_uLs, pk_uLs⟩)
  obtain ⟨ah, e2, hf1⟩ := wrM hV hM hN h0 rfl bm en le ro be0 rM0 rN0 hp1 (hp (w 0).toInt (w 1).toInt (Rf (w 0).toInt (w 1).toInt) M N + 1) 0 128 ah0 (nI (hp (w 0).toInt (w 1).toInt (Rf (w 0).toInt (w 1).toInt) M N)) (by omega) (by omega) (by
    rw [nI_is]
    have : ((hp (w 0).toInt (w 1).toInt (Rf (w 0).toInt (w 1).toInt) M N + 1 : Nat) : Int) - 1 = (hp (w 0).toInt (w 1).toInt (Rf (w 0).toInt (w 1).toInt) M N : Int) := by omega
    rw [this]) (fun i hi => by omega)
  obtain ⟨be, rM, rN, e3, hf3⟩ := behM hV r0.2 (by omega) (bc (ffw (w 0).toInt (w 1).toInt (Rf (w 0).toInt (w 1).toInt) M N)) 0 128 be0 (vp_updL rM0 (0 : Int32).toNatClampNeg (lz (lf (w 0).toInt (w 1).toInt (Rf (w 0).toInt (w 1).toInt) M N (hp (w 0).toInt (w 1).toInt (Rf (w 0).toInt (w 1).toInt) M N) (hp (w 0).toInt (w 1).toInt (Rf (w 0).toInt (w 1).toInt) M N + 1)).1)) (vp_updL rN0 (0 : Int32).toNatClampNeg (lz (lf (w 0).toInt (w 1).toInt (Rf (w 0).toInt (w 1).toInt) M N (hp (w 0).toInt (w 1).toInt (Rf (w 0).toInt (w 1).toInt) M N) (hp (w 0).toInt (w 1).toInt (Rf (w 0).toInt (w 1).toInt) M N + 1)).2)) (Nat.zero_add _) (by have := (bc_spec (ffw (w 0).toInt (w 1).toInt (Rf (w 0).toInt (w 1).toInt) M N)).1; omega) (fun i hi => by
    have : i = 0 := by omega
    subst this
    exact ⟨pk_uLs, pk_uLs⟩) (fun i hi => by omega)
  refine ⟨ah, be, rM, rN, pM, pN, ?_, hf1, hf3⟩
  have h1 : F_X7_layPowers (lz M) (lz N) w pM0 pN0 = some (nI (hp (w 0).toInt (w 1).toInt (Rf (w 0).toInt (w 1).toInt) M N), pM, pN) := e1
  have e2' : F_X7_layWritten_18 w 128 (lz M) (lz N) (nI (hp (w 0).toInt (w 1).toInt (Rf (w 0).toInt (w 1).toInt) M N)) (nI (hp (w 0).toInt (w 1).toInt (Rf (w 0).toInt (w 1).toInt) M N)) bm en le ro ah0 be0 rM0 rN0 pM pN = _ := e2
  have h3 : F_X7_layBehind w be0 (vp_updL rM0 (0 : Int32).toNatClampNeg (lz (lf (w 0).toInt (w 1).toInt (Rf (w 0).toInt (w 1).toInt) M N (hp (w 0).toInt (w 1).toInt (Rf (w 0).toInt (w 1).toInt) M N) (hp (w 0).toInt (w 1).toInt (Rf (w 0).toInt (w 1).toInt) M N + 1)).1)) (vp_updL rN0 (0 : Int32).toNatClampNeg (lz (lf (w 0).toInt (w 1).toInt (Rf (w 0).toInt (w 1).toInt) M N (hp (w 0).toInt (w 1).toInt (Rf (w 0).toInt (w 1).toInt) M N) (hp (w 0).toInt (w 1).toInt (Rf (w 0).toInt (w 1).toInt) M N + 1)).2)) = _ := e3
  unfold F_X7_layWritten
  rw [h1]
  show F_X7_layWritten_18 w 128 (lz M) (lz N) (nI (hp (w 0).toInt (w 1).toInt (Rf (w 0).toInt (w 1).toInt) M N)) (nI (hp (w 0).toInt (w 1).toInt (Rf (w 0).toInt (w 1).toInt) M N)) bm en le ro ah0 be0 rM0 rN0 pM pN = _
  rw [e2']
  unfold F_X7_layWritten_98
  rw [h3]
  rfl
/-- what ends never goes round -/
theorem rs_add (a b R : Int) (x : Int × Int) {i k : Nat} (h : rs a b R x i = rs a b R x k) : ∀ m : Nat, rs a b R x (i + m) = rs a b R x (k + m)
  | 0 => h
  | m + 1 => by
    show rsU a b R (rs a b R x (i + m)) = rsU a b R (rs a b R x (k + m))
    rw [rs_add a b R x h m]
theorem end_none (a b R : Int) (x : Int × Int) (he : rs a b R x (bc (rs a b R x)) = (0, 0)) : ∀ k, k ≤ bc (rs a b R x) → scn (rs a b R x) k = (-1, -1)
  | 0, _ => rfl
  | k + 1, hk => by
    have ih := end_none a b R x he k (by omega)
    unfold scn
    rw [ih, if_pos rfl]
    cases hl : lkf (rs a b R x) k k 0 with
    | none => rfl
    | some z =>
      exfalso
      have hz := lkf_lt k 0 z (by omega) hl
      have h1 := rs_add a b R x hz.2 (bc (rs a b R x) - k)
      have e1 : k + (bc (rs a b R x) - k) = bc (rs a b R x) := by omega
      rw [e1, he] at h1
      exact (bc_spec (rs a b R x)).2.1 (z + (bc (rs a b R x) - k)) (by omega) h1
theorem scE_end (a b R : Int) (x : Int × Int) (he : rs a b R x (bc (rs a b R x)) = (0, 0)) : scE (rs a b R x) = (-1, -1) := by
  unfold scE
  rw [if_pos he]
  exact end_none a b R x he _ (Nat.le_refl _)
