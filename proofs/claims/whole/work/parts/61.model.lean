theorem sgM {w : Nat → Int32} {m n : Int} (hV : VB (w 0).toInt (w 1).toInt) (hm : -268435456 ≤ m ∧ m ≤ 268435456) (hn : -268435456 ≤ n ∧ n ≤ 268435456) : F_X7_signOf (lz m) (lz n) w = sgz (Vv (w 0).toInt (Rf (w 0).toInt (w 1).toInt) m n) := sign_m hV hm hn
theorem wlM {w : Nat → Int32} {m n : Int} (hV : VB (w 0).toInt (w 1).toInt) (hm : -134217728 ≤ m ∧ m ≤ 134217728) (hn : -8388608 ≤ n ∧ n ≤ 8388608) : F_X7_wholeOf (lz m) (lz n) w = some (lz (Vv (w 0).toInt (Rf (w 0).toInt (w 1).toInt) m n / (2 * S0))) := whole_m hV hm hn
theorem z0 : (0 : Int32).toNatClampNeg = 0 := rfl
theorem z1 : (1 : Int32).toNatClampNeg = 1 := rfl
theorem up1 {h : Nat} : iz ((h : Int) - 1) + (1 : Int32) = nI h := by
  rw [show (1 : Int32) = iz 1 from rfl, iz_add, nI_is]
  congr 1; omega
theorem powM {w : Nat → Int32} {M N : Int} (hV : VB (w 0).toInt (w 1).toInt) (hM : -999999 ≤ M ∧ M ≤ 999999) (hN : -999999 ≤ N ∧ N ≤ 999999) {H : Nat} (hH : H = hp (w 0).toInt (w 1).toInt (Rf (w 0).toInt (w 1).toInt) M N) : ∀ (d h fu : Nat) (pM pN : Nat → Int64) (vh x5 : Int32), h + d = H → d + 2 ≤ fu → vh = iz ((h : Int) - 1) → ¬ x5 < 0 → (∀ i, i ≤ h → pM i = lz (Pw (w 0).toInt (w 1).toInt i).1 ∧ pN i = lz (Pw (w 0).toInt (w 1).toInt i).2) →
    ∃ pM' pN' : Nat → Int64, F_X7_layPowers_22 (lz M) (lz N) w fu x5 vh pM pN = some (nI H, pM', pN') ∧ ∀ i, i ≤ H → pM' i = lz (Pw (w 0).toInt (w 1).toInt i).1 ∧ pN' i = lz (Pw (w 0).toInt (w 1).toInt i).2 := by
  have Bk := base_ok hV
  have s := Sm_in hV Bk hM hN
  have p := hp_spec (M := M) (N := N) Bk (by unfold XB; omega)
  rw [← hH] at p
  have key : ∀ (h fu : Nat) (pM pN : Nat → Int64) (vh x5 : Int32), h ≤ H → vh = iz ((h : Int) - 1) → ¬ x5 < 0 → (∀ i, i ≤ h → pM i = lz (Pw (w 0).toInt (w 1).toInt i).1 ∧ pN i = lz (Pw (w 0).toInt (w 1).toInt i).2) → F_X7_layPowers_22 (lz M) (lz N) w (fu + 1) x5 vh pM pN = F_X7_layPowers_22 (lz M) (lz N) w fu (sgz (Vv (w 0).toInt (Rf (w 0).toInt (w 1).toInt) M N - vp (w 0).toInt (w 1).toInt (Rf (w 0).toInt (w 1).toInt) (h + 1))) (nI h) (vp_updL pM (h + 1) (lz (Pw (w 0).toInt (w 1).toInt (h + 1)).1)) (vp_updL pN (h + 1) (lz (Pw (w 0).toInt (w 1).toInt (h + 1)).2)) := by
    intro h fu pM pN vh x5 hh hvh hx hp0
    obtain ⟨q1, q2, q3, q4, q5, q6, -⟩ := pw_ok Bk h (fun i hi => p.2.2.2 i (by omega)) (by omega)
    rw [F_X7_layPowers_22, if_neg hx, if_neg (by
      rw [hvh, show (60 : Int32) = iz 60 from rfl, iz_le (by decide) (by omega)]; omega), hvh, up1, nI_i1, inr_t (by omega) (by omega), inr_t (by omega) (by omega), nI_cl (by omega), nI_cl (by omega), z0, z1, pk_uLs, pk_uLs, pk_uLn (by omega), (hp0 h (Nat.le_refl _)).1, (hp0 h (Nat.le_refl _)).2, i2l, i2l, lz_mul, lz_mul, lz_add, lz_sub, lz_sub]
    have q5' : -134217728 ≤ (Pw (w 0).toInt (w 1).toInt h).2 * (w 1).toInt ∧ (Pw (w 0).toInt (w 1).toInt h).2 * (w 1).toInt ≤ 134217728 := q5
    have q6' : -134217728 ≤ (Pw (w 0).toInt (w 1).toInt h).1 + (Pw (w 0).toInt (w 1).toInt h).2 * (w 0).toInt ∧ (Pw (w 0).toInt (w 1).toInt h).1 + (Pw (w 0).toInt (w 1).toInt h).2 * (w 0).toInt ≤ 134217728 := q6
    rw [sgM hV (by omega) (by omega), V_diff]
    rfl
  intro d
  induction d with
  | zero =>
    intro h fu pM pN vh x5 e hf hvh hx hp0
    obtain ⟨fu, rfl⟩ : ∃ z, fu = z + 1 + 1 := ⟨fu - 2, by omega⟩
    have e2 : h = H := by omega
    subst e2
    rw [key h (fu + 1) pM pN vh x5 (by omega) hvh hx hp0, F_X7_layPowers_22, if_pos (by rw [sgz_lt0]; have := p.2.1; omega)]
    refine ⟨_, _, rfl, fun i hi => ?_⟩
    rw [pk_uLn (by omega), pk_uLn (by omega)]
    exact hp0 i hi
  | succ d ih =>
    intro h fu pM pN vh x5 e hf hvh hx hp0
    obtain ⟨fu, rfl⟩ : ∃ z, fu = z + 1 := ⟨fu - 1, by omega⟩
    rw [key h fu pM pN vh x5 (by omega) hvh hx hp0]
    refine ih (h + 1) fu _ _ _ _ (by omega) (by omega) ?_ ?_ (fun i hi => ?_)
    · rw [nI_is]
      have : ((h + 1 : Nat) : Int) - 1 = (h : Int) := by omega
      rw [this]
    · rw [sgz_lt0]; have := p.2.2.1 h (by omega); omega
    · rcases Nat.lt_or_ge i (h + 1) with c | c
      · rw [pk_uLn (by omega), pk_uLn (by omega)]; exact hp0 i (by omega)
      · have : i = h + 1 := by omega
        subst this
        rw [pk_uLs, pk_uLs]; exact ⟨rfl, rfl⟩
theorem tkM {w : Nat → Int32} {M N pm pn : Int} (hV : VB (w 0).toInt (w 1).toInt) (h : TK (w 0).toInt (Rf (w 0).toInt (w 1).toInt) M N pm pn) {t : Nat} (ht : (t : Int) = Vv (w 0).toInt (Rf (w 0).toInt (w 1).toInt) M N / Vv (w 0).toInt (Rf (w 0).toInt (w 1).toInt) pm pn) {k : Nat} (hk : k < 64) {pM pN : Nat → Int64} (h1 : pM k = lz pm) (h2 : pN k = lz pn)
    (kk : Int64 → Int64 → Int32 → Int32 → Int32 → Int32 → Int32 → Int32 → (Nat → Int32) → (Nat → Int32) → (Nat → Int64) → (Nat → Int64) → (Nat → Int64) → (Nat → Int64) → Option (Int32 × Int32 × Int32 × Int32 × Int32 × (Nat → Int32) × (Nat → Int32) × (Nat → Int64) × (Nat → Int64) × (Nat → Int64) × (Nat → Int64)))
    (v1 v2 v3 v4 v5 : Int32) (v6 v7 : Nat → Int32) (v8 v9 : Nat → Int64) : ∀ (d i fu : Nat), i + d = t → d + 1 ≤ fu → F_X7_layWritten_26 kk w fu (lz (M - i * pm)) (lz (N - i * pn)) (nI k) (nI i) v1 v2 v3 v4 v5 v6 v7 v8 v9 pM pN = kk (lz (M - t * pm)) (lz (N - t * pn)) (nI k + (-1 : Int32)) v1 v2 v3 v4 v5 (upd v6 k (nI t)) v7 v8 v9 pM pN := by
  have Bk := base_ok hV
  have t1 := tk_t h
  intro d
  induction d with
  | zero =>
    intro i fu e hf
    obtain ⟨fu, rfl⟩ : ∃ z, fu = z + 1 := ⟨fu - 1, by omega⟩
    have e2 : i = t := by omega
    subst e2
    have bd := tk_bd Bk h i (by omega)
    rw [F_X7_layWritten_26, inr_t hk (by omega), nI_cl (by omega), h1, h2, lz_sub, lz_sub, sgM hV bd.1 bd.2.1, if_pos]
    · unfold F_X7_layWritten_83
      rw [inr_t hk (by omega), nI_cl (by omega)]
    · rw [sgz_lt0]
      have := tk_ge h i
      have e3 := bd.2.2
      rw [e3]; omega
  | succ d ih =>
    intro i fu e hf
    obtain ⟨fu, rfl⟩ : ∃ z, fu = z + 1 := ⟨fu - 1, by omega⟩
    have bd := tk_bd Bk h i (by omega)
    rw [F_X7_layWritten_26, inr_t hk (by omega), nI_cl (by omega), h1, h2, lz_sub, lz_sub, sgM hV bd.1 bd.2.1, if_neg]
    · have e1 : M - (i : Int) * pm - pm = M - ((i + 1 : Nat) : Int) * pm := by
        have : ((i + 1 : Nat) : Int) = (i : Int) + 1 := by omega
        rw [this]; grind
      have e2 : N - (i : Int) * pn - pn = N - ((i + 1 : Nat) : Int) * pn := by
        have : ((i + 1 : Nat) : Int) = (i : Int) + 1 := by omega
        rw [this]; grind
      rw [e1, e2, nI_i1]
      exact ih (i + 1) fu (by omega) (by omega)
    · rw [sgz_lt0]
      have := tk_ge h i
      have e3 := bd.2.2
      rw [e3]; omega
theorem wasM {f : Nat → Int × Int} (hb : Fb f) {k : Nat} (hk : k ≤ 40) {rM rN : Nat → Int64} (hr : ∀ i, i ≤ k → rM i = lz (f i).1 ∧ rN i = lz (f i).2) (l r : Int32) : ∀ (d i fu : Nat), i + d = k → d + 1 ≤ fu → F_X7_wasAhead_2 (nI k) rM rN fu (nI i) l r = some ((match lkf f k d i with | some _ => (1 : Int32) | none => 0), (lkr (lkf f k d i) k l r).1, (lkr (lkf f k d i) k l r).2) := by
  intro d
  induction d with
  | zero =>
    intro i fu e hf
    obtain ⟨fu, rfl⟩ : ∃ z, fu = z + 1 := ⟨fu - 1, by omega⟩
    have e2 : i = k := by omega
    subst e2
    rw [F_X7_wasAhead_2, if_pos (Int32.le_refl _)]
    rfl
  | succ d ih =>
    intro i fu e hf
    obtain ⟨fu, rfl⟩ : ∃ z, fu = z + 1 := ⟨fu - 1, by omega⟩
    rw [F_X7_wasAhead_2, if_neg (nI_ge (by omega) (by omega)), inr_t (by omega) (by omega), inr_t (by omega) (by omega), nI_cl (by omega), nI_cl (by omega), (hr i (by omega)).1, (hr i (by omega)).2, (hr k (by omega)).1, (hr k (by omega)).2]
    have hq := eq_pair hb (i := i) (k := k) (by omega) (by omega)
    unfold lkf
    by_cases c : f i = f k
    · obtain ⟨c1, c2⟩ := hq.mpr c
      rw [if_pos c1, if_pos c2, if_pos c]
      rfl
    · rw [if_neg c]
      have ih' := ih (i + 1) fu (by omega) (by omega)
      rw [nI_i1]
      by_cases c1 : lg_cmp (lz (f i).1) (lz (f k).1) = 0
      · rw [if_pos c1, if_neg (fun c2 => c (hq.mp ⟨c1, c2⟩))]; exact ih'
      · rw [if_neg c1]; exact ih'
theorem lkf_lt {f : Nat → Int × Int} {k : Nat} : ∀ (d i z : Nat), i + d = k → lkf f k d i = some z → z < k ∧ f z = f k
  | 0, i, z, e, h => by cases h
  | d + 1, i, z, e, h => by
    unfold lkf at h
    by_cases c : f i = f k
    · rw [if_pos c] at h
      obtain rfl := Option.some.inj h
      exact ⟨by omega, c⟩
    · rw [if_neg c] at h
      exact lkf_lt d (i + 1) z (by omega) h
def opf (f : Nat → Int × Int) (k : Nat) : Int32 := if (scn f k).2 = -1 then 1 else 0
theorem found_ne {k z : Nat} (h : z < k) (hk : k ≤ 40) : ¬ nI k - nI z = -1 := by
  rw [pk_sub (by omega), nI_is, show (-1 : Int32) = iz (-1) from rfl, iz_inj (by omega) (by decide)]
  omega
theorem stepM {w : Nat → Int32} {f : Nat → Int × Int} (hb : Fb f) {k : Nat} (hk : k ≤ 40) {rM rN : Nat → Int64} (hr : ∀ i, i ≤ k → rM i = lz (f i).1 ∧ rN i = lz (f i).2) (hnz : f k ≠ (0, 0)) (bm : Int32) (be : Nat → Int32) (fu : Nat) : F_X7_layBehind_24 w (fu + 1) (opf f k) (nI k) bm 0 (scn f k).1 (scn f k).2 be rM rN = F_X7_layBehind_84 (F_X7_layBehind_24 w fu) w (nI k) bm 0 (scn f (k + 1)).1 (scn f (k + 1)).2 be rM rN (opf f (k + 1)) := by
  have b1 := hb k (by omega)
  have ho : (if opf f k = 0 then F_X7_layBehind_84 (F_X7_layBehind_24 w fu) w (nI k) bm 0 (scn f k).1 (scn f k).2 be rM rN (0 : Int32) else ((F_X7_wasAhead (nI k) (scn f k).1 (scn f k).2 rM rN).bind fun o => (if o.1 = 0 then (F_X7_layBehind_84 (F_X7_layBehind_24 w fu) w (nI k) bm 0 o.2.1 o.2.2 be rM rN (1 : Int32)) else (F_X7_layBehind_84 (F_X7_layBehind_24 w fu) w (nI k) bm 0 o.2.1 o.2.2 be rM rN (0 : Int32))))) = F_X7_layBehind_84 (F_X7_layBehind_24 w fu) w (nI k) bm 0 (scn f (k + 1)).1 (scn f (k + 1)).2 be rM rN (opf f (k + 1)) := by
    have es : scn f (k + 1) = if (scn f k).2 = -1 then lkr (lkf f k k 0) k (scn f k).1 (scn f k).2 else scn f k := rfl
    by_cases c : (scn f k).2 = -1
    · have e1 : opf f k = 1 := if_pos c
      rw [if_pos c] at es
      rw [e1, if_neg (by decide)]
      have hw : F_X7_wasAhead (nI k) (scn f k).1 (scn f k).2 rM rN = _ := wasM hb hk hr (scn f k).1 (scn f k).2 k 0 128 (by omega) (by omega)
      cases hl : lkf f k k 0 with
      | none =>
        have es' : scn f (k + 1) = ((scn f k).1, (scn f k).2) := by rw [es, hl]; rfl
        have e2 : opf f (k + 1) = 1 := by unfold opf; rw [es']; exact if_pos c
        have hw' : F_X7_wasAhead (nI k) (scn f k).1 (scn f k).2 rM rN = some ((0 : Int32), (scn f k).1, (scn f k).2) := by rw [hw, hl]; rfl
        rw [hw', es', e2]
        exact (if_pos rfl : (if (0 : Int32) = 0 then F_X7_layBehind_84 (F_X7_layBehind_24 w fu) w (nI k) bm 0 (scn f k).1 (scn f k).2 be rM rN 1 else F_X7_layBehind_84 (F_X7_layBehind_24 w fu) w (nI k) bm 0 (scn f k).1 (scn f k).2 be rM rN 0) = F_X7_layBehind_84 (F_X7_layBehind_24 w fu) w (nI k) bm 0 (scn f k).1 (scn f k).2 be rM rN 1)
      | some z =>
        have hz := lkf_lt k 0 z (by omega) hl
        have es' : scn f (k + 1) = (nI z, nI k - nI z) := by rw [es, hl]; rfl
        have e2 : opf f (k + 1) = 0 := by unfold opf; rw [es']; exact if_neg (found_ne hz.1 hk)
        have hw' : F_X7_wasAhead (nI k) (scn f k).1 (scn f k).2 rM rN = some ((1 : Int32), nI z, nI k - nI z) := by rw [hw, hl]; rfl
        rw [hw', es', e2]
        exact (if_neg (by decide) : (if (1 : Int32) = 0 then F_X7_layBehind_84 (F_X7_layBehind_24 w fu) w (nI k) bm 0 (nI z) (nI k - nI z) be rM rN 1 else F_X7_layBehind_84 (F_X7_layBehind_24 w fu) w (nI k) bm 0 (nI z) (nI k - nI z) be rM rN 0) = F_X7_layBehind_84 (F_X7_layBehind_24 w fu) w (nI k) bm 0 (nI z) (nI k - nI z) be rM rN 0)
    · have e1 : opf f k = 0 := if_neg c
      rw [if_neg c] at es
      rw [e1, if_pos rfl]
      unfold opf
      rw [es, if_neg c]
  rw [F_X7_layBehind_24, if_neg (by rw [show (40 : Int32) = nI 40 from rfl, nI_ltI (by omega) (by omega)]; omega), if_pos rfl, inr_t (by omega) (by omega), nI_cl (by omega), (hr k (Nat.le_refl _)).1, (hr k (Nat.le_refl _)).2]
  have h1 := lgz_eq (x := (f k).1) (by omega)
  have h2 := lgz_eq (x := (f k).2) (by omega)
  by_cases c1 : (f k).1 = 0
  · rw [if_pos (h1.mpr c1), if_neg (fun q => hnz (Prod.ext c1 (h2.mp q)))]
    exact ho
  · rw [if_neg (fun q => c1 (h1.mp q))]
    exact ho
theorem behM {w : Nat → Int32} (hV : VB (w 0).toInt (w 1).toInt) {x : Int × Int} {K : Int} (hx : RsI (w 0).toInt (Rf (w 0).toInt (w 1).toInt) x K) (hK : 0 ≤ K ∧ K ≤ 2090000) : ∀ (d k fu : Nat) (be : Nat → Int32) (rM rN : Nat → Int64), k + d = bc (rs (w 0).toInt (w 1).toInt (Rf (w 0).toInt (w 1).toInt) x) → d + 3 ≤ fu → (∀ i, i ≤ k → rM i = lz (rs (w 0).toInt (w 1).toInt (Rf (w 0).toInt (w 1).toInt) x i).1 ∧ rN i = lz (rs (w 0).toInt (w 1).toInt (Rf (w 0).toInt (w 1).toInt) x i).2) → (∀ i, i < k → be i = iz (fg (w 0).toInt (w 1).toInt (Rf (w 0).toInt (w 1).toInt) x i)) →
    ∃ (be' : Nat → Int32) (rM' rN' : Nat → Int64), F_X7_layBehind_24 w fu (opf (rs (w 0).toInt (w 1).toInt (Rf (w 0).toInt (w 1).toInt) x) k) (nI k) (nI k) 0 (scn (rs (w 0).toInt (w 1).toInt (Rf (w 0).toInt (w 1).toInt) x) k).1 (scn (rs (w 0).toInt (w 1).toInt (Rf (w 0).toInt (w 1).toInt) x) k).2 be rM rN = some (nI (bc (rs (w 0).toInt (w 1).toInt (Rf (w 0).toInt (w 1).toInt) x)), enE (rs (w 0).toInt (w 1).toInt (Rf (w 0).toInt (w 1).toInt) x), (scE (rs (w 0).toInt (w 1).toInt (Rf (w 0).toInt (w 1).toInt) x)).1, (scE (rs (w 0).toInt (w 1).toInt (Rf (w 0).toInt (w 1).toInt) x)).2, be', rM', rN') ∧ (∀ i, i < bc (rs (w 0).toInt (w 1).toInt (Rf (w 0).toInt (w 1).toInt) x) → be' i = iz (fg (w 0).toInt (w 1).toInt (Rf (w 0).toInt (w 1).toInt) x i)) := by
  have Bk := base_ok hV
  have hri : ∀ j, j ≤ 50 → RsI (w 0).toInt (Rf (w 0).toInt (w 1).toInt) (rs (w 0).toInt (w 1).toInt (Rf (w 0).toInt (w 1).toInt) x j) (K + 10 * (j : Int)) := rs_ok hV Bk hx (by omega)
  have hb : Fb (rs (w 0).toInt (w 1).toInt (Rf (w 0).toInt (w 1).toInt) x) := fun i hi => RsI_bd Bk (hri i (by omega)) (by omega)
  have bs := bc_spec (rs (w 0).toInt (w 1).toInt (Rf (w 0).toInt (w 1).toInt) x)
  intro d
  induction d with
  | zero =>
    intro k fu be rM rN e hf hr hfg
    obtain ⟨fu, rfl⟩ : ∃ z, fu = z + 1 + 1 + 1 := ⟨fu - 3, by omega⟩
    have e2 : k = bc (rs (w 0).toInt (w 1).toInt (Rf (w 0).toInt (w 1).toInt) x) := by omega
    rw [e2] at hr hfg ⊢
    refine ⟨be, rM, rN, ?_, fun i hi => hfg i hi⟩
    have b1 := hb (bc (rs (w 0).toInt (w 1).toInt (Rf (w 0).toInt (w 1).toInt) x)) (by omega)
    by_cases c : rs (w 0).toInt (w 1).toInt (Rf (w 0).toInt (w 1).toInt) x (bc (rs (w 0).toInt (w 1).toInt (Rf (w 0).toInt (w 1).toInt) x)) = (0, 0)
    · have c1 : (rs (w 0).toInt (w 1).toInt (Rf (w 0).toInt (w 1).toInt) x (bc (rs (w 0).toInt (w 1).toInt (Rf (w 0).toInt (w 1).toInt) x))).1 = 0 := by rw [c]
      have c2 : (rs (w 0).toInt (w 1).toInt (Rf (w 0).toInt (w 1).toInt) x (bc (rs (w 0).toInt (w 1).toInt (Rf (w 0).toInt (w 1).toInt) x))).2 = 0 := by rw [c]
      rw [F_X7_layBehind_24, if_neg (by rw [show (40 : Int32) = nI 40 from rfl, nI_ltI (by omega) (by omega)]; omega), if_pos rfl, inr_t (by omega) (by omega), nI_cl (by omega), (hr _ (Nat.le_refl _)).1, (hr _ (Nat.le_refl _)).2, if_pos ((lgz_eq (by omega)).mpr c1), if_pos ((lgz_eq (by omega)).mpr c2)]
      unfold enE scE
      rw [if_pos c, if_pos c, F_X7_layBehind_24]
      by_cases c3 : (40 : Int32) < nI (bc (rs (w 0).toInt (w 1).toInt (Rf (w 0).toInt (w 1).toInt) x)) + 1
      · rw [if_pos c3]
      · rw [if_neg c3, if_neg (by decide)]
    · have e40 : bc (rs (w 0).toInt (w 1).toInt (Rf (w 0).toInt (w 1).toInt) x) = 40 := by
        rcases Nat.lt_or_ge (bc (rs (w 0).toInt (w 1).toInt (Rf (w 0).toInt (w 1).toInt) x)) 40 with z | z
        · exact absurd (bs.2.2 z) c
        · omega
      rw [stepM hb (by omega) hr c]
      unfold F_X7_layBehind_84
      unfold enE scE
      rw [if_neg c, if_neg c, e40, if_pos (by decide), F_X7_layBehind_24, if_pos (by decide)]
  | succ d ih =>
    intro k fu be rM rN e hf hr hfg
    obtain ⟨fu, rfl⟩ : ∃ z, fu = z + 1 := ⟨fu - 1, by omega⟩
    have tk := TK_up hV Bk (hri k (by omega)) (by omega)
    have bd := hb k (by omega)
    have hS : (0 : Int) < S0 := by decide
    have tc := tk.2.2.2.2.1
    have sm := Sm_bd Bk (M := (rs (w 0).toInt (w 1).toInt (Rf (w 0).toInt (w 1).toInt) x k).2 * (w 1).toInt) (N := (rs (w 0).toInt (w 1).toInt (Rf (w 0).toInt (w 1).toInt) x k).1 + (rs (w 0).toInt (w 1).toInt (Rf (w 0).toInt (w 1).toInt) x k).2 * (w 0).toInt) ⟨tk.2.1, tk.2.2.2.1, by omega, by omega⟩
    rw [stepM hb (by omega) hr (bs.2.1 k (by omega))]
    unfold F_X7_layBehind_84
    rw [if_neg (by rw [show (40 : Int32) = nI 40 from rfl, nI_leI (by omega) (by omega)]; omega), inr_t (by omega) (by omega), nI_cl (by omega), (hr k (Nat.le_refl _)).1, (hr k (Nat.le_refl _)).2, z0, z1, i2l, i2l, lz_mul, lz_mul, lz_add, wlM hV (by omega) sm.1]
    show ∃ be' rM' rN', ck (nI k) 40 _ = _ ∧ _
    rw [inr_t (by omega) (by omega), nI_i1, inr_t (by omega) (by omega), nI_cl (by omega), lz_sub, l2i]
    refine ih (k + 1) fu _ _ _ (by omega) (by omega) (fun i hi => ?_) (fun i hi => ?_)
    · rcases Nat.lt_or_ge i (k + 1) with z | z
      · rw [pk_uLn (by omega), pk_uLn (by omega)]; exact hr i (by omega)
      · have : i = k + 1 := by omega
        subst this
        rw [pk_uLs, pk_uLs]; exact ⟨rfl, rfl⟩
    · rcases Nat.lt_or_ge i k with z | z
      · rw [pk_un (by omega)]; exact hfg i z
      · have : i = k := by omega
        subst this
        rw [pk_us]
