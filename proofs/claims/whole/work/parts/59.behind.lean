theorem TK_lf {a b R k M N : Int} (hV : VB a b) (B : BF a b R k) (hM : -999999 ≤ M ∧ M ≤ 999999) (hN : -999999 ≤ N ∧ N ≤ 999999) (h0 : 0 ≤ Vv a R M N) {h : Nat} (hh : h = hp a b R M N) (j : Nat) (hj : j ≤ h) : TK a R (lf a b R M N h j).1 (lf a b R M N h j).2 (Pw a b (h - j)).1 (Pw a b (h - j)).2 := by
  obtain ⟨⟨i1, i2⟩, ⟨i3, i4⟩, i5⟩ := lf_ok hV B hM hN h0 hh j (by omega)
  have s := Sm_in hV B hM hN
  have hXB : XB = 12000000 * (2 * S0) := rfl
  have p := hp_spec (M := M) (N := N) B (by omega)
  rw [← hh] at p
  have hS : (0 : Int) < S0 := by decide
  obtain ⟨q1, q2, q3, q4, q5, q6, q7⟩ := pw_ok B (h - j) (fun i hi => p.2.2.2 i (by omega)) (by omega)
  have e1 : h + 1 - j = h - j + 1 := by omega
  rw [e1] at i2
  have hjj : (2000000 + 9 * (j : Int)) * (2 * S0) ≤ 2099000 * (2 * S0) := Int.mul_le_mul_of_nonneg_right (by omega) (by omega)
  have hle : Vl a b R M N h j ≤ XB := by
    rcases Nat.eq_zero_or_pos j with z | z
    · subst z
      have : Vl a b R M N h 0 = Vv a R M N := rfl
      omega
    · have := i5 z; omega
  have c0 : (-(2 * S0) ≤ Vc a R (Pw a b (h - j)).1 (Pw a b (h - j)).2 ∧ Vc a R (Pw a b (h - j)).1 (Pw a b (h - j)).2 ≤ 2 * S0) ∧ (-134217728 ≤ (Pw a b (h - j)).1 ∧ (Pw a b (h - j)).1 ≤ 134217728) ∧ (-134217728 ≤ (Pw a b (h - j)).2 ∧ (Pw a b (h - j)).2 ≤ 134217728) := by
    cases hz : h - j with
    | zero =>
      have : Vc a R (Pw a b 0).1 (Pw a b 0).2 = 2 * S0 := by unfold Pw; grind
      refine ⟨by omega, ?_, ?_⟩ <;> (unfold Pw; decide)
    | succ z =>
      obtain ⟨-, -, -, -, z5, z6, z7⟩ := pw_ok B z (fun i hi => p.2.2.2 i (by omega)) (by omega)
      exact ⟨z7, z5, z6⟩
  have i2' : Vl a b R M N h j < 10 * vp a b R (h - j) := by omega
  exact ⟨q2, i1, i2', hle, ⟨by omega, by omega⟩, c0.1, c0.2.1, c0.2.2⟩
theorem aheadC {A B : Int32} {M N : Int} (hV : VB A.toInt B.toInt) (hM : -999999 ≤ M ∧ M ≤ 999999) (hN : -999999 ≤ N ∧ N ≤ 999999) (h0 : 0 ≤ Vv A.toInt (Rf A.toInt B.toInt) M N) {h : Nat} (hh : h = hp A.toInt B.toInt (Rf A.toInt B.toInt) M N) : ∀ (k j fu : Nat) (figs : Nat → Int32) (pM pN : Nat → Int64) (x2 : Int32), j + k = h + 1 → k + 1 ≤ fu → x2 = iz ((k : Int) - 1) → (∀ i, i ≤ h → pM i = lz (Pw A.toInt B.toInt i).1 ∧ pN i = lz (Pw A.toInt B.toInt i).2) → (∀ i, i < j → figs i = iz (dg A.toInt B.toInt (Rf A.toInt B.toInt) M N h i)) →
    ∃ figs' : Nat → Int32, F_X5_spellAhead_7 pM pN A B fu x2 (nI j) (lz (lf A.toInt B.toInt (Rf A.toInt B.toInt) M N h j).1) (lz (lf A.toInt B.toInt (Rf A.toInt B.toInt) M N h j).2) figs = some (nI (h + 1), lz (lf A.toInt B.toInt (Rf A.toInt B.toInt) M N h (h + 1)).1, lz (lf A.toInt B.toInt (Rf A.toInt B.toInt) M N h (h + 1)).2, figs') ∧ ∀ i, i ≤ h → figs' i = iz (dg A.toInt B.toInt (Rf A.toInt B.toInt) M N h i) := by
  have Bk := base_ok hV
  have s := Sm_in hV Bk hM hN
  have hXB : XB = 12000000 * (2 * S0) := rfl
  have hS : (0 : Int) < S0 := by decide
  have p := hp_spec (M := M) (N := N) Bk (by omega)
  rw [← hh] at p
  intro k
  induction k with
  | zero =>
    intro j fu figs pM pN x2 e hf hx hp0 hfg
    obtain ⟨fu, rfl⟩ : ∃ z, fu = z + 1 := ⟨fu - 1, by omega⟩
    have e2 : j = h + 1 := by omega
    subst e2
    have hx' : x2 = -1 := by rw [hx]; rfl
    subst hx'
    rw [F_X5_spellAhead_7, if_pos (by decide)]
    exact ⟨figs, rfl, fun i hi => hfg i (by omega)⟩
  | succ k ih =>
    intro j fu figs pM pN x2 e hf hx hp0 hfg
    obtain ⟨fu, rfl⟩ : ∃ z, fu = z + 1 := ⟨fu - 1, by omega⟩
    have hx' : x2 = nI k := by
      rw [hx, nI_is]
      have : ((k + 1 : Nat) : Int) - 1 = (k : Int) := by omega
      rw [this]
    subst hx'
    have ek : h - j = k := by omega
    have tk := TK_lf hV Bk hM hN h0 hh j (by omega)
    rw [ek] at tk
    rw [F_X5_spellAhead_7, if_neg (nI_pos (by omega)), inr_t (by omega) (by omega), nI_cl (by omega), (hp0 k (by omega)).1, (hp0 k (by omega)).2, takeOutC hV tk]
    show ∃ figs', ck (nI j) 101 _ = _ ∧ _
    rw [inr_t (by omega) (by omega), nI_i1, nI_cl (by omega)]
    have el : lf A.toInt B.toInt (Rf A.toInt B.toInt) M N h (j + 1) = ((lf A.toInt B.toInt (Rf A.toInt B.toInt) M N h j).1 - Vv A.toInt (Rf A.toInt B.toInt) (lf A.toInt B.toInt (Rf A.toInt B.toInt) M N h j).1 (lf A.toInt B.toInt (Rf A.toInt B.toInt) M N h j).2 / Vv A.toInt (Rf A.toInt B.toInt) (Pw A.toInt B.toInt k).1 (Pw A.toInt B.toInt k).2 * (Pw A.toInt B.toInt k).1, (lf A.toInt B.toInt (Rf A.toInt B.toInt) M N h j).2 - Vv A.toInt (Rf A.toInt B.toInt) (lf A.toInt B.toInt (Rf A.toInt B.toInt) M N h j).1 (lf A.toInt B.toInt (Rf A.toInt B.toInt) M N h j).2 / Vv A.toInt (Rf A.toInt B.toInt) (Pw A.toInt B.toInt k).1 (Pw A.toInt B.toInt k).2 * (Pw A.toInt B.toInt k).2) := by
      rw [← ek]; rfl
    have ih2 := ih (j + 1) fu (upd figs j (iz (Vv A.toInt (Rf A.toInt B.toInt) (lf A.toInt B.toInt (Rf A.toInt B.toInt) M N h j).1 (lf A.toInt B.toInt (Rf A.toInt B.toInt) M N h j).2 / Vv A.toInt (Rf A.toInt B.toInt) (Pw A.toInt B.toInt k).1 (Pw A.toInt B.toInt k).2))) pM pN (nI k + -1) (by omega) (by omega) (by
      cases k with
      | zero => rfl
      | succ k =>
        rw [pk_m1, nI_is]
        have : ((k + 1 : Nat) : Int) - 1 = (k : Int) := by omega
        rw [this]) hp0 (fun i hi => by
      rcases Nat.lt_or_ge i j with c | c
      · rw [pk_un (by omega)]; exact hfg i c
      · have : i = j := by omega
        subst this
        rw [pk_us]
        show _ = iz (Vl _ _ _ _ _ _ _ / vp _ _ _ (h - i))
        rw [ek])
    rw [el] at ih2
    exact ih2
/-! the rests: where one comes again -/
def lkf (f : Nat → Int × Int) (k : Nat) : Nat → Nat → Option Nat
  | 0, _ => none
  | d + 1, i => if f i = f k then some i else lkf f k d (i + 1)
def lkr (o : Option Nat) (k : Nat) (l r : Int32) : Int32 × Int32 := match o with
  | some z => (nI z, nI k - nI z)
  | none => (l, r)
def scn (f : Nat → Int × Int) : Nat → Int32 × Int32
  | 0 => (-1, -1)
  | k + 1 => if (scn f k).2 = -1 then lkr (lkf f k k 0) k (scn f k).1 (scn f k).2 else scn f k
abbrev Fb (f : Nat → Int × Int) : Prop := ∀ i, i ≤ 41 → (-8388608 ≤ (f i).2 ∧ (f i).2 ≤ 8388608) ∧ -100000000 ≤ (f i).1 ∧ (f i).1 ≤ 100000000
theorem eq_pair {f : Nat → Int × Int} (hb : Fb f) {i k : Nat} (hi : i ≤ 41) (hk : k ≤ 41) : (lg_cmp (lz (f i).1) (lz (f k).1) = 0 ∧ lg_cmp (lz (f i).2) (lz (f k).2) = 0) ↔ f i = f k := by
  have b1 := hb i hi
  have b2 := hb k hk
  rw [lg_eq0 (by omega) (by omega), lg_eq0 (by omega) (by omega)]
  exact ⟨fun h => Prod.ext h.1 h.2, fun h => by rw [h]; exact ⟨rfl, rfl⟩⟩
theorem lkC {f : Nat → Int × Int} (hb : Fb f) {k : Nat} (hk : k ≤ 40) {rM rN : Nat → Int64} (hr : ∀ i, i < k → rM i = lz (f i).1 ∧ rN i = lz (f i).2) (l r : Int32) : ∀ (d i fu : Nat), i + d = k → d + 1 ≤ fu → F_X5_lookForRound_11 (nI k) (lz (f k).1) (lz (f k).2) rM rN fu (nI i) l r = some (lkr (lkf f k d i) k l r) := by
  intro d
  induction d with
  | zero =>
    intro i fu e hf
    obtain ⟨fu, rfl⟩ : ∃ z, fu = z + 1 := ⟨fu - 1, by omega⟩
    have e2 : i = k := by omega
    subst e2
    rw [F_X5_lookForRound_11, if_pos (Int32.le_refl _)]
    rfl
  | succ d ih =>
    intro i fu e hf
    obtain ⟨fu, rfl⟩ : ∃ z, fu = z + 1 := ⟨fu - 1, by omega⟩
    rw [F_X5_lookForRound_11, if_neg (nI_ge (by omega) (by omega)), inr_t (by omega) (by omega), nI_cl (by omega), (hr i (by omega)).1, (hr i (by omega)).2]
    have hq := eq_pair hb (i := i) (k := k) (by omega) (by omega)
    unfold lkf
    by_cases c : f i = f k
    · obtain ⟨c1, c2⟩ := hq.mpr c
      rw [if_pos c1, if_pos c2, if_pos c]
      rfl
    · rw [if_neg c]
      have ih' := ih (i + 1) fu (by omega) (by omega)
      rw [nI_i1]
      by_cases c1 : lg_cmp (lz (f i).1) (lz (f k).1) = 0
      · rw [if_pos c1, if_neg (fun c2 => c (hq.mp ⟨c1, c2⟩))]; exact ih'
      · rw [if_neg c1]; exact ih'
theorem lookC {f : Nat → Int × Int} (hb : Fb f) {k : Nat} (hk : k ≤ 40) {rM rN : Nat → Int64} (hr : ∀ i, i < k → rM i = lz (f i).1 ∧ rN i = lz (f i).2) : F_X5_lookForRound (nI k) (scn f k).1 (scn f k).2 (lz (f k).1) (lz (f k).2) rM rN = some (scn f (k + 1)) := by
  unfold F_X5_lookForRound
  conv => rhs; unfold scn
  by_cases c : (scn f k).2 = -1
  · rw [if_pos c, if_pos c]
    exact lkC hb hk hr _ _ k 0 128 (by omega) (by omega)
  · rw [if_neg c, if_neg c]
theorem leftC {x : Int × Int} (hb : (-8388608 ≤ x.2 ∧ x.2 ≤ 8388608) ∧ -100000000 ≤ x.1 ∧ x.1 ≤ 100000000) : F_X5_isAnythingLeft (lz x.1) (lz x.2) = 0 ↔ x = (0, 0) := by
  unfold F_X5_isAnythingLeft
  have h1 := lgz_eq (x := x.1) (by omega)
  have h2 := lgz_eq (x := x.2) (by omega)
  by_cases c1 : x.1 = 0
  · rw [if_pos (h1.mpr c1)]
    by_cases c2 : x.2 = 0
    · rw [if_pos (h2.mpr c2)]; exact ⟨fun _ => Prod.ext c1 c2, fun _ => rfl⟩
    · rw [if_neg (fun q => c2 (h2.mp q))]; exact ⟨fun q => absurd q (by decide), fun q => absurd (by rw [q]) c2⟩
  · rw [if_neg (fun q => c1 (h1.mp q))]; exact ⟨fun q => absurd q (by decide), fun q => absurd (by rw [q]) c1⟩
def bcs (f : Nat → Int × Int) : Nat → Nat → Nat
  | 0, j => j
  | d + 1, j => if f j = (0, 0) then j else bcs f d (j + 1)
theorem bcs_spec (f : Nat → Int × Int) : ∀ (d j : Nat), j ≤ bcs f d j ∧ bcs f d j ≤ j + d ∧ (∀ i, j ≤ i → i < bcs f d j → f i ≠ (0, 0)) ∧ (bcs f d j < j + d → f (bcs f d j) = (0, 0))
  | 0, j => ⟨Nat.le_refl _, Nat.le_refl _, fun i h1 h2 => absurd (Nat.lt_of_le_of_lt h1 h2) (Nat.lt_irrefl _), fun h => absurd h (Nat.lt_irrefl _)⟩
  | d + 1, j => by
    unfold bcs
    by_cases c : f j = (0, 0)
    · rw [if_pos c]
      exact ⟨Nat.le_refl _, by omega, fun i h1 h2 => by omega, fun _ => c⟩
    · rw [if_neg c]
      obtain ⟨h1, h2, h3, h4⟩ := bcs_spec f d (j + 1)
      refine ⟨by omega, by omega, fun i a1 a2 => ?_, fun q => h4 (by omega)⟩
      rcases Nat.lt_or_ge j i with z | z
      · exact h3 i z a2
      · have : i = j := by omega
        subst this; exact c
def bc (f : Nat → Int × Int) : Nat := bcs f 40 0
/-- what was found by the end -/
def scE (f : Nat → Int × Int) : Int32 × Int32 := if f (bc f) = (0, 0) then scn f (bc f) else scn f 41
def enE (f : Nat → Int × Int) : Int32 := if f (bc f) = (0, 0) then 1 else 0
theorem bc_spec (f : Nat → Int × Int) : bc f ≤ 40 ∧ (∀ i, i < bc f → f i ≠ (0, 0)) ∧ (bc f < 40 → f (bc f) = (0, 0)) := by
  obtain ⟨-, h2, h3, h4⟩ := bcs_spec f 40 0
  exact ⟨by unfold bc; omega, fun i hi => h3 i (Nat.zero_le _) hi, fun h => h4 (by unfold bc at h; omega)⟩
theorem endC {f : Nat → Int × Int} (hb : Fb f) {figs : Nat → Int32} {rM rN : Nat → Int64} (E : Int32) (hr : ∀ i, i < bc f → rM i = lz (f i).1 ∧ rN i = lz (f i).2) : F_X5_spellBehind_120 (nI (bc f)) E (scn f (bc f)).1 (scn f (bc f)).2 (lz (f (bc f)).1) (lz (f (bc f)).2) figs rM rN = some (nI (bc f), enE f, (scE f).1, (scE f).2, lz (f (bc f)).1, lz (f (bc f)).2, figs, rM, rN) := by
  have bs := bc_spec f
  unfold F_X5_spellBehind_120 enE scE
  have hl := leftC (hb (bc f) (by omega))
  by_cases c : f (bc f) = (0, 0)
  · rw [if_pos (hl.mpr c), if_neg (by decide), if_pos c, if_pos c]
  · rw [if_neg (fun q => c (hl.mp q)), if_pos rfl, if_neg c, if_neg c]
    have e : bc f = 40 := by
      rcases Nat.lt_or_ge (bc f) 40 with z | z
      · exact absurd (bs.2.2 z) c
      · omega
    rw [e] at hr ⊢
    rw [show (40 : Int32) = nI 40 from rfl, lookC hb (by omega) hr]
    rfl
theorem V10 (a R : Int) : Vv a R 1 0 = 2 * S0 := by grind
theorem TK_up {a b R k K : Int} {x : Int × Int} (hV : VB a b) (B : BF a b R k) (h : RsI a R x K) (hK : 0 ≤ K ∧ K ≤ 2098000) : TK a R (x.2 * b) (x.1 + x.2 * a) 1 0 := by
  have hS : (0 : Int) < S0 := by decide
  have hXB : XB = 12000000 * (2 * S0) := rfl
  obtain ⟨-, u1⟩ := rsU_ok hV B h (by omega)
  have bd := RsI_bd B h (by omega)
  have u2 := upc_ok B (m := x.1) (n := x.2) bd.1 hK.1 ⟨h.2.2.1, h.2.2.2⟩
  have e1 : Vc a R 1 0 = 2 * S0 := by grind
  have hk : (K + 1) * (2 * S0) ≤ 2099000 * (2 * S0) := Int.mul_le_mul_of_nonneg_right (by omega) (by omega)
  have e0 := V10 a R
  exact ⟨by omega, u1.1, by omega, by omega, ⟨by omega, by omega⟩, ⟨by omega, by omega⟩, by decide, by decide⟩
theorem behindC {A B : Int32} (hV : VB A.toInt B.toInt) {x : Int × Int} {K : Int} (hx : RsI A.toInt (Rf A.toInt B.toInt) x K) (hK : 0 ≤ K ∧ K ≤ 2090000) {h : Nat} (hh : h < 40) (E : Int32) : ∀ (d j fu : Nat) (figs : Nat → Int32) (rM rN : Nat → Int64), j + d = bc (rs A.toInt B.toInt (Rf A.toInt B.toInt) x) → d + 1 ≤ fu → (∀ i, i < j → rM i = lz (rs A.toInt B.toInt (Rf A.toInt B.toInt) x i).1 ∧ rN i = lz (rs A.toInt B.toInt (Rf A.toInt B.toInt) x i).2) → (∀ i, i < j → figs (h + 1 + i) = iz (fg A.toInt B.toInt (Rf A.toInt B.toInt) x i)) →
    ∃ (figs' : Nat → Int32) (rM' rN' : Nat → Int64), F_X5_spellBehind_17 (nI (h + 1)) A B fu (nI j) (nI j) E (scn (rs A.toInt B.toInt (Rf A.toInt B.toInt) x) j).1 (scn (rs A.toInt B.toInt (Rf A.toInt B.toInt) x) j).2 (lz (rs A.toInt B.toInt (Rf A.toInt B.toInt) x j).1) (lz (rs A.toInt B.toInt (Rf A.toInt B.toInt) x j).2) figs rM rN = some (nI (bc (rs A.toInt B.toInt (Rf A.toInt B.toInt) x)), enE (rs A.toInt B.toInt (Rf A.toInt B.toInt) x), (scE (rs A.toInt B.toInt (Rf A.toInt B.toInt) x)).1, (scE (rs A.toInt B.toInt (Rf A.toInt B.toInt) x)).2, lz (rs A.toInt B.toInt (Rf A.toInt B.toInt) x (bc (rs A.toInt B.toInt (Rf A.toInt B.toInt) x))).1, lz (rs A.toInt B.toInt (Rf A.toInt B.toInt) x (bc (rs A.toInt B.toInt (Rf A.toInt B.toInt) x))).2, figs', rM', rN') ∧ (∀ i, i ≤ h → figs' i = figs i) ∧ (∀ i, i < bc (rs A.toInt B.toInt (Rf A.toInt B.toInt) x) → figs' (h + 1 + i) = iz (fg A.toInt B.toInt (Rf A.toInt B.toInt) x i)) := by
  have Bk := base_ok hV
  have hri : ∀ j, j ≤ 50 → RsI A.toInt (Rf A.toInt B.toInt) (rs A.toInt B.toInt (Rf A.toInt B.toInt) x j) (K + 10 * (j : Int)) := rs_ok hV Bk hx (by omega)
  have hb : Fb (rs A.toInt B.toInt (Rf A.toInt B.toInt) x) := fun i hi => RsI_bd Bk (hri i (by omega)) (by omega)
  have bs := bc_spec (rs A.toInt B.toInt (Rf A.toInt B.toInt) x)
  intro d
  induction d with
  | zero =>
    intro j fu figs rM rN e hf hr hfg
    obtain ⟨fu, rfl⟩ : ∃ z, fu = z + 1 := ⟨fu - 1, by omega⟩
    have e2 : j = bc (rs A.toInt B.toInt (Rf A.toInt B.toInt) x) := by omega
    rw [e2] at hr hfg ⊢
    refine ⟨figs, rM, rN, ?_, fun i hi => rfl, fun i hi => hfg i hi⟩
    rw [F_X5_spellBehind_17]
    by_cases c : (40 : Int32) ≤ nI (bc (rs A.toInt B.toInt (Rf A.toInt B.toInt) x))
    · rw [if_pos c]; exact endC hb E hr
    · rw [if_neg c]
      have : bc (rs A.toInt B.toInt (Rf A.toInt B.toInt) x) < 40 := by
        rcases Nat.lt_or_ge (bc (rs A.toInt B.toInt (Rf A.toInt B.toInt) x)) 40 with z | z
        · exact z
        · exact absurd (by rw [show (40 : Int32) = nI 40 from rfl]; exact nI_le z (by omega)) c
      rw [if_pos ((leftC (hb _ (by omega))).mpr (bs.2.2 this))]
      exact endC hb E hr
  | succ d ih =>
    intro j fu figs rM rN e hf hr hfg
    obtain ⟨fu, rfl⟩ : ∃ z, fu = z + 1 := ⟨fu - 1, by omega⟩
    have tk := TK_up hV Bk (hri j (by omega)) (by omega)
    have ht := takeOutC hV tk
    rw [F_X5_spellBehind_17, if_neg (by rw [show (40 : Int32) = nI 40 from rfl, nI_leI (by omega) (by omega)]; omega), if_neg (fun q => bs.2.1 j (by omega) ((leftC (hb j (by omega))).mp q)), lookC hb (by omega) hr]
    show ∃ figs' rM' rN', ck (nI j) 40 _ = _ ∧ _
    rw [inr_t (by omega) (by omega), nI_cl (by omega), pk_uLs, pk_uLs, rzM, rzN, l1, l0, ht]
    show ∃ figs' rM' rN', ck (nI (h + 1) + nI j) 101 _ = _ ∧ _
    rw [nI_add, inr_t (by omega) (by omega), nI_cl (by omega), nI_i1, V10]
    have er : lz ((rs A.toInt B.toInt (Rf A.toInt B.toInt) x j).2 * B.toInt - Vv A.toInt (Rf A.toInt B.toInt) ((rs A.toInt B.toInt (Rf A.toInt B.toInt) x j).2 * B.toInt) ((rs A.toInt B.toInt (Rf A.toInt B.toInt) x j).1 + (rs A.toInt B.toInt (Rf A.toInt B.toInt) x j).2 * A.toInt) / (2 * S0) * 1) = lz (rs A.toInt B.toInt (Rf A.toInt B.toInt) x (j + 1)).1 := by
      rw [Int.mul_one]; rfl
    have er2 : lz ((rs A.toInt B.toInt (Rf A.toInt B.toInt) x j).1 + (rs A.toInt B.toInt (Rf A.toInt B.toInt) x j).2 * A.toInt - Vv A.toInt (Rf A.toInt B.toInt) ((rs A.toInt B.toInt (Rf A.toInt B.toInt) x j).2 * B.toInt) ((rs A.toInt B.toInt (Rf A.toInt B.toInt) x j).1 + (rs A.toInt B.toInt (Rf A.toInt B.toInt) x j).2 * A.toInt) / (2 * S0) * 0) = lz (rs A.toInt B.toInt (Rf A.toInt B.toInt) x (j + 1)).2 := by
      rw [Int.mul_zero, Int.sub_zero]; rfl
    rw [er, er2]
    obtain ⟨figs', rM', rN', r1, r2, r3⟩ := ih (j + 1) fu (upd figs (h + 1 + j) (iz (fg A.toInt B.toInt (Rf A.toInt B.toInt) x j))) (vp_updL rM j (lz (rs A.toInt B.toInt (Rf A.toInt B.toInt) x j).1)) (vp_updL rN j (lz (rs A.toInt B.toInt (Rf A.toInt B.toInt) x j).2)) (by omega) (by omega) (fun i hi => by
      rcases Nat.lt_or_ge i j with z | z
      · rw [pk_uLn (by omega), pk_uLn (by omega)]; exact hr i z
      · have : i = j := by omega
        subst this
        rw [pk_uLs, pk_uLs]; exact ⟨rfl, rfl⟩) (fun i hi => by
      rcases Nat.lt_or_ge i j with z | z
      · rw [pk_un (by omega)]; exact hfg i z
      · have : i = j := by omega
        subst this
        rw [pk_us])
    refine ⟨figs', rM', rN', r1, fun i hi => ?_, r3⟩
    rw [r2 i hi, pk_un (by omega)]
