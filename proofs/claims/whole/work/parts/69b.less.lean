abbrev oneF (A B : Int32) : Nat → Int32 := fun k => F_X0_figureOfOne (nI k) A B
theorem one_pos {A B : Int32} (hV : VB A.toInt B.toInt) (k : Nat) (hk : k < 1000) : 0 ≤ oneF A B k ∧ (¬ oneF A B k = 0 ∨ ¬ oneF A B (k + 1) = 0) := by
  obtain ⟨a, ha, rfl⟩ := iz_of A
  obtain ⟨b, hb, rfl⟩ := iz_of B
  rw [iz_to ha.1 ha.2, iz_to hb.1 hb.2] at hV
  have hV1 := hV.1
  have hV2 := hV.2.1
  have c1 : (iz b ≤ (0 : Int32)) ↔ b ≤ 0 := by rw [show (0 : Int32) = iz 0 from rfl]; exact iz_le hb (by decide)
  have e : ∀ j : Nat, j < 2000 → oneF (iz a) (iz b) j = iz (if b ≤ 0 then (if j = 0 then a - 1 else a + b - 1) else (if j % 2 = 0 then a else b - 1)) := by
    intro j hj
    show F_X0_figureOfOne (nI j) (iz a) (iz b) = _
    unfold F_X0_figureOfOne
    have c2 : (nI j = 0) ↔ j = 0 := by rw [← nI_0, nI_eq (by omega) (by omega)]
    have c3 : nI j - nI j / (2 : Int32) * (2 : Int32) = nI (j % 2) := by rw [show (2 : Int32) = nI 2 from rfl, pk_rem (by omega) (by omega) (by omega)]
    have c4 : (nI (j % 2) = 0) ↔ j % 2 = 0 := by rw [← nI_0, nI_eq (by omega) (by omega)]
    rw [c3]
    simp only [c1, c2, c4]
    rw [show (1 : Int32) = iz 1 from rfl, iz_sub, iz_add, iz_sub, iz_sub]
    repeat' split
    all_goals rfl
  have g0 : ∀ z : Int, 0 ≤ z → z < 100 → (0 : Int32) ≤ iz z := fun z h1 h2 => by rw [show (0 : Int32) = iz 0 from rfl, iz_le (by decide) (by omega)]; exact h1
  have g1 : ∀ z : Int, 0 < z → z < 100 → ¬ iz z = 0 := fun z h1 h2 => by rw [show (0 : Int32) = iz 0 from rfl, iz_inj (by omega) (by decide)]; omega
  rw [e k (by omega), e (k + 1) (by omega)]
  refine ⟨g0 _ ?_ ?_, ?_⟩
  · repeat' split
    all_goals omega
  · repeat' split
    all_goals omega
  · rcases Int.lt_or_le 0 b with c | c
    · rcases Nat.mod_two_eq_zero_or_one k with z | z
      · left
        refine g1 _ ?_ ?_
        · rw [if_neg (by omega), if_pos z]; omega
        · rw [if_neg (by omega), if_pos z]; omega
      · right
        have z2 : (k + 1) % 2 = 0 := by omega
        refine g1 _ ?_ ?_
        · rw [if_neg (by omega), if_pos z2]; omega
        · rw [if_neg (by omega), if_pos z2]; omega
    · right
      refine g1 _ ?_ ?_
      · rw [if_pos c, if_neg (by omega)]; omega
      · rw [if_pos c, if_neg (by omega)]; omega
/-- whether a row of figures, d of them from k on, is less than ONE -/
def lsb (o r : Nat → Int32) : Nat → Nat → Bool
  | 0, _ => true
  | d + 1, k => if r k = o k then lsb o r d (k + 1) else decide (r k < o k)
theorem lsb_congr {o r r' : Nat → Int32} : ∀ (d k : Nat), (∀ j, k ≤ j → j < k + d → r j = r' j) → lsb o r d k = lsb o r' d k
  | 0, k, _ => rfl
  | d + 1, k, h => by
    unfold lsb
    rw [h k (by omega) (by omega), lsb_congr d (k + 1) (fun j h1 h2 => h j (by omega) (by omega))]
theorem lt0_of {x : Int32} (h : 0 ≤ x) (h2 : ¬ x = 0) : 0 < x := by
  rw [Int32.le_iff_toInt_le] at h
  rw [Int32.lt_iff_toInt_lt]
  have : x.toInt ≠ 0 := fun q => h2 (Int32.toInt_inj.mp q)
  have e : (0 : Int32).toInt = 0 := rfl
  omega
theorem lsb_zero {o r : Nat → Int32} : ∀ (d k : Nat), (∀ j, k ≤ j → j < k + d → 0 ≤ o j) → (∀ j, k ≤ j → j < k + d → r j = 0) → lsb o r d k = true
  | 0, k, _, _ => rfl
  | d + 1, k, ho, h => by
    unfold lsb
    rw [h k (by omega) (by omega)]
    by_cases c : (0 : Int32) = o k
    · rw [if_pos c]
      exact lsb_zero d (k + 1) (fun j h1 h2 => ho j (by omega) (by omega)) (fun j h1 h2 => h j (by omega) (by omega))
    · rw [if_neg c]
      exact decide_eq_true (lt0_of (ho k (by omega) (by omega)) (fun q => c q.symm))
theorem lsb_app {o r : Nat → Int32} (e : Nat) : ∀ (d k : Nat), (∀ j, k + d ≤ j → j < k + d + e → 0 ≤ o j) → (∀ j, k + d ≤ j → j < k + d + e → r j = 0) → lsb o r (d + e) k = lsb o r d k
  | 0, k, ho, h => by
    rw [Nat.zero_add]
    exact lsb_zero e k (fun j h1 h2 => ho j (by omega) (by omega)) (fun j h1 h2 => h j (by omega) (by omega))
  | d + 1, k, ho, h => by
    have e1 : d + 1 + e = (d + e) + 1 := by omega
    rw [e1]
    unfold lsb
    rw [lsb_app e d (k + 1) (fun j h1 h2 => ho j (by omega) (by omega)) (fun j h1 h2 => h j (by omega) (by omega))]
abbrev LB (o row : Nat → Int32) (len : Nat) : Nat → Bool := fun f => lsb o (fun k => row (f + k)) (len - f) 0
def b2 (x : Bool) : Int32 := if x = true then 1 else 0
theorem lessC {A B : Int32} {row : Nat → Int32} {n f len : Nat} (hl : len ≤ n) (hn : n ≤ 60) (hf : f ≤ len) : ∀ (d k fu : Nat), k + d = len - f → d + 1 ≤ fu → F_X4_isLessThanOne_3 (nI f) (nI len) n row A B fu (nI (f + k)) = some (b2 (lsb (oneF A B) (fun j => row (f + j)) d k)) := by
  intro d
  induction d with
  | zero =>
    intro k fu e hfu
    obtain ⟨fu, rfl⟩ : ∃ z, fu = z + 1 := ⟨fu - 1, by omega⟩
    have : f + k = len := by omega
    rw [this, F_X4_isLessThanOne_3, if_pos (Int32.le_refl _)]
    rfl
  | succ d ih =>
    intro k fu e hfu
    obtain ⟨fu, rfl⟩ : ∃ z, fu = z + 1 := ⟨fu - 1, by omega⟩
    have e1 : nI (f + k) - nI f = nI k := by rw [pk_sub (by omega)]; congr 1; omega
    rw [F_X4_isLessThanOne_3, if_neg (nI_ge (by omega) (by omega)), inr_t (by omega) (by omega), nI_cl (by omega), e1, nI_i1]
    unfold lsb
    by_cases c : row (f + k) = oneF A B k
    · rw [if_pos c, if_pos c]
      exact ih (k + 1) fu (by omega) (by omega)
    · rw [if_neg c, if_neg c]
      unfold F_X4_isLessThanOne_28
      rw [inr_t (by omega) (by omega), nI_cl (by omega)]
      by_cases z : oneF A B k ≤ row (f + k)
      · rw [if_pos z]
        have : ¬ row (f + k) < oneF A B k := Int32.not_lt.mpr z
        unfold b2
        rw [decide_eq_false this]; rfl
      · rw [if_neg z]
        have : row (f + k) < oneF A B k := Int32.not_le.mp z
        unfold b2
        rw [decide_eq_true this]; rfl
theorem lessM {a b : Int32} {ms ns w : Nat → Int32} (hS : RelS a b ms ns w) {row : Nat → Int32} {f len : Nat} (hl : len ≤ 60) (hf : f ≤ len) : ∀ (d k fu : Nat), k + d = len - f → d + 4 ≤ fu → F_X7_isLess_2 (nI f) (nI len) w row fu (nI k) = some (b2 (lsb (oneF a b) (fun j => row (f + j)) d k)) := by
  have e0 : (nI len - nI f) + (4 : Int32) = nI (len - f + 4) := by rw [pk_sub hf, show (4 : Int32) = nI 4 from rfl, nI_add]
  have h42 : ∀ k x, F_X7_isLess_42 w (nI k) x = some (b2 (decide (x < oneF a b k))) := by
    intro k x
    unfold F_X7_isLess_42
    rw [oneEq _ hS]
    by_cases z : oneF a b k ≤ x
    · rw [if_pos z]
      unfold b2
      rw [decide_eq_false (Int32.not_lt.mpr z)]; rfl
    · rw [if_neg z]
      unfold b2
      rw [decide_eq_true (Int32.not_le.mp z)]; rfl
  have tail : ∀ k fu, k = len - f → F_X7_isLess_2 (nI f) (nI len) w row (fu + 1 + 1) (nI k) = some 1 := by
    intro k fu hk
    have o1 := one_pos hS.2.1 k (by omega)
    have o2 := one_pos hS.2.1 (k + 1) (by omega)
    have l1 : nI len ≤ nI f + nI k := by rw [nI_add]; exact nI_le (by omega) (by omega)
    have l2 : nI len ≤ nI f + nI (k + 1) := by rw [nI_add]; exact nI_le (by omega) (by omega)
    rw [F_X7_isLess_2, if_neg (by rw [e0]; exact nI_ge (by omega) (by omega)), if_pos l1, oneEq _ hS]
    by_cases c : (0 : Int32) = oneF a b k
    · rw [if_pos c, nI_i1, F_X7_isLess_2, if_neg (by rw [e0]; exact nI_ge (by omega) (by omega)), if_pos l2, oneEq _ hS]
      have nz : ¬ oneF a b (k + 1) = 0 := by
        rcases o1.2 with q | q
        · exact absurd c.symm q
        · exact q
      rw [if_neg (fun q => nz q.symm), h42]
      unfold b2
      rw [decide_eq_true (lt0_of o2.1 nz)]; rfl
    · rw [if_neg c, h42]
      unfold b2
      rw [decide_eq_true (lt0_of o1.1 (fun q => c q.symm))]; rfl
  intro d
  induction d with
  | zero =>
    intro k fu e hfu
    obtain ⟨fu, rfl⟩ : ∃ z, fu = z + 1 + 1 := ⟨fu - 2, by omega⟩
    rw [tail k fu (by omega)]
    rfl
  | succ d ih =>
    intro k fu e hfu
    obtain ⟨fu, rfl⟩ : ∃ z, fu = z + 1 := ⟨fu - 1, by omega⟩
    rw [F_X7_isLess_2, if_neg (by rw [e0]; exact nI_ge (by omega) (by omega)), nI_add, if_neg (nI_ge (by omega) (by omega)), inr_t (by omega) (by omega), nI_cl (by omega), oneEq _ hS, nI_i1]
    unfold lsb
    by_cases c : row (f + k) = oneF a b k
    · rw [if_pos c, if_pos c]
      exact ih (k + 1) fu (by omega) (by omega)
    · rw [if_neg c, if_neg c, h42]
theorem isLessC {A B : Int32} {row : Nat → Int32} {n f len : Nat} (hl : len ≤ n) (hn : n ≤ 60) (hf : f ≤ len) : F_X4_isLessThanOne (nI f) (nI len) n row A B = some (b2 (LB (oneF A B) row len f)) := lessC hl hn hf (len - f) 0 128 (by omega) (by omega)
theorem isLessM {a b : Int32} {ms ns w : Nat → Int32} (hS : RelS a b ms ns w) {row : Nat → Int32} {f len : Nat} (hl : len ≤ 60) (hf : f ≤ len) : F_X7_isLess (nI f) (nI len) w row = some (b2 (LB (oneF a b) row len f)) := lessM hS hl hf (len - f) 0 128 (by omega) (by omega)
def fbad (L : Nat → Bool) : Nat → Nat → Option Nat
  | 0, _ => none
  | d + 1, i => if L i = true then fbad L d (i + 1) else some i
theorem fbad_none {L : Nat → Bool} : ∀ (d i : Nat), fbad L d i = none ↔ ∀ j, i ≤ j → j < i + d → L j = true
  | 0, i => ⟨fun _ j h1 h2 => by omega, fun _ => rfl⟩
  | d + 1, i => by
    unfold fbad
    by_cases c : L i = true
    · rw [if_pos c, fbad_none d (i + 1)]
      constructor
      · intro h j h1 h2
        rcases Nat.lt_or_ge i j with z | z
        · exact h j z (by omega)
        · have : j = i := by omega
          subst this; exact c
      · intro h j h1 h2
        exact h j (by omega) (by omega)
    · rw [if_neg c]
      constructor
      · intro h; cases h
      · intro h; exact absurd (h i (Nat.le_refl _) (by omega)) c
def fbI (x : Option Nat) : Int32 := match x with
  | none => -1
  | some z => nI z
theorem b2_0 {x : Bool} : b2 x = 0 ↔ ¬ x = true := by
  unfold b2
  by_cases c : x = true
  · rw [if_pos c]; exact ⟨fun q => absurd q (by decide), fun q => absurd c q⟩
  · rw [if_neg c]; exact ⟨fun _ => c, fun _ => rfl⟩
theorem fbC {A B : Int32} {row : Nat → Int32} {n len : Nat} (hl : len ≤ n) (hn : n ≤ 60) : ∀ (d i fu : Nat), i + d = len → d + 1 ≤ fu → F_X4_firstBad_2 (nI len) n row A B fu (nI i) = some (fbI (fbad (LB (oneF A B) row len) d i)) := by
  intro d
  induction d with
  | zero =>
    intro i fu e hf
    obtain ⟨fu, rfl⟩ : ∃ z, fu = z + 1 := ⟨fu - 1, by omega⟩
    have : i = len := by omega
    subst this
    rw [F_X4_firstBad_2, if_pos (Int32.le_refl _)]
    rfl
  | succ d ih =>
    intro i fu e hf
    obtain ⟨fu, rfl⟩ : ∃ z, fu = z + 1 := ⟨fu - 1, by omega⟩
    rw [F_X4_firstBad_2, if_neg (nI_ge (by omega) (by omega)), isLessC hl hn (by omega), bso, nI_i1]
    unfold fbad
    by_cases c : LB (oneF A B) row len i = true
    · rw [if_neg (fun q => b2_0.mp q c), if_pos c]
      exact ih (i + 1) fu (by omega) (by omega)
    · rw [if_pos (b2_0.mpr c), if_neg c]
      rfl
theorem firstBadC {A B : Int32} {row : Nat → Int32} {n len : Nat} (hl : len ≤ n) (hn : n ≤ 60) : F_X4_firstBad (nI len) n row A B = some (fbI (fbad (LB (oneF A B) row len) len 0)) := fbC hl hn len 0 128 (by omega) (by omega)
def fbW (x : Option Nat) : Int32 := match x with
  | none => 1
  | some _ => 0
theorem wlM0 {w row : Nat → Int32} {len : Nat} (hl : len ≤ 60) : ∀ (d i fu : Nat), i + d = len → d + 1 ≤ fu → F_X7_isWell_4 (nI len) w row fu 0 (nI i) = some 0 := by
  intro d
  induction d with
  | zero =>
    intro i fu e hf
    obtain ⟨fu, rfl⟩ : ∃ z, fu = z + 1 := ⟨fu - 1, by omega⟩
    have : i = len := by omega
    subst this
    rw [F_X7_isWell_4, if_pos (Int32.le_refl _), zk_t (Or.inl rfl)]
  | succ d ih =>
    intro i fu e hf
    obtain ⟨fu, rfl⟩ : ∃ z, fu = z + 1 := ⟨fu - 1, by omega⟩
    rw [F_X7_isWell_4, if_neg (nI_ge (by omega) (by omega)), if_pos t00, nI_i1]
    exact ih (i + 1) fu (by omega) (by omega)
theorem wlM1 {a b : Int32} {ms ns w : Nat → Int32} (hS : RelS a b ms ns w) {row : Nat → Int32} {len : Nat} (hl : len ≤ 60) : ∀ (d i fu : Nat), i + d = len → d + 1 ≤ fu → F_X7_isWell_4 (nI len) w row fu 1 (nI i) = some (fbW (fbad (LB (oneF a b) row len) d i)) := by
  intro d
  induction d with
  | zero =>
    intro i fu e hf
    obtain ⟨fu, rfl⟩ : ∃ z, fu = z + 1 := ⟨fu - 1, by omega⟩
    have : i = len := by omega
    subst this
    rw [F_X7_isWell_4, if_pos (Int32.le_refl _), zk_t (Or.inr rfl)]
    rfl
  | succ d ih =>
    intro i fu e hf
    obtain ⟨fu, rfl⟩ : ∃ z, fu = z + 1 := ⟨fu - 1, by omega⟩
    rw [F_X7_isWell_4, if_neg (nI_ge (by omega) (by omega)), if_neg n10, isLessM hS hl (by omega), bso, nI_i1]
    unfold fbad
    by_cases c : LB (oneF a b) row len i = true
    · rw [if_neg (fun q => b2_0.mp q c), if_pos c]
      exact ih (i + 1) fu (by omega) (by omega)
    · rw [if_pos (b2_0.mpr c), if_neg c, wlM0 hl d (i + 1) fu (by omega) (by omega)]
      rfl
theorem isWellM {a b : Int32} {ms ns w : Nat → Int32} (hS : RelS a b ms ns w) {row : Nat → Int32} {len : Nat} (hl : len ≤ 60) : F_X7_isWell (nI len) w row = some (fbW (fbad (LB (oneF a b) row len) len 0)) := wlM1 hS hl len 0 128 (by omega) (by omega)
theorem LB_congr {o r r' : Nat → Int32} {len : Nat} (h : ∀ i, i < len → r i = r' i) (f : Nat) : LB o r len f = LB o r' len f := lsb_congr _ _ (fun j h1 h2 => h _ (by omega))
theorem fbad_congr {L L' : Nat → Bool} (h : ∀ i, L i = L' i) : ∀ (d i : Nat), fbad L d i = fbad L' d i
  | 0, _ => rfl
  | d + 1, i => by unfold fbad; rw [h i, fbad_congr h d (i + 1)]
theorem fbad_lt {L : Nat → Bool} : ∀ (d i z : Nat), fbad L d i = some z → z < i + d
  | 0, i, z, h => by cases h
  | d + 1, i, z, h => by
    unfold fbad at h
    by_cases c : L i = true
    · rw [if_pos c] at h; have := fbad_lt d (i + 1) z h; omega
    · rw [if_neg c] at h; obtain rfl := Option.some.inj h; omega
/-- well and badly, on both sides -/
theorem badM16 {a b : Int32} {ms ns w : Nat → Int32} (hS : RelS a b ms ns w) {row : Nat → Int32} {len sz p : Nat} (hl : len ≤ 60) (h1 : sz ≤ 60) (h2 : p < sz ∨ p = 100) : ∀ (d i fu : Nat), i + d = len → d + 1 ≤ fu → F_X7_badly_16 w fu (nI len) (if p < sz then nI p else -1) (nI i) row = some ((match fbad (LB (oneF a b) row len) d i with | none => (-1 : Int32) | some z => if p < sz then (if z < p then nI z else nI (z + 1)) else nI z), row) := by
  intro d
  induction d with
  | zero =>
    intro i fu e hf
    obtain ⟨fu, rfl⟩ : ∃ z, fu = z + 1 := ⟨fu - 1, by omega⟩
    have : i = len := by omega
    subst this
    rw [F_X7_badly_16, if_pos (Int32.le_refl _)]
    rfl
  | succ d ih =>
    intro i fu e hf
    obtain ⟨fu, rfl⟩ : ∃ z, fu = z + 1 := ⟨fu - 1, by omega⟩
    rw [F_X7_badly_16, if_neg (nI_ge (by omega) (by omega)), isLessM hS hl (by omega), bso, nI_i1]
    unfold fbad
    by_cases c : LB (oneF a b) row len i = true
    · rw [if_neg (fun q => b2_0.mp q c), if_pos c]
      exact ih (i + 1) fu (by omega) (by omega)
    · rw [if_pos (b2_0.mpr c), if_neg c]
      unfold F_X7_badly_30
      by_cases v : p < sz
      · rw [if_pos v, if_neg (nI_pos (by omega))]
        show _ = some ((if p < sz then (if i < p then nI i else nI (i + 1)) else nI i), row)
        rw [if_pos v]
        by_cases u : i < p
        · rw [if_pos (nI_lt u (by omega)), if_pos u]
        · rw [if_neg (nI_nlt (by omega) (by omega)), if_neg u, nI_i1]
      · rw [if_neg v, if_pos (by decide)]
        show _ = some ((if p < sz then (if i < p then nI i else nI (i + 1)) else nI i), row)
        rw [if_neg v]
theorem badlyEq {a b cnt aop size : Int32} {ms ns w wf word : Nat → Int32} (hS : RelS a b ms ns w) (hW : RelW cnt aop wf size word) (row : Nat → Int32) : ∃ (r : Int32) (row' : Nat → Int32), F_X4_badly cnt aop wf a b = some r ∧ F_X7_badly size w word row = some (r, row') ∧ ∃ row2 : Nat → Int32, F_X7_well size w word row = some ((if r = -1 then 1 else 0), row2) := by
  obtain ⟨sz, p, h1, h2, h3, h4, h5, h6, h7⟩ := hW
  have hcn : fcn sz p ≤ 60 := Nat.le_trans fc_le h1
  obtain ⟨row', r1, r2⟩ := layRowM h1 h3 h6 h7 row
  have hfg := figsM h1 h3 h6 h7
  have hpt := pointM h1 h3 h6 h7
  have hLB : fbad (LB (oneF a b) row' (fcn sz p)) (fcn sz p) 0 = fbad (LB (oneF a b) wf (fcn sz p)) (fcn sz p) 0 := fbad_congr (fun i => LB_congr r2 i) _ _
  have hM : F_X7_badly size w word row = some ((match fbad (LB (oneF a b) wf (fcn sz p)) (fcn sz p) 0 with | none => (-1 : Int32) | some z => if p < sz then (if z < p then nI z else nI (z + 1)) else nI z), row') := by
    unfold F_X7_badly
    rw [r1, bso, hfg, bso, hpt, bso, ← hLB]
    exact badM16 hS hcn h1 h2 (fcn sz p) 0 128 (by omega) (by omega)
  have hWl : F_X7_well size w word row = some ((match fbad (LB (oneF a b) wf (fcn sz p)) (fcn sz p) 0 with | none => (1 : Int32) | some _ => 0), row') := by
    unfold F_X7_well
    rw [r1, bso, hfg, bso, isWellM hS hcn, bso, hLB]
    cases fbad (LB (oneF a b) wf (fcn sz p)) (fcn sz p) 0 with
    | none => exact if_neg n10
    | some z => exact if_pos rfl
  rw [hM, hWl]
  unfold F_X4_badly
  rw [h4, firstBadC hcn (by omega), bso, h5, hpC0 h1 h2]
  have hlt : ∀ z, fbad (LB (oneF a b) wf (fcn sz p)) (fcn sz p) 0 = some z → z < 60 := fun z hz => by have := fbad_lt _ _ _ hz; omega
  cases hz : fbad (LB (oneF a b) wf (fcn sz p)) (fcn sz p) 0 with
  | none =>
    refine ⟨-1, row', ?_, rfl, row', rfl⟩
    by_cases v : p < sz
    · rw [if_pos v, if_neg n10, if_pos v]
      exact if_pos (show (-1 : Int32) < nI p by rw [Int32.lt_iff_toInt_lt, nI_toInt (by omega)]; have : (-1 : Int32).toInt = -1 := rfl; omega)
    · rw [if_neg v, if_pos t00]
      rfl
  | some z =>
    have hz60 := hlt z hz
    by_cases v : p < sz
    · rw [if_pos v, if_neg n10, if_pos v]
      by_cases u : z < p
      · refine ⟨nI z, row', if_pos (nI_lt u (by omega)), ?_, row', ?_⟩
        · show some ((if p < sz then (if z < p then nI z else nI (z + 1)) else nI z), row') = _
          rw [if_pos v, if_pos u]
        · rw [if_neg (nI_m1 z (by omega))]
      · refine ⟨nI (z + 1), row', (if_neg (nI_nlt (by omega) (by omega))).trans (by rw [show fbI (some z) = nI z from rfl, nI_i1]), ?_, row', ?_⟩
        · show some ((if p < sz then (if z < p then nI z else nI (z + 1)) else nI z), row') = _
          rw [if_pos v, if_neg u]
        · rw [if_neg (nI_m1 (z + 1) (by omega))]
    · rw [if_neg v, if_pos t00]
      refine ⟨nI z, row', rfl, ?_, row', ?_⟩
      · show some ((if p < sz then (if z < p then nI z else nI (z + 1)) else nI z), row') = _
        rw [if_neg v]
      · rw [if_neg (nI_m1 z (by omega))]
