/-- the row with more at a place and zeros behind it -/
def cand (r : Nat → Int32) (at' more : Nat) : Nat → Int32 := fun k => if k < at' then r k else if k = at' then r k + nI more else 0
abbrev Pok (o r : Nat → Int32) (at' more : Nat) : Prop := ∀ f, f ≤ at' → LB o (cand r at' more) (at' + 1) f = true
theorem pok_full {o r : Nat → Int32} (ho : ∀ k, k < 1000 → 0 ≤ o k) {at' more cn : Nat} (h : at' < cn) (hc : cn ≤ 60) : fbad (LB o (cand r at' more) cn) cn 0 = none ↔ Pok o r at' more := by
  rw [fbad_none]
  have e : ∀ f, f ≤ at' → LB o (cand r at' more) cn f = LB o (cand r at' more) (at' + 1) f := by
    intro f hf
    show lsb o (fun k => cand r at' more (f + k)) (cn - f) 0 = lsb o (fun k => cand r at' more (f + k)) (at' + 1 - f) 0
    have e1 : cn - f = (at' + 1 - f) + (cn - (at' + 1)) := by omega
    rw [e1]
    refine lsb_app _ _ _ (fun j h1 h2 => ho j (by omega)) (fun j h1 h2 => ?_)
    show cand r at' more (f + j) = 0
    unfold cand
    rw [if_neg (by omega), if_neg (by omega)]
  constructor
  · intro h1 f hf
    rw [← e f hf]; exact h1 f (Nat.zero_le _) (by omega)
  · intro h1 f _ hf
    rcases Nat.lt_or_ge at' f with z | z
    · refine lsb_zero _ _ (fun j h1 h2 => ho j (by omega)) (fun j h1 h2 => ?_)
      show cand r at' more (f + j) = 0
      unfold cand
      rw [if_neg (by omega), if_neg (by omega)]
    · rw [e f z]; exact h1 f z
theorem lsb_mono {o r r' : Nat → Int32} : ∀ (d k : Nat), (∀ j, k ≤ j → j < k + d → r j = r' j) → (r' (k + d) ≤ r (k + d)) → lsb o r (d + 1) k = true → lsb o r' (d + 1) k = true
  | 0, k, _, hl, h => by
    unfold lsb at h ⊢
    have hl' : r' k ≤ r k := hl
    by_cases c : r' k = o k
    · rw [if_pos c]; rfl
    · rw [if_neg c]
      refine decide_eq_true ?_
      have hle : r k ≤ o k := by
        by_cases c2 : r k = o k
        · rw [c2]; exact Int32.le_refl _
        · rw [if_neg c2] at h
          exact Int32.le_of_lt (of_decide_eq_true h)
      rw [Int32.lt_iff_toInt_lt]
      rw [Int32.le_iff_toInt_le] at hl' hle
      have : (r' k).toInt ≠ (o k).toInt := fun q => c (Int32.toInt_inj.mp q)
      omega
  | d + 1, k, he, hl, h => by
    have e1 := he k (by omega) (by omega)
    unfold lsb at h ⊢
    rw [← e1]
    by_cases c : r k = o k
    · rw [if_pos c] at h ⊢
      refine lsb_mono d (k + 1) (fun j h1 h2 => he j (by omega) (by omega)) ?_ h
      have : k + 1 + d = k + (d + 1) := by omega
      rw [this]; exact hl
    · rw [if_neg c] at h ⊢
      exact h
theorem pok_mono {o r : Nat → Int32} {at' more : Nat} (hr : ∃ d : Nat, d ≤ 9 ∧ r at' = nI d) (hm : 1 ≤ more ∧ more ≤ 9) (h : Pok o r at' more) : Pok o r at' 1 := by
  intro f hf
  have e : at' + 1 - f = (at' - f) + 1 := by omega
  have h1 := h f hf
  show lsb o (fun k => cand r at' 1 (f + k)) (at' + 1 - f) 0 = true
  have h1' : lsb o (fun k => cand r at' more (f + k)) (at' + 1 - f) 0 = true := h1
  rw [e] at h1' ⊢
  refine lsb_mono (at' - f) 0 (fun j h1 h2 => ?_) ?_ h1'
  · show cand r at' more (f + j) = cand r at' 1 (f + j)
    unfold cand
    rw [if_pos (by omega), if_pos (by omega)]
  · show cand r at' 1 (f + (0 + (at' - f))) ≤ cand r at' more (f + (0 + (at' - f)))
    have e2 : f + (0 + (at' - f)) = at' := by omega
    rw [e2]
    unfold cand
    rw [if_neg (Nat.lt_irrefl _), if_pos rfl, if_neg (Nat.lt_irrefl _), if_pos rfl]
    obtain ⟨d, h3, h4⟩ := hr
    rw [h4, nI_add, nI_add]
    exact nI_le (by omega) (by omega)
theorem pok_dec (o r : Nat → Int32) (at' : Nat) : Pok o r at' 1 ∨ ¬ Pok o r at' 1 := Classical.em _
theorem pok_pre {o r fol : Nat → Int32} {at' : Nat} (he : ∀ k, k ≤ at' → fol k = cand r at' 1 k) : fbad (LB o fol (at' + 1)) (at' + 1) 0 = none ↔ Pok o r at' 1 := by
  rw [fbad_none]
  constructor
  · intro h f hf
    rw [← LB_congr (o := o) (r := fol) (r' := cand r at' 1) (len := at' + 1) (fun i hi => he i (by omega)) f]
    exact h f (Nat.zero_le _) (by omega)
  · intro h f _ hf
    rw [LB_congr (o := o) (r := fol) (r' := cand r at' 1) (len := at' + 1) (fun i hi => he i (by omega)) f]
    exact h f (by omega)
theorem fbI_m1 {x : Option Nat} (h : ∀ z, x = some z → z < 1000) : fbI x = -1 ↔ x = none := by
  cases x with
  | none => exact ⟨fun _ => rfl, fun _ => rfl⟩
  | some z => exact ⟨fun q => absurd q (nI_m1 z (h z rfl)), fun q => by cases q⟩
def isF (x : Option Nat) : Int32 := match x with
  | none => 0
  | some _ => 1
/-- what the search finds: nothing down to a place, or the first place from the right -/
def Fnd (o r : Nat → Int32) (k : Nat) (res : Option Nat) : Prop := match res with
  | none => ∀ j, j < k → ¬ Pok o r j 1
  | some z => z < k ∧ Pok o r z 1 ∧ ∀ j, z < j → j < k → ¬ Pok o r j 1
theorem fnd_ex (o r : Nat → Int32) : ∀ k, ∃ res, Fnd o r k res
  | 0 => ⟨none, fun j hj => by omega⟩
  | k + 1 => by
    rcases pok_dec o r k with c | c
    · exact ⟨some k, by omega, c, fun j h1 h2 => by omega⟩
    · obtain ⟨res, h⟩ := fnd_ex o r k
      refine ⟨res, ?_⟩
      cases res with
      | none =>
        intro j hj
        rcases Nat.lt_or_ge j k with z | z
        · exact h j z
        · have : j = k := by omega
          subst this; exact c
      | some z =>
        obtain ⟨h1, h2, h3⟩ := h
        refine ⟨by omega, h2, fun j a1 a2 => ?_⟩
        rcases Nat.lt_or_ge j k with v | v
        · exact h3 j a1 v
        · have : j = k := by omega
          subst this; exact c
theorem followC {A B : Int32} {r : Nat → Int32} {cn : Nat} (hcn : cn ≤ 60) {res : Option Nat} (hres : Fnd (oneF A B) r cn res) : ∀ (k fu : Nat) (fol : Nat → Int32) (x2 : Int32), k ≤ cn → (∀ z, res = some z → z < k) → k + 1 ≤ fu → x2 = iz ((k : Int) - 1) → (∀ j, j < k → fol j = r j) → (∀ j, k ≤ j → j < cn → fol j = 0) → ∃ fol' : Nat → Int32, F_X4_findFollower_24 A B fu x2 fol = some (isF res, fol') ∧ ∀ z, res = some z → ∀ j, j < cn → fol' j = cand r z 1 j := by
  intro k
  induction k with
  | zero =>
    intro fu fol x2 hk hz hf hx h1 h2
    obtain ⟨fu, rfl⟩ : ∃ z, fu = z + 1 := ⟨fu - 1, by omega⟩
    have hx' : x2 = -1 := by rw [hx]; rfl
    subst hx'
    rw [F_X4_findFollower_24, if_pos (by decide)]
    cases res with
    | none => exact ⟨fol, rfl, fun z q => by cases q⟩
    | some z => exact absurd (hz z rfl) (by omega)
  | succ k ih =>
    intro fu fol x2 hk hz hf hx h1 h2
    obtain ⟨fu, rfl⟩ : ∃ z, fu = z + 1 := ⟨fu - 1, by omega⟩
    have hx' : x2 = nI k := by
      rw [hx, nI_is]
      have : ((k + 1 : Nat) : Int) - 1 = (k : Int) := by omega
      rw [this]
    subst hx'
    rw [F_X4_findFollower_24, if_neg (nI_pos (by omega)), inr_t (by omega) (by omega), nI_cl (by omega), nI_i1, firstBadC (by omega) (by omega), bso]
    have hcand : ∀ j, j < cn → upd fol k (fol k + 1) j = cand r k 1 j := by
      intro j hj
      unfold cand
      by_cases e : j = k
      · subst e
        rw [pk_us, if_neg (Nat.lt_irrefl _), if_pos rfl, h1 j (by omega)]; rfl
      · rw [pk_un e]
        rcases Nat.lt_or_ge j k with v | v
        · rw [if_pos v]; exact h1 j (by omega)
        · rw [if_neg (by omega), if_neg e]; exact h2 j (by omega) hj
    have hpre := pok_pre (o := oneF A B) (r := r) (fol := upd fol k (fol k + 1)) (at' := k) (fun j hj => hcand j (by omega))
    have hfb := fbI_m1 (x := fbad (LB (oneF A B) (upd fol k (fol k + 1)) (k + 1)) (k + 1) 0) (fun z hz => by have := fbad_lt _ _ _ hz; omega)
    rcases pok_dec (oneF A B) r k with c | c
    · have : res = some k := by
        cases res with
        | none => exact absurd c (hres k (by omega))
        | some z =>
          have hzk := hz z rfl
          rcases Nat.lt_or_ge z k with v | v
          · exact absurd c (hres.2.2 k v (by omega))
          · have : z = k := by omega
            rw [this]
      subst this
      rw [if_pos (hfb.mpr (hpre.mpr c))]
      exact ⟨_, rfl, fun z q j hj => by obtain rfl := Option.some.inj q; exact hcand j hj⟩
    · rw [if_neg (fun q => c (hpre.mp (hfb.mp q)))]
      refine ih fu _ _ (by omega) (fun z q => ?_) (by omega) ?_ (fun j hj => ?_) (fun j h3 h4 => ?_)
      · have := hz z q
        rcases Nat.lt_or_ge z k with v | v
        · exact v
        · have e : z = k := by omega
          subst q
          exact absurd (by rw [← e]; exact hres.2.1) c
      · cases k with
        | zero => rfl
        | succ k =>
          rw [pk_m1, nI_is]
          have : ((k + 1 : Nat) : Int) - 1 = (k : Int) := by omega
          rw [this]
      · rw [pk_un (by omega), pk_un (by omega)]; exact h1 j (by omega)
      · by_cases e : j = k
        · subst e; exact pk_us
        · rw [pk_un e, pk_un e]; exact h2 j (by omega) h4
theorem zerosM {w : Nat → Int32} {kk : Int32 → Int32 → Int32 → (Nat → Int32) → Option (Int32 × (Nat → Int32))} {cn : Nat} (hcn : cn ≤ 60) (x2 x3 : Int32) : ∀ (d k fu : Nat) (row : Nat → Int32), k + d = cn → d + 1 ≤ fu → ∃ row' : Nat → Int32, F_X7_layNext_40 kk w fu (nI cn) x2 x3 (nI k) row = F_X7_layNext_60 kk w (nI cn) x2 x3 row' ∧ (∀ j, j < k → row' j = row j) ∧ (∀ j, k ≤ j → j < cn → row' j = 0) := by
  intro d
  induction d with
  | zero =>
    intro k fu row e hf
    obtain ⟨fu, rfl⟩ : ∃ z, fu = z + 1 := ⟨fu - 1, by omega⟩
    have : k = cn := by omega
    subst this
    rw [F_X7_layNext_40, if_pos (Int32.le_refl _)]
    exact ⟨row, rfl, fun j _ => rfl, fun j h1 h2 => by omega⟩
  | succ d ih =>
    intro k fu row e hf
    obtain ⟨fu, rfl⟩ : ∃ z, fu = z + 1 := ⟨fu - 1, by omega⟩
    rw [F_X7_layNext_40, if_neg (nI_ge (by omega) (by omega)), inr_t (by omega) (by omega), nI_cl (by omega), nI_i1]
    obtain ⟨row', q1, q2, q3⟩ := ih (k + 1) fu (upd row k 0) (by omega) (by omega)
    refine ⟨row', q1, fun j hj => ?_, fun j h1 h2 => ?_⟩
    · rw [q2 j (by omega), pk_un (by omega)]
    · rcases Nat.lt_or_ge k j with v | v
      · exact q3 j v h2
      · have : j = k := by omega
        subst this
        rw [q2 j (by omega), pk_us]
theorem tryM {a b size : Int32} {ms ns w r word : Nat → Int32} (hS : RelS a b ms ns w) {cn : Nat} (hcn : cn ≤ 60) (hlay : ∀ row : Nat → Int32, ∃ row' : Nat → Int32, F_X7_layRow size word row = some row' ∧ ∀ i, i < cn → row' i = r i) (hd : ∀ i, i < cn → ∃ d : Nat, d ≤ 9 ∧ r i = nI d) {at' : Nat} (ha : at' < cn) (kk : Int32 → Int32 → (Nat → Int32) → Option (Int32 × (Nat → Int32))) : ∀ (d more fu : Nat) (row : Nat → Int32), more + d = 10 → 1 ≤ more → d + 1 ≤ fu → (1 < more → ¬ Pok (oneF a b) r at' 1) → (Pok (oneF a b) r at' 1 → ∃ row' : Nat → Int32, F_X7_layNext_15 kk size w word fu (nI cn) (nI at') (nI more) row = some (1, row') ∧ ∀ j, j < cn → row' j = cand r at' 1 j) ∧ (¬ Pok (oneF a b) r at' 1 → ∃ row' : Nat → Int32, F_X7_layNext_15 kk size w word fu (nI cn) (nI at') (nI more) row = kk (nI cn) (nI at' + (-1 : Int32)) row') := by
  have ho : ∀ k, k < 1000 → 0 ≤ oneF a b k := fun k hk => (one_pos hS.2.1 k hk).1
  intro d
  induction d with
  | zero =>
    intro more fu row e h1 hf hp
    obtain ⟨fu, rfl⟩ : ∃ z, fu = z + 1 := ⟨fu - 1, by omega⟩
    have : more = 10 := by omega
    subst this
    refine ⟨fun q => absurd q (hp (by omega)), fun q => ?_⟩
    rw [F_X7_layNext_15, if_pos (by decide)]
    exact ⟨row, rfl⟩
  | succ d ih =>
    intro more fu row e h1 hf hp
    obtain ⟨fu, rfl⟩ : ∃ z, fu = z + 1 := ⟨fu - 1, by omega⟩
    obtain ⟨row1, r1, r2⟩ := hlay row
    obtain ⟨row2, q1, q2, q3⟩ := zerosM (w := w) (kk := F_X7_layNext_15 kk size w word fu) hcn (nI at') (nI more) (cn - (at' + 1)) (at' + 1) 128 (upd row1 at' (row1 at' + nI more)) (by omega) (by omega)
    have hc : ∀ j, j < cn → row2 j = cand r at' more j := by
      intro j hj
      unfold cand
      rcases Nat.lt_or_ge j (at' + 1) with v | v
      · rw [q2 j v]
        by_cases u : j = at'
        · subst u
          rw [pk_us, if_neg (Nat.lt_irrefl _), if_pos rfl, r2 j hj]
        · rw [pk_un u, if_pos (by omega), r2 j hj]
      · rw [q3 j v hj, if_neg (by omega), if_neg (by omega)]
    have hb : fbad (LB (oneF a b) row2 cn) cn 0 = fbad (LB (oneF a b) (cand r at' more) cn) cn 0 := fbad_congr (fun i => LB_congr hc i) _ _
    have hfull := pok_full (o := oneF a b) (r := r) ho (at' := at') (more := more) ha hcn
    have hwell := isWellM (row := row2) hS hcn
    rw [hb] at hwell
    have step : F_X7_layNext_15 kk size w word (fu + 1) (nI cn) (nI at') (nI more) row = if fbW (fbad (LB (oneF a b) (cand r at' more) cn) cn 0) = 0 then F_X7_layNext_15 kk size w word fu (nI cn) (nI at') (nI (more + 1)) row2 else some (1, row2) := by
      rw [F_X7_layNext_15, if_neg (show ¬ (9 : Int32) < nI more by rw [show (9 : Int32) = nI 9 from rfl]; exact nI_nlt (by omega) (by omega)), r1, bso, inr_t (by omega) (by omega), nI_cl (by omega), nI_i1, q1]
      unfold F_X7_layNext_60
      rw [hwell, bso, nI_i1]
    rw [step]
    by_cases c : Pok (oneF a b) r at' more
    · have c1 := pok_mono (hd at' ha) (by omega) c
      have hm1 : more = 1 := by
        rcases Nat.lt_or_ge 1 more with v | v
        · exact absurd c1 (hp v)
        · omega
      subst hm1
      rw [hfull.mpr c, if_neg (by decide)]
      exact ⟨fun _ => ⟨row2, rfl, hc⟩, fun q => absurd c1 q⟩
    · have hn : ¬ fbad (LB (oneF a b) (cand r at' more) cn) cn 0 = none := fun q => c (hfull.mp q)
      have h0 : fbW (fbad (LB (oneF a b) (cand r at' more) cn) cn 0) = 0 := by
        cases hq : fbad (LB (oneF a b) (cand r at' more) cn) cn 0 with
        | none => exact absurd hq hn
        | some z => rfl
      rw [if_pos h0]
      refine ih (more + 1) fu row2 (by omega) (by omega) (by omega) (fun _ => ?_)
      rcases Nat.lt_or_ge 1 more with v | v
      · exact hp v
      · have : more = 1 := by omega
        subst this; exact c
theorem nextM {a b size : Int32} {ms ns w r word : Nat → Int32} (hS : RelS a b ms ns w) {cn : Nat} (hcn : cn ≤ 60) (hlay : ∀ row : Nat → Int32, ∃ row' : Nat → Int32, F_X7_layRow size word row = some row' ∧ ∀ i, i < cn → row' i = r i) (hd : ∀ i, i < cn → ∃ d : Nat, d ≤ 9 ∧ r i = nI d) {res : Option Nat} (hres : Fnd (oneF a b) r cn res) : ∀ (k fu : Nat) (row : Nat → Int32) (x2 : Int32), k ≤ cn → (∀ z, res = some z → z < k) → k + 1 ≤ fu → x2 = iz ((k : Int) - 1) → ∃ row' : Nat → Int32, F_X7_layNext_9 size w word fu (nI cn) x2 row = some (isF res, row') ∧ ∀ z, res = some z → ∀ j, j < cn → row' j = cand r z 1 j := by
  intro k
  induction k with
  | zero =>
    intro fu row x2 hk hz hf hx
    obtain ⟨fu, rfl⟩ : ∃ z, fu = z + 1 := ⟨fu - 1, by omega⟩
    have hx' : x2 = -1 := by rw [hx]; rfl
    subst hx'
    rw [F_X7_layNext_9, if_pos (by decide)]
    cases res with
    | none => exact ⟨row, rfl, fun z q => by cases q⟩
    | some z => exact absurd (hz z rfl) (by omega)
  | succ k ih =>
    intro fu row x2 hk hz hf hx
    obtain ⟨fu, rfl⟩ : ∃ z, fu = z + 1 := ⟨fu - 1, by omega⟩
    have hx' : x2 = nI k := by
      rw [hx, nI_is]
      have : ((k + 1 : Nat) : Int) - 1 = (k : Int) := by omega
      rw [this]
    subst hx'
    rw [F_X7_layNext_9, if_neg (nI_pos (by omega))]
    obtain ⟨t1, t2⟩ := tryM hS hcn hlay hd (at' := k) (by omega) (F_X7_layNext_9 size w word fu) 9 1 128 row (by omega) (by omega) (by omega) (fun q => by omega)
    rcases pok_dec (oneF a b) r k with c | c
    · have : res = some k := by
        cases res with
        | none => exact absurd c (hres k (by omega))
        | some z =>
          have hzk := hz z rfl
          rcases Nat.lt_or_ge z k with v | v
          · exact absurd c (hres.2.2 k v (by omega))
          · have : z = k := by omega
            rw [this]
      subst this
      obtain ⟨row', q1, q2⟩ := t1 c
      refine ⟨row', q1, fun z q j hj => by obtain rfl := Option.some.inj q; exact q2 j hj⟩
    · obtain ⟨row', q1⟩ := t2 c
      have q1' : F_X7_layNext_15 (F_X7_layNext_9 size w word fu) size w word 128 (nI cn) (nI k) (1 : Int32) row = _ := q1
      rw [q1']
      refine ih fu row' _ (by omega) (fun z q => ?_) (by omega) ?_
      · have := hz z q
        rcases Nat.lt_or_ge z k with v | v
        · exact v
        · have e : z = k := by omega
          subst q
          exact absurd (by rw [← e]; exact hres.2.1) c
      · cases k with
        | zero => rfl
        | succ k =>
          rw [pk_m1, nI_is]
          have : ((k + 1 : Nat) : Int) - 1 = (k : Int) := by omega
          rw [this]
theorem coreNext (x1 : Int32) {a b cnt aop size : Int32} {ms ns w wf word : Nat → Int32} (hS : RelS a b ms ns w) (hW : RelW cnt aop wf size word) (fol row : Nat → Int32) : ∃ (r : Int32) (fol' row' : Nat → Int32), F_X6_next x1 a b cnt wf fol = some (r, fol') ∧ F_X7_next x1 size w word row = some (r, row') := by
  obtain ⟨sz, p, h1, h2, h3, h4, h5, h6, h7⟩ := hW
  have hcn : fcn sz p ≤ 60 := Nat.le_trans fc_le h1
  have hfg := figsM h1 h3 h6 h7
  unfold F_X6_next F_X7_next
  by_cases c0 : 0 ≤ x1
  · rw [if_pos c0, if_pos c0, hfg, bso, h4]
    by_cases c1 : nI (fcn sz p) ≤ x1
    · rw [if_pos c1, if_pos c1]; exact ⟨_, _, _, rfl, rfl⟩
    · rw [if_neg c1, if_neg c1]
      obtain ⟨j, hj, rfl⟩ : ∃ j, j < fcn sz p ∧ x1 = nI j := by
        rcases pk_ix x1 (n := fcn sz p) (by omega) with q | q | q
        · exact absurd c0 (Int32.not_le.mpr q)
        · exact absurd q c1
        · exact q
      obtain ⟨res, hres⟩ := fnd_ex (oneF a b) wf (fcn sz p)
      have hlt : ∀ z, res = some z → z < fcn sz p := fun z q => by subst q; exact hres.1
      obtain ⟨fol', f1, f2⟩ := followC hcn hres (fcn sz p) 128 (va_cpy wf fol (0 : Int32).toNatClampNeg (0 : Int32).toNatClampNeg (nI (fcn sz p)).toNatClampNeg) (nI (fcn sz p) - 1) (Nat.le_refl _) hlt (by omega) (by
        rw [nI_is, show (1 : Int32) = iz 1 from rfl, iz_sub]) (fun k hk => by
        rw [z0, nI_cl (by omega), pk_cpy_in (by omega) (by omega)]; exact congrArg wf (by omega)) (fun k h1 h2 => by omega)
      obtain ⟨row', g1, g2⟩ := nextM hS hcn (fun row => layRowM h1 h3 h6 h7 row) h7 hres (fcn sz p) 128 row (nI (fcn sz p) - 1) (Nat.le_refl _) hlt (by omega) (by
        rw [nI_is, show (1 : Int32) = iz 1 from rfl, iz_sub])
      have hF : F_X4_findFollower (nI (fcn sz p)) wf fol a b = some (isF res, fol') := by
        unfold F_X4_findFollower
        have e0 : cpk (0 : Int32) (0 : Int32) (nI (fcn sz p)) 60 60 (F_X4_findFollower_24 a b 128 (nI (fcn sz p) - 1) (va_cpy wf fol (0 : Int32).toNatClampNeg (0 : Int32).toNatClampNeg (nI (fcn sz p)).toNatClampNeg)) = F_X4_findFollower_24 a b 128 (nI (fcn sz p) - 1) (va_cpy wf fol (0 : Int32).toNatClampNeg (0 : Int32).toNatClampNeg (nI (fcn sz p)).toNatClampNeg) := cpk_t (s := 0) (d := 0) (n := fcn sz p) (by omega) (by omega) (by omega)
        rw [e0, f1]
      have hG : F_X7_layNext size w word row = some (isF res, row') := by
        unfold F_X7_layNext
        rw [hfg, bso, g1]
      rw [hF, hG, bso, bso]
      cases res with
      | none => exact ⟨-1, fol', row', if_pos rfl, if_pos rfl⟩
      | some z =>
        refine ⟨cand wf z 1 j, fol', row', ?_, ?_⟩
        · refine (if_neg (show ¬ (isF (some z), fol').1 = 0 from n10)).trans ?_
          rw [inr_t (by omega) (by omega), nI_cl (by omega)]
          show some (fol' j, fol') = _
          rw [f2 z rfl j hj]
        · refine (if_neg (show ¬ (isF (some z), row').1 = 0 from n10)).trans ?_
          rw [inr_t (by omega) (by omega), nI_cl (by omega)]
          show some (row' j, row') = _
          rw [g2 z rfl j hj]
  · rw [if_neg c0, if_neg c0]; exact ⟨_, _, _, rfl, rfl⟩
