theorem imgC (x : Int32) : (x < 0 ∧ F_X7_in x.toInt64 (0 : Int64) (1 : Int64) = 0) ∨ (¬ x < 0 ∧ ¬ x < 2 ∧ F_X7_in x.toInt64 (0 : Int64) (1 : Int64) = 0) ∨ (¬ x < 0 ∧ x < 2 ∧ F_X7_in x.toInt64 (0 : Int64) (1 : Int64) = 1 ∧ (x = nI 0 ∨ x = nI 1)) := by
  obtain ⟨z, hz, rfl⟩ := iz_of x
  have e : F_X7_in (iz z).toInt64 (0 : Int64) (1 : Int64) = if 0 ≤ z ∧ z ≤ 1 then 1 else 0 := by
    rw [i2l, iz_to hz.1 hz.2, l0, l1]
    exact inM (by omega) (by decide) (by decide)
  have d1 : (iz z < (0 : Int32)) ↔ z < 0 := by rw [show (0 : Int32) = iz 0 from rfl]; exact iz_lt hz (by decide)
  have d2 : (iz z < (2 : Int32)) ↔ z < 2 := by rw [show (2 : Int32) = iz 2 from rfl]; exact iz_lt hz (by decide)
  rw [e, d1, d2]
  by_cases h : 0 ≤ z ∧ z ≤ 1
  · rw [if_pos h]
    right; right
    refine ⟨by omega, by omega, rfl, ?_⟩
    rcases (show z = 0 ∨ z = 1 by omega) with rfl | rfl
    · exact Or.inl rfl
    · exact Or.inr rfl
  · rw [if_neg h]
    rcases Int.lt_or_le z 0 with c | c
    · exact Or.inl ⟨c, rfl⟩
    · exact Or.inr (Or.inl ⟨by omega, by omega, rfl⟩)
theorem keptOr : ∀ k0, k0 ≤ 1 → ∀ k1, k1 ≤ 1 → (nI (k0 + 2 * k1) ||| ((1 : Int32) <<< (nI 0 &&& 31))) = nI (1 + 2 * k1) ∧ (nI (k0 + 2 * k1) ||| ((1 : Int32) <<< (nI 1 &&& 31))) = nI (k0 + 2 * 1) := by decide +kernel
theorem keptHas : ∀ k0, k0 ≤ 1 → ∀ k1, k1 ≤ 1 → F_X7_has (nI (k0 + 2 * k1)) (nI 0) = nI k0 ∧ F_X7_has (nI (k0 + 2 * k1)) (nI 1) = nI k1 := by decide +kernel
theorem coreKeep (x1 : Int32) {a b ol hn known kept : Int32} {ms ns hc ic kp w : Nat → Int32} (hS : RelS a b ms ns w) (hH : RelH ol hn hc known w) (hI : RelI ic kp kept w) : ∃ (r hn' kn' kept' : Int32) (ic' kp' w' : Nat → Int32), F_X6_keep x1 a b ms ns hn ic kp = some (r, hn', ic', kp') ∧ F_X7_keep x1 known kept w = some (r, kn', kept', w') ∧ RelS a b ms ns w' ∧ RelH ol hn' hc kn' w' ∧ RelI ic' kp' kept' w' := by
  unfold F_X6_keep F_X7_keep
  rcases imgC x1 with ⟨c1, c2⟩ | ⟨c1, c2, c3⟩ | ⟨c1, c2, c3, c4⟩
  · rw [if_pos c1, if_pos c2]; exact ⟨_, _, _, _, _, _, _, rfl, rfl, hS, hH, hI⟩
  · rw [if_neg c1, if_neg c2, if_pos c3]; exact ⟨_, _, _, _, _, _, _, rfl, rfl, hS, hH, hI⟩
  · rw [if_neg c1, if_pos c2, c3, if_neg n10]
    obtain ⟨k0, k1, h1, h2, rfl, h4, h5, h6, h7⟩ := hI
    obtain ⟨kn, o, -, -, ho, -, ho8, -⟩ := hH
    have key : ∀ (i : Nat), i ≤ 1 → ∃ ic' : Nat → Int32, F_X2_take (nI i) ic kp a b ms ns = some (ic', upd kp i 1) ∧ rowC ic' (10 * i) a b ms ns ∧ (∀ j, j < 10 * i ∨ 10 * i + 10 ≤ j → ic' j = ic j) ∧ F_X7_copyRow (0 : Int32) ((90 : Int32) + (10 : Int32) * nI i) w = some (va_cpy w w 0 (90 + 10 * i) 10) := by
      intro i hi
      obtain ⟨ic', f1, f2, f3⟩ := intoC (n := 20) (q := 10 * i) (by omega) (by omega) a b ms ns ic
      refine ⟨ic', ?_, f2, f3, ?_⟩
      · unfold F_X2_take
        have e : nI i * (10 : Int32) = nI (10 * i) := by rw [show (10 : Int32) = nI 10 from rfl, pk_mul, Nat.mul_comm]
        rw [e, f1]
        show ck (nI i) 2 _ = _
        rw [inr_t (by omega) (by omega), nI_cl (by omega)]
        rfl
      · have e : (90 : Int32) + (10 : Int32) * nI i = nI (90 + 10 * i) := by rw [show (10 : Int32) = nI 10 from rfl, show (90 : Int32) = nI 90 from rfl, pk_mul, nI_add]
        rw [e, show (0 : Int32) = nI 0 from rfl, cpM (by omega) (by omega) (by omega)]
    have hS' : ∀ i, i ≤ 1 → RelS a b ms ns (va_cpy w w 0 (90 + 10 * i) 10) := fun i hi => ⟨rowM_eq hS.1 (fun j hj => pk_cpy_out (by omega)), hS.2⟩
    have hH' : ∀ i, i ≤ 1 → RelH ol F_X1_forget hc 0 (va_cpy w w 0 (90 + 10 * i) 10) := fun i hi => ⟨0, o, rfl, rfl, ho, by omega, ho8, fun k k1 k2 => by omega⟩
    rcases c4 with rfl | rfl
    · obtain ⟨ic', f1, f2, f3, f4⟩ := key 0 (by omega)
      rw [f1, f4, (keptOr k0 h1 k1 h2).1]
      refine ⟨1, F_X1_forget, 0, nI (1 + 2 * k1), ic', upd kp 0 1, va_cpy w w 0 (90 + 10 * 0) 10, rfl, rfl, hS' 0 (by omega), hH' 0 (by omega), 1, k1, by omega, h2, rfl, pk_us, by rw [pk_un (by omega)]; exact h5, fun _ => ⟨a, b, ms, ns, hS.2, rowM_eq hS.1 (fun j hj => by rw [pk_cpy_in (by omega) (by omega)]; exact congrArg w (by omega)), f2⟩, fun q => ?_⟩
      obtain ⟨a1, b1, m1, n1, g1, g2, g3⟩ := h7 q
      exact ⟨a1, b1, m1, n1, g1, rowM_eq g2 (fun j hj => pk_cpy_out (by omega)), rowC_eq g3 (fun j hj => f3 _ (by omega))⟩
    · obtain ⟨ic', f1, f2, f3, f4⟩ := key 1 (by omega)
      rw [f1, f4, (keptOr k0 h1 k1 h2).2]
      refine ⟨1, F_X1_forget, 0, nI (k0 + 2 * 1), ic', upd kp 1 1, va_cpy w w 0 (90 + 10 * 1) 10, rfl, rfl, hS' 1 (by omega), hH' 1 (by omega), k0, 1, h1, by omega, rfl, by rw [pk_un (by omega)]; exact h4, pk_us, fun q => ?_, fun _ => ⟨a, b, ms, ns, hS.2, rowM_eq hS.1 (fun j hj => by rw [pk_cpy_in (by omega) (by omega)]; exact congrArg w (by omega)), f2⟩⟩
      obtain ⟨a1, b1, m1, n1, g1, g2, g3⟩ := h6 q
      exact ⟨a1, b1, m1, n1, g1, rowM_eq g2 (fun j hj => pk_cpy_out (by omega)), rowC_eq g3 (fun j hj => f3 _ (by omega))⟩
theorem coreGoBack (x1 : Int32) {a b ol hn known kept : Int32} {ms ns hc ic kp w : Nat → Int32} (hS : RelS a b ms ns w) (hH : RelH ol hn hc known w) (hI : RelI ic kp kept w) : ∃ (r a' b' hn' kn' : Int32) (ms' ns' w' : Nat → Int32), F_X6_goBack x1 a b ms ns hn ic kp = some (r, a', b', ms', ns', hn') ∧ F_X7_goBack x1 known kept w = some (r, kn', w') ∧ RelS a' b' ms' ns' w' ∧ RelH ol hn' hc kn' w' ∧ RelI ic kp kept w' := by
  unfold F_X6_goBack F_X7_goBack
  rcases imgC x1 with ⟨c1, c2⟩ | ⟨c1, c2, c3⟩ | ⟨c1, c2, c3, c4⟩
  · rw [if_pos c1, if_pos c2]; exact ⟨_, _, _, _, _, _, _, _, rfl, rfl, hS, hH, hI⟩
  · rw [if_neg c1, if_neg c2, if_pos c3]; exact ⟨_, _, _, _, _, _, _, _, rfl, rfl, hS, hH, hI⟩
  · rw [if_neg c1, if_pos c2, c3, if_neg n10]
    have hI0 := hI
    obtain ⟨k0, k1, h1, h2, rfl, h4, h5, h6, h7⟩ := hI
    obtain ⟨kn, o, q1, q2, ho, q3, ho8, q4⟩ := id hH
    have key : ∀ (i : Nat), i ≤ 1 → ∀ {a1 b1 : Int32} {m1 n1 : Nat → Int32}, GR a1 b1 m1 n1 → rowM w (90 + 10 * i) a1 b1 m1 n1 → rowC ic (10 * i) a1 b1 m1 n1 → ∃ m2 n2 : Nat → Int32, F_X2_give (nI i) ic a b ms ns = some (a1, b1, m2, n2) ∧ F_X7_copyRow ((90 : Int32) + (10 : Int32) * nI i) (0 : Int32) w = some (va_cpy w w (90 + 10 * i) 0 10) ∧ RelS a1 b1 m2 n2 (va_cpy w w (90 + 10 * i) 0 10) := by
      intro i hi a1 b1 m1 n1 g1 g2 g3
      obtain ⟨m2, n2, f1, f2⟩ := fromC (n := 20) (a := a) (b := b) (ms := ms) (ns := ns) (by omega) (by omega) g3
      refine ⟨m2, n2, ?_, ?_, ?_, g1.1, fun j hj => by rw [(f2 j hj).1, (f2 j hj).2]; exact g1.2 j hj⟩
      · unfold F_X2_give
        have e : nI i * (10 : Int32) = nI (10 * i) := by rw [show (10 : Int32) = nI 10 from rfl, pk_mul, Nat.mul_comm]
        rw [e, f1]
        rfl
      · have e : (90 : Int32) + (10 : Int32) * nI i = nI (90 + 10 * i) := by rw [show (10 : Int32) = nI 10 from rfl, show (90 : Int32) = nI 90 from rfl, pk_mul, nI_add]
        rw [e, show (0 : Int32) = nI 0 from rfl, cpM (by omega) (by omega) (by omega)]
      · have q := rowM_eq (w' := va_cpy w w (90 + 10 * i) 0 10) (q' := 0) g2 (fun j hj => by rw [pk_cpy_in (by omega) (by omega)]; exact congrArg w (by omega))
        exact ⟨q.1, q.2.1, fun j hj => by rw [(f2 j hj).1, (f2 j hj).2]; exact q.2.2 j hj⟩
    have hH' : ∀ w', RelH ol F_X1_forget hc 0 w' := fun w' => ⟨0, o, rfl, rfl, ho, by omega, ho8, fun k k1 k2 => by omega⟩
    rcases c4 with rfl | rfl
    · rw [inr_t (by omega) (by omega), nI_cl (by omega), h4, (keptHas k0 h1 k1 h2).1]
      rcases (show k0 = 0 ∨ k0 = 1 by omega) with rfl | rfl
      · rw [if_pos nI_0, if_pos nI_0]; exact ⟨_, _, _, _, _, _, _, _, rfl, rfl, hS, hH, hI0⟩
      · obtain ⟨a1, b1, m1, n1, g1, g2, g3⟩ := h6 rfl
        obtain ⟨m2, n2, f1, f2, f3⟩ := key 0 (by omega) g1 g2 g3
        rw [if_neg (nI_ne0 (by omega) (by omega)), if_neg (nI_ne0 (by omega) (by omega)), f1, f2]
        exact ⟨1, a1, b1, F_X1_forget, 0, m2, n2, _, rfl, rfl, f3, hH' _, relI_w hI0 (fun j hj => pk_cpy_out (by omega))⟩
    · rw [inr_t (by omega) (by omega), nI_cl (by omega), h5, (keptHas k0 h1 k1 h2).2]
      rcases (show k1 = 0 ∨ k1 = 1 by omega) with rfl | rfl
      · rw [if_pos nI_0, if_pos nI_0]; exact ⟨_, _, _, _, _, _, _, _, rfl, rfl, hS, hH, hI0⟩
      · obtain ⟨a1, b1, m1, n1, g1, g2, g3⟩ := h7 rfl
        obtain ⟨m2, n2, f1, f2, f3⟩ := key 1 (by omega) g1 g2 g3
        rw [if_neg (nI_ne0 (by omega) (by omega)), if_neg (nI_ne0 (by omega) (by omega)), f1, f2]
        exact ⟨1, a1, b1, F_X1_forget, 0, m2, n2, _, rfl, rfl, f3, hH' _, relI_w hI0 (fun j hj => pk_cpy_out (by omega))⟩
/-! the word -/
def fcn (k p : Nat) : Nat := if p < k then k - 1 else k
def RelW (cnt aop : Int32) (wf : Nat → Int32) (size : Int32) (word : Nat → Int32) : Prop := ∃ sz p : Nat, sz ≤ 60 ∧ (p < sz ∨ p = 100) ∧ size = nI sz ∧ cnt = nI (fcn sz p) ∧ aop = (if p < sz then nI p else -1) ∧ (∀ k, k < sz → word k = if k = p then 46 else wf (fcn k p) + 48) ∧ (∀ i, i < fcn sz p → ∃ d : Nat, d ≤ 9 ∧ wf i = nI d)
theorem fc_le {k p : Nat} : fcn k p ≤ k := by unfold fcn; split <;> omega
theorem fc_p {p : Nat} : fcn (p + 1) p = fcn p p := by unfold fcn; rw [if_pos (by omega), if_neg (by omega)]; rfl
theorem fc_s {k p : Nat} (h : k ≠ p) : fcn (k + 1) p = fcn k p + 1 := by
  unfold fcn
  by_cases c : p < k
  · rw [if_pos c, if_pos (by omega)]; omega
  · rw [if_neg c, if_neg (by omega)]
theorem fc_m {k s p : Nat} (h : k < s) (hp : k ≠ p) : fcn k p < fcn s p := by
  unfold fcn
  by_cases c : p < k
  · rw [if_pos c, if_pos (by omega)]; omega
  · rw [if_neg c]; split <;> omega
theorem fig_ne {d : Nat} (h : d ≤ 9) : ¬ nI d + (48 : Int32) = 46 := by
  rw [show (48 : Int32) = nI 48 from rfl, show (46 : Int32) = nI 46 from rfl, nI_add, nI_eq (by omega) (by omega)]; omega
theorem nI_m1 (p : Nat) (h : p < 1000) : ¬ nI p = -1 := by
  rw [nI_is, m1z, iz_inj (by omega) (by decide)]; omega
theorem ptM {size : Int32} {wf word : Nat → Int32} {sz p : Nat} (h1 : sz ≤ 60) (hs : size = nI sz) (hw : ∀ k, k < sz → word k = if k = p then 46 else wf (fcn k p) + 48) (hd : ∀ i, i < fcn sz p → ∃ d : Nat, d ≤ 9 ∧ wf i = nI d) : ∀ (d k fu : Nat), k + d = sz → d + 1 ≤ fu → F_X7_pointAt_4 size word fu (if p < k then nI p else -1) (nI k) = some (if p < sz then nI p else -1) := by
  subst hs
  intro d
  induction d with
  | zero =>
    intro k fu e hf
    obtain ⟨fu, rfl⟩ : ∃ z, fu = z + 1 := ⟨fu - 1, by omega⟩
    have : k = sz := by omega
    subst this
    rw [F_X7_pointAt_4, if_pos (Int32.le_refl _)]
  | succ d ih =>
    intro k fu e hf
    obtain ⟨fu, rfl⟩ : ∃ z, fu = z + 1 := ⟨fu - 1, by omega⟩
    have ih' := ih (k + 1) fu (by omega) (by omega)
    rw [F_X7_pointAt_4, if_neg (nI_ge (by omega) (by omega)), inr_t (by omega) (by omega), nI_cl (by omega), hw k (by omega), nI_i1]
    by_cases c : k = p
    · subst c
      rw [if_pos (by omega)] at ih'
      rw [if_pos rfl, if_pos rfl]
      exact ih'
    · obtain ⟨dd, q1, q2⟩ := hd (fcn k p) (fc_m (by omega) c)
      rw [if_neg c, q2, if_neg (fig_ne q1)]
      have : (if p < k + 1 then nI p else -1) = if p < k then nI p else -1 := by
        by_cases z : p < k
        · rw [if_pos z, if_pos (by omega)]
        · rw [if_neg z, if_neg (by omega)]
      rw [this] at ih'
      exact ih'
theorem pointM {size : Int32} {wf word : Nat → Int32} {sz p : Nat} (h1 : sz ≤ 60) (hs : size = nI sz) (hw : ∀ k, k < sz → word k = if k = p then 46 else wf (fcn k p) + 48) (hd : ∀ i, i < fcn sz p → ∃ d : Nat, d ≤ 9 ∧ wf i = nI d) : F_X7_pointAt size word = some (if p < sz then nI p else -1) := by
  have := ptM h1 hs hw hd sz 0 128 (by omega) (by omega)
  rw [if_neg (by omega)] at this
  exact this
theorem fgM4 {size : Int32} {wf word : Nat → Int32} {sz p : Nat} (h1 : sz ≤ 60) (hs : size = nI sz) (hw : ∀ k, k < sz → word k = if k = p then 46 else wf (fcn k p) + 48) (hd : ∀ i, i < fcn sz p → ∃ d : Nat, d ≤ 9 ∧ wf i = nI d) : ∀ (d k fu : Nat), k + d = sz → d + 1 ≤ fu → F_X7_figures_4 size word fu (nI (fcn k p)) (nI k) = some (nI (fcn sz p)) := by
  subst hs
  intro d
  induction d with
  | zero =>
    intro k fu e hf
    obtain ⟨fu, rfl⟩ : ∃ z, fu = z + 1 := ⟨fu - 1, by omega⟩
    have : k = sz := by omega
    subst this
    rw [F_X7_figures_4, if_pos (Int32.le_refl _)]
  | succ d ih =>
    intro k fu e hf
    obtain ⟨fu, rfl⟩ : ∃ z, fu = z + 1 := ⟨fu - 1, by omega⟩
    have ih' := ih (k + 1) fu (by omega) (by omega)
    rw [F_X7_figures_4, if_neg (nI_ge (by omega) (by omega)), inr_t (by omega) (by omega), nI_cl (by omega), hw k (by omega), nI_i1]
    by_cases c : k = p
    · subst c
      rw [if_pos rfl, if_pos rfl, Int32.add_zero]
      rw [fc_p] at ih'
      exact ih'
    · obtain ⟨dd, q1, q2⟩ := hd (fcn k p) (fc_m (by omega) c)
      rw [if_neg c, q2, if_neg (fig_ne q1), nI_i1]
      rw [fc_s c] at ih'
      exact ih'
theorem figsM {size : Int32} {wf word : Nat → Int32} {sz p : Nat} (h1 : sz ≤ 60) (hs : size = nI sz) (hw : ∀ k, k < sz → word k = if k = p then 46 else wf (fcn k p) + 48) (hd : ∀ i, i < fcn sz p → ∃ d : Nat, d ≤ 9 ∧ wf i = nI d) : F_X7_figures size word = some (nI (fcn sz p)) := by
  have := fgM4 h1 hs hw hd sz 0 128 (by omega) (by omega)
  have e : fcn 0 p = 0 := by unfold fcn; rw [if_neg (by omega)]
  rw [e] at this
  exact this
theorem lrM4 {size : Int32} {wf word : Nat → Int32} {sz p : Nat} (h1 : sz ≤ 60) (hs : size = nI sz) (hw : ∀ k, k < sz → word k = if k = p then 46 else wf (fcn k p) + 48) (hd : ∀ i, i < fcn sz p → ∃ d : Nat, d ≤ 9 ∧ wf i = nI d) : ∀ (d k fu : Nat) (row : Nat → Int32), k + d = sz → d + 1 ≤ fu → (∀ i, i < fcn k p → row i = wf i) → ∃ row' : Nat → Int32, F_X7_layRow_4 size word fu (nI (fcn k p)) (nI k) row = some row' ∧ ∀ i, i < fcn sz p → row' i = wf i := by
  subst hs
  intro d
  induction d with
  | zero =>
    intro k fu row e hf hr
    obtain ⟨fu, rfl⟩ : ∃ z, fu = z + 1 := ⟨fu - 1, by omega⟩
    have : k = sz := by omega
    subst this
    rw [F_X7_layRow_4, if_pos (Int32.le_refl _)]
    exact ⟨row, rfl, hr⟩
  | succ d ih =>
    intro k fu row e hf hr
    obtain ⟨fu, rfl⟩ : ∃ z, fu = z + 1 := ⟨fu - 1, by omega⟩
    rw [F_X7_layRow_4, if_neg (nI_ge (by omega) (by omega)), inr_t (by omega) (by omega), nI_cl (by omega), hw k (by omega), nI_i1]
    by_cases c : k = p
    · subst c
      have ih' := ih (k + 1) fu row (by omega) (by omega) (fun i hi => hr i (by rw [fc_p] at hi; exact hi))
      rw [if_pos rfl, if_pos rfl]
      rw [fc_p] at ih'
      exact ih'
    · obtain ⟨dd, q1, q2⟩ := hd (fcn k p) (fc_m (by omega) c)
      have hle : fcn k p ≤ k := fc_le
      have ih' := ih (k + 1) fu (upd row (fcn k p) (wf (fcn k p))) (by omega) (by omega) (fun i hi => by
        rw [fc_s c] at hi
        rcases Nat.lt_or_ge i (fcn k p) with z | z
        · rw [pk_un (by omega)]; exact hr i z
        · have : i = fcn k p := by omega
          subst this; exact pk_us)
      rw [fc_s c] at ih'
      have e3 : wf (fcn k p) + (48 : Int32) - (48 : Int32) = wf (fcn k p) := Int32.add_sub_cancel _ _
      rw [if_neg c, if_neg (by rw [q2]; exact fig_ne q1), inr_t (by omega) (by omega), nI_cl (by omega), nI_i1, e3]
      exact ih'
theorem layRowM {size : Int32} {wf word : Nat → Int32} {sz p : Nat} (h1 : sz ≤ 60) (hs : size = nI sz) (hw : ∀ k, k < sz → word k = if k = p then 46 else wf (fcn k p) + 48) (hd : ∀ i, i < fcn sz p → ∃ d : Nat, d ≤ 9 ∧ wf i = nI d) (row : Nat → Int32) : ∃ row' : Nat → Int32, F_X7_layRow size word row = some row' ∧ ∀ i, i < fcn sz p → row' i = wf i := by
  have e : fcn 0 p = 0 := by unfold fcn; rw [if_neg (by omega)]
  have := lrM4 h1 hs hw hd sz 0 128 row (by omega) (by omega) (fun i hi => by omega)
  rw [e] at this
  exact this
