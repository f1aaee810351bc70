theorem cpM2 {f t : Nat} (hf : f + 10 ≤ 110) (ht : t + 10 ≤ 110) (hd : f + 10 ≤ t ∨ t + 10 ≤ f) : ∀ (d j fu : Nat) (w : Nat → Int32), j + d = 10 → d + 1 ≤ fu → F_X7_copyRow_2 (nI f) (nI t) fu (nI j) w = some (va_cpy w w (f + j) (t + j) d) := by
  intro d
  induction d with
  | zero =>
    intro j fu w e hfu
    obtain ⟨fu, rfl⟩ : ∃ z, fu = z + 1 := ⟨fu - 1, by omega⟩
    have e2 : j = 10 := by omega
    subst e2
    rw [F_X7_copyRow_2, if_pos (by decide)]
    congr 1
    funext i
    rw [pk_cpy_out (by omega)]
  | succ d ih =>
    intro j fu w e hfu
    obtain ⟨fu, rfl⟩ : ∃ z, fu = z + 1 := ⟨fu - 1, by omega⟩
    rw [F_X7_copyRow_2, if_neg (by rw [show (10 : Int32) = nI 10 from rfl, nI_leI (by omega) (by omega)]; omega), nI_add, nI_add, inr_t (by omega) (by omega), inr_t (by omega) (by omega), nI_cl (by omega), nI_cl (by omega), nI_i1, ih (j + 1) fu _ (by omega) (by omega)]
    congr 1
    funext i
    by_cases c : t + (j + 1) ≤ i ∧ i < t + (j + 1) + d
    · rw [pk_cpy_in c.1 c.2, pk_cpy_in (by omega) (by omega), pk_un (by omega)]
      congr 1; omega
    · rw [pk_cpy_out (by omega)]
      by_cases c2 : i = t + j
      · subst c2
        rw [pk_us, pk_cpy_in (by omega) (by omega)]
        congr 1; omega
      · rw [pk_un c2, pk_cpy_out (by omega)]
theorem cpM {f t : Nat} (hf : f + 10 ≤ 110) (ht : t + 10 ≤ 110) (hd : f + 10 ≤ t ∨ t + 10 ≤ f) (w : Nat → Int32) : F_X7_copyRow (nI f) (nI t) w = some (va_cpy w w f t 10) := cpM2 hf ht hd 10 0 128 w (by omega) (by omega)
def sh (k : Nat) (w : Nat → Int32) : Nat → Int32 := fun i => if 10 * (k + 1) ≤ i ∧ i < 90 then w (i - 10) else w i
theorem remM3 (w : Nat → Int32) (kn : Int32) : ∀ (k fu : Nat), k ≤ 8 → k + 1 ≤ fu → F_X7_remember_3 fu (nI k) kn (sh k w) = F_X7_remember_27 kn (sh 0 w)
  | 0, 0, _, h => by omega
  | 0, fu + 1, _, _ => by rw [F_X7_remember_3, if_pos (by decide)]
  | k + 1, 0, _, h => by omega
  | k + 1, fu + 1, hk, hf => by
    have e1 : (10 : Int32) * (nI (k + 1) - (1 : Int32)) = nI (10 * k) := by rw [nI_pred, show (10 : Int32) = nI 10 from rfl, pk_mul]
    have e2 : (10 : Int32) * nI (k + 1) = nI (10 * (k + 1)) := by rw [show (10 : Int32) = nI 10 from rfl, pk_mul]
    rw [F_X7_remember_3, if_neg (nI_nle (by omega) (by omega)), e1, e2, cpM (by omega) (by omega) (by omega), pk_m1]
    have e3 : va_cpy (sh (k + 1) w) (sh (k + 1) w) (10 * k) (10 * (k + 1)) 10 = sh k w := by
      funext i
      by_cases c : 10 * (k + 1) ≤ i ∧ i < 10 * (k + 1) + 10
      · rw [pk_cpy_in c.1 c.2]
        unfold sh
        rw [if_neg (by omega), if_pos (by omega)]
        congr 1; omega
      · rw [pk_cpy_out (by omega)]
        unfold sh
        by_cases c2 : 10 * (k + 1 + 1) ≤ i ∧ i < 90
        · rw [if_pos c2, if_pos (by omega)]
        · rw [if_neg c2, if_neg (by omega)]
    rw [e3]
    exact remM3 w kn k fu (by omega) (by omega)
theorem remM (w : Nat → Int32) {kn : Nat} (hk : kn ≤ 8) : F_X7_remember (nI kn) w = some (nI (if kn < 8 then kn + 1 else 8), sh 0 w) := by
  have e : sh 8 w = w := by funext i; unfold sh; rw [if_neg (by omega)]
  have h := remM3 w (nI kn) 8 128 (by omega) (by omega)
  rw [e] at h
  show F_X7_remember_3 128 (nI 8) (nI kn) w = _
  rw [h]
  unfold F_X7_remember_27
  by_cases c : kn < 8
  · rw [if_neg (by rw [show (8 : Int32) = nI 8 from rfl, nI_leI (by omega) (by omega)]; omega), if_pos c, nI_i1]
  · rw [if_pos (by rw [show (8 : Int32) = nI 8 from rfl, nI_leI (by omega) (by omega)]; omega), if_neg c]; rfl
def sd (k : Nat) (w : Nat → Int32) : Nat → Int32 := fun i => if i < 10 * k then w (i + 10) else w i
theorem undM12 (w : Nat → Int32) (kn : Int32) : ∀ (d k fu : Nat), k + d = 8 → d + 1 ≤ fu → F_X7_undo_12 fu (nI k) kn (sd k w) = F_X7_undo_38 kn (sd 8 w)
  | 0, k, 0, _, h => by omega
  | 0, k, fu + 1, e, _ => by
    have : k = 8 := by omega
    subst this
    rw [F_X7_undo_12, if_pos (by decide)]
  | d + 1, k, 0, _, h => by omega
  | d + 1, k, fu + 1, e, hf => by
    have e1 : (10 : Int32) * (nI k + (1 : Int32)) = nI (10 * (k + 1)) := by rw [nI_i1, show (10 : Int32) = nI 10 from rfl, pk_mul]
    have e2 : (10 : Int32) * nI k = nI (10 * k) := by rw [show (10 : Int32) = nI 10 from rfl, pk_mul]
    rw [F_X7_undo_12, if_neg (by rw [show (8 : Int32) = nI 8 from rfl, nI_leI (by omega) (by omega)]; omega), e1, e2, cpM (by omega) (by omega) (by omega), nI_i1]
    have e3 : va_cpy (sd k w) (sd k w) (10 * (k + 1)) (10 * k) 10 = sd (k + 1) w := by
      funext i
      by_cases c : 10 * k ≤ i ∧ i < 10 * k + 10
      · rw [pk_cpy_in c.1 c.2]
        unfold sd
        rw [if_neg (by omega), if_pos (by omega)]
        congr 1; omega
      · rw [pk_cpy_out (by omega)]
        unfold sd
        by_cases c2 : i < 10 * k
        · rw [if_pos c2, if_pos (by omega)]
        · rw [if_neg c2, if_neg (by omega)]
    rw [e3]
    exact undM12 w kn d (k + 1) fu (by omega) (by omega)
theorem undM (w : Nat → Int32) {kn : Nat} (h0 : 0 < kn) (hk : kn ≤ 8) : F_X7_undo (nI kn) w = some (nI (kn - 1), nI (kn - 1), sd 8 w) := by
  have e : sd 0 w = w := by funext i; unfold sd; rw [if_neg (by omega)]
  have h := undM12 w (nI kn) 8 0 128 (by omega) (by omega)
  rw [e] at h
  unfold F_X7_undo
  rw [if_neg (nI_ne0 h0 (by omega)), show (0 : Int32) = nI 0 from rfl, h]
  unfold F_X7_undo_38
  obtain ⟨z, rfl⟩ : ∃ z, kn = z + 1 := ⟨kn - 1, by omega⟩
  rw [nI_pred]; rfl
/-! rows of the reference, rows of the class -/
def rowM (w : Nat → Int32) (q : Nat) (a b : Int32) (ms ns : Nat → Int32) : Prop := w q = a ∧ w (q + 1) = b ∧ ∀ i, i < 4 → w (q + (2 + 2 * i)) = ms i ∧ w (q + (3 + 2 * i)) = ns i
def rowC (c : Nat → Int32) (q : Nat) (a b : Int32) (ms ns : Nat → Int32) : Prop := c q = a ∧ c (q + 1) = b ∧ ∀ i, i < 4 → c (q + 2 + i) = ms i ∧ c (q + 6 + i) = ns i
def GR (a b : Int32) (ms ns : Nat → Int32) : Prop := VB a.toInt b.toInt ∧ ∀ i, i < 4 → (-999999 ≤ (ms i).toInt ∧ (ms i).toInt ≤ 999999) ∧ (-999999 ≤ (ns i).toInt ∧ (ns i).toInt ≤ 999999)
theorem rowM_eq {w w' : Nat → Int32} {q q' : Nat} {a b : Int32} {ms ns : Nat → Int32} (h : rowM w q a b ms ns) (e : ∀ j, j < 10 → w' (q' + j) = w (q + j)) : rowM w' q' a b ms ns := by
  obtain ⟨h1, h2, h3⟩ := h
  exact ⟨by rw [← h1]; exact e 0 (by omega), by rw [← h2]; exact e 1 (by omega), fun i hi => ⟨by rw [← (h3 i hi).1]; exact e _ (by omega), by rw [← (h3 i hi).2]; exact e _ (by omega)⟩⟩
theorem rowC_eq {w w' : Nat → Int32} {q : Nat} {a b : Int32} {ms ns : Nat → Int32} (h : rowC w q a b ms ns) (e : ∀ j, j < 10 → w' (q + j) = w (q + j)) : rowC w' q a b ms ns := by
  obtain ⟨h1, h2, h3⟩ := h
  exact ⟨by rw [← h1]; exact e 0 (by omega), by rw [← h2]; exact e 1 (by omega), fun i hi => ⟨by rw [← (h3 i hi).1, Nat.add_assoc]; exact e _ (by omega), by rw [← (h3 i hi).2, Nat.add_assoc]; exact e _ (by omega)⟩⟩
theorem four0 : (4 : Int32).toNatClampNeg = 4 := rfl
theorem cpk_t {α : Type} {s d n : Nat} {n0 n1 : Nat} {k : Option α} (h1 : s + n ≤ n0) (h2 : d + n ≤ n1) (b : s < 1000 ∧ d < 1000 ∧ n < 1000) : cpk (nI s) (nI d) (nI n) n0 n1 k = k := by
  unfold cpk
  rw [if_pos]
  exact ⟨nI_pos (by omega), nI_pos (by omega), nI_pos (by omega), by rw [nI_cl (by omega), nI_cl (by omega)]; exact h1, by rw [nI_cl (by omega), nI_cl (by omega)]; exact h2⟩
theorem intoC {n q : Nat} (hn : n < 1000) (hq : q + 10 ≤ n) (a b : Int32) (ms ns c : Nat → Int32) : ∃ c' : Nat → Int32, F_X3_copyInto (nI q) n a b ms ns c = some c' ∧ rowC c' q a b ms ns ∧ ∀ i, i < q ∨ q + 10 ≤ i → c' i = c i := by
  have e1 : (Int32.ofNat n) - (10 : Int32) = nI (n - 10) := by
    show nI n - nI 10 = _
    rw [pk_sub (by omega)]
  have e2 : nI q + (2 : Int32) = nI (q + 2) := by rw [show (2 : Int32) = nI 2 from rfl, nI_add]
  have e3 : nI (q + 2) + (4 : Int32) = nI (q + 6) := by rw [show (4 : Int32) = nI 4 from rfl, nI_add]
  unfold F_X3_copyInto
  rw [if_neg (nI_pos (by omega)), e1, if_pos (nI_le (by omega) (by omega)), inr_t (by omega) (by omega), nI_i1, inr_t (by omega) (by omega), e2, e3, show (0 : Int32) = nI 0 from rfl, show (4 : Int32) = nI 4 from rfl, cpk_t (by omega) (by omega) (by omega), cpk_t (by omega) (by omega) (by omega), nI_cl (by omega), nI_cl (by omega), nI_cl (by omega), nI_cl (by omega), nI_cl (by omega), nI_cl (by omega)]
  refine ⟨_, rfl, ⟨?_, ?_, fun i hi => ⟨?_, ?_⟩⟩, fun i hi => ?_⟩
  · rw [pk_cpy_out (by omega), pk_cpy_out (by omega), pk_un (by omega), pk_us]
  · rw [pk_cpy_out (by omega), pk_cpy_out (by omega), pk_us]
  · rw [pk_cpy_out (by omega), pk_cpy_in (by omega) (by omega)]
    congr 1; omega
  · rw [pk_cpy_in (by omega) (by omega)]
    congr 1; omega
  · rw [pk_cpy_out (by omega), pk_cpy_out (by omega), pk_un (by omega), pk_un (by omega)]
theorem fromC {n q : Nat} (hn : n < 1000) (hq : q + 10 ≤ n) {a b a' b' : Int32} {ms ns ms' ns' c : Nat → Int32} (hr : rowC c q a' b' ms' ns') : ∃ m2 n2 : Nat → Int32, F_X3_copyFrom (nI q) n a b ms ns c = some (a', b', m2, n2) ∧ ∀ i, i < 4 → m2 i = ms' i ∧ n2 i = ns' i := by
  obtain ⟨h1, h2, h3⟩ := hr
  have e1 : (Int32.ofNat n) - (10 : Int32) = nI (n - 10) := by
    show nI n - nI 10 = _
    rw [pk_sub (by omega)]
  have e2 : nI q + (2 : Int32) = nI (q + 2) := by rw [show (2 : Int32) = nI 2 from rfl, nI_add]
  have e3 : nI (q + 2) + (4 : Int32) = nI (q + 6) := by rw [show (4 : Int32) = nI 4 from rfl, nI_add]
  unfold F_X3_copyFrom F_X0_become
  rw [if_neg (nI_pos (by omega)), e1, if_pos (nI_le (by omega) (by omega)), inr_t (by omega) (by omega), nI_i1, inr_t (by omega) (by omega), e2, e3, show (0 : Int32) = nI 0 from rfl, show (4 : Int32) = nI 4 from rfl, cpk_t (by omega) (by omega) (by omega), cpk_t (by omega) (by omega) (by omega), nI_cl (by omega), nI_cl (by omega), nI_cl (by omega), nI_cl (by omega), nI_cl (by omega), nI_cl (by omega), h1, h2]
  refine ⟨_, _, rfl, fun i hi => ⟨?_, ?_⟩⟩
  · rw [pk_cpy_in (by omega) (by omega), ← (h3 i hi).1]
    rfl
  · rw [pk_cpy_in (by omega) (by omega), ← (h3 i hi).2]
    rfl
