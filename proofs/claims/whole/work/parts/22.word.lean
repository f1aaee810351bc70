abbrev wd_X6_isNoShelf : va_W := []
abbrev rm_X6_isNoShelf : Room := { frames := 0, cells := 0, slots := 0, locals := 0 }
def F_X6_isNoShelf (x0 : Int32) : Int32 := (if x0 < 0 then (1 : Int32) else (if x0 < (4 : Int32) then (0 : Int32) else (1 : Int32)))
theorem B_X6_isNoShelf (x0 : Int32) : narrow .boolean (.int (F_X6_isNoShelf x0)) = .int (F_X6_isNoShelf x0) := by
  unfold F_X6_isNoShelf
  repeat' split
  all_goals first | rfl | exact B_X7_in _ _ _
set_option maxRecDepth 100000 in
set_option maxHeartbeats 4000000 in
theorem b_X6_isNoShelf {p : Program} {l : Launch} {e : Env} {s : State} {m : MethodId} {args : Array Value} {below : List Frame} {meth : Method} {c : Code} {Q : State → Prop} {dC : Nat → ClassId} {dI : Nat → Nat → Nat} {H : Heap} {locs : List Loc} {ls : Array Slot} (x0 : Int32) (ou0 : Int32) (hF : F_X6_isNoShelf x0 = ou0) (hC : CallFix p m c cX6_isNoShelf 1 s args wsX6_isNoShelf RX6) (hN : NW s) (hK : va_K (dC, dI) vwCl [] s) (hP : va_P (dC, dI) vwCl wd_X6_isNoShelf H) (hE : ∀ (ls : Array Slot) (pc : Nat), narrow .boolean (.int ou0) = .int ou0 → decode cX6_isNoShelf pc = .ok (.ireturn, 1) → W p l e rm_X6_isNoShelf s m args below meth c H locs 0 0 Q (F0 m pc ls [.int ou0])) (hl : lv_has ls 1 [(0, .int x0)]) : W p l e rm_X6_isNoShelf s m args below meth c H locs 0 0 Q (F0 m 0 ls []) := by
  obtain ⟨hx, hb, hml, hown, hts⟩ := id hC
  unfold F_X6_isNoShelf at hF
  refine lv_iload_n hx hb dX6_isNoShelf_0 rfl (lv_at hl 0 rfl) ?_
  refine lv_if_lt (tgt := 9) hx hb dX6_isNoShelf_1 (by decide) (fun g_1 => ?_) (fun g_1 => ?_)
  · replace hF := ite_t g_1 hF
    refine lv_iconst (v := (1 : Int32)) hx hb dX6_isNoShelf_9 (by decide) ?_
    refine lv_goto (tgt := 14) hx hb dX6_isNoShelf_10 (by decide) ?_
    obtain rfl := hF; exact hE _ _ (zk_n (Or.inr rfl)) dX6_isNoShelf_14
  · replace hF := ite_f g_1 hF
    refine lv_iload_n hx hb dX6_isNoShelf_4 rfl (lv_at hl 0 rfl) ?_
    refine lv_iconst (v := (4 : Int32)) hx hb dX6_isNoShelf_5 (by decide) ?_
    refine lv_icmp_lt (tgt := 13) hx hb dX6_isNoShelf_6 (by decide) (fun g_2 => ?_) (fun g_2 => ?_)
    · replace hF := ite_t g_2 hF
      refine lv_iconst (v := (0 : Int32)) hx hb dX6_isNoShelf_13 (by decide) ?_
      obtain rfl := hF; exact hE _ _ (zk_n (Or.inl rfl)) dX6_isNoShelf_14
    · replace hF := ite_f g_2 hF
      refine lv_iconst (v := (1 : Int32)) hx hb dX6_isNoShelf_9 (by decide) ?_
      refine lv_goto (tgt := 14) hx hb dX6_isNoShelf_10 (by decide) ?_
      obtain rfl := hF; exact hE _ _ (zk_n (Or.inr rfl)) dX6_isNoShelf_14
set_option maxRecDepth 100000 in
set_option maxHeartbeats 4000000 in
theorem c_X6_isNoShelf (l : Launch) (dC : Nat → ClassId) (dI : Nat → Nat → Nat) (x0 : Int32) (o : Int32) (hF : F_X6_isNoShelf x0 = o) : Met l yX6_isNoShelf wsX6_isNoShelf rm_X6_isNoShelf (va_Pc [.int x0] (PcR dC dI wd_X6_isNoShelf [])) (vp_Si (fun r => r = o)) 0 0 (fun _ => False) := by
  refine Met.ofW (cc := cX6_isNoShelf) (maxL := 1) (ret := (some .boolean)) (by decide) rfl ?_
  intro p e s m args below meth c s₁ B hml hv
  obtain ⟨rfl, hP, hK, hN⟩ := hv
  have hl := lv_entry ([.int x0]) (n := 1) (Nat.le_of_ble_eq_true rfl)
  rw [lg_entry_eq]
  generalize (lg_sl ([.int x0]) ++ List.replicate (1 - (lg_sl ([.int x0])).length) Slot.unset).toArray = ls at hl ⊢
  exact b_X6_isNoShelf x0 o hF ⟨B.exec, B.bytes, hml, findClass_of_methodNamed B.named, atoms_spec (ws := wsX6_isNoShelf) B.pre⟩ hN hK hP (fun ls pc hn hd => W.zret B.exec B.bytes B.returns hn (fun t ht hW => ⟨_, rfl, rfl, ht⟩) (fun q h => by cases h) hd B.notSynchronized) hl
abbrev wd_X6_isOutOfBounds : va_W := []
abbrev rm_X6_isOutOfBounds : Room := { frames := 0, cells := 0, slots := 0, locals := 0 }
def F_X6_isOutOfBounds (x0 : Int64) : Int32 := (if (lg_cmp x0 (-999999 : Int64)) < 0 then (1 : Int32) else (if (lg_cmp x0 (999999 : Int64)) ≤ 0 then (0 : Int32) else (1 : Int32)))
theorem B_X6_isOutOfBounds (x0 : Int64) : narrow .boolean (.int (F_X6_isOutOfBounds x0)) = .int (F_X6_isOutOfBounds x0) := by
  unfold F_X6_isOutOfBounds
  repeat' split
  all_goals first | rfl | exact B_X7_in _ _ _
set_option maxRecDepth 100000 in
set_option maxHeartbeats 4000000 in
theorem b_X6_isOutOfBounds {p : Program} {l : Launch} {e : Env} {s : State} {m : MethodId} {args : Array Value} {below : List Frame} {meth : Method} {c : Code} {Q : State → Prop} {dC : Nat → ClassId} {dI : Nat → Nat → Nat} {H : Heap} {locs : List Loc} {ls : Array Slot} (x0 : Int64) (ou0 : Int32) (hF : F_X6_isOutOfBounds x0 = ou0) (hC : CallFix p m c cX6_isOutOfBounds 2 s args wsX6_isOutOfBounds RX6) (hN : NW s) (hK : va_K (dC, dI) vwCl [] s) (hP : va_P (dC, dI) vwCl wd_X6_isOutOfBounds H) (hE : ∀ (ls : Array Slot) (pc : Nat), narrow .boolean (.int ou0) = .int ou0 → decode cX6_isOutOfBounds pc = .ok (.ireturn, 1) → W p l e rm_X6_isOutOfBounds s m args below meth c H locs 0 0 Q (F0 m pc ls [.int ou0])) (hl : lv_has ls 2 [(0, .long x0)]) : W p l e rm_X6_isOutOfBounds s m args below meth c H locs 0 0 Q (F0 m 0 ls []) := by
  obtain ⟨hx, hb, hml, hown, hts⟩ := id hC
  unfold F_X6_isOutOfBounds at hF
  refine lv_lload_n hx hb dX6_isOutOfBounds_0 rfl (lv_at hl 0 rfl) ?_
  refine lv_ldc2 (v := (-999999 : Int64)) hx hb hown (hts (.constantLong RX6 218 (-999999)) (List.mem_of_getElem? (i := 1) rfl)) dX6_isOutOfBounds_1 ?_
  refine W.lcmp hx hb dX6_isOutOfBounds_4 ?_
  refine lv_if_lt (tgt := 16) hx hb dX6_isOutOfBounds_5 (by decide) (fun g_1 => ?_) (fun g_1 => ?_)
  · replace hF := ite_t g_1 hF
    refine lv_iconst (v := (1 : Int32)) hx hb dX6_isOutOfBounds_16 (by decide) ?_
    refine lv_goto (tgt := 21) hx hb dX6_isOutOfBounds_17 (by decide) ?_
    obtain rfl := hF; exact hE _ _ (zk_n (Or.inr rfl)) dX6_isOutOfBounds_21
  · replace hF := ite_f g_1 hF
    refine lv_lload_n hx hb dX6_isOutOfBounds_8 rfl (lv_at hl 0 rfl) ?_
    refine lv_ldc2 (v := (999999 : Int64)) hx hb hown (hts (.constantLong RX6 220 (999999)) (List.mem_of_getElem? (i := 2) rfl)) dX6_isOutOfBounds_9 ?_
    refine W.lcmp hx hb dX6_isOutOfBounds_12 ?_
    refine lv_if_le (tgt := 20) hx hb dX6_isOutOfBounds_13 (by decide) (fun g_2 => ?_) (fun g_2 => ?_)
    · replace hF := ite_t g_2 hF
      refine lv_iconst (v := (0 : Int32)) hx hb dX6_isOutOfBounds_20 (by decide) ?_
      obtain rfl := hF; exact hE _ _ (zk_n (Or.inl rfl)) dX6_isOutOfBounds_21
    · replace hF := ite_f g_2 hF
      refine lv_iconst (v := (1 : Int32)) hx hb dX6_isOutOfBounds_16 (by decide) ?_
      refine lv_goto (tgt := 21) hx hb dX6_isOutOfBounds_17 (by decide) ?_
      obtain rfl := hF; exact hE _ _ (zk_n (Or.inr rfl)) dX6_isOutOfBounds_21
set_option maxRecDepth 100000 in
set_option maxHeartbeats 4000000 in
theorem c_X6_isOutOfBounds (l : Launch) (dC : Nat → ClassId) (dI : Nat → Nat → Nat) (x0 : Int64) (o : Int32) (hF : F_X6_isOutOfBounds x0 = o) : Met l yX6_isOutOfBounds wsX6_isOutOfBounds rm_X6_isOutOfBounds (va_Pc [.long x0] (PcR dC dI wd_X6_isOutOfBounds [])) (vp_Si (fun r => r = o)) 0 0 (fun _ => False) := by
  refine Met.ofW (cc := cX6_isOutOfBounds) (maxL := 2) (ret := (some .boolean)) (by decide) rfl ?_
  intro p e s m args below meth c s₁ B hml hv
  obtain ⟨rfl, hP, hK, hN⟩ := hv
  have hl := lv_entry ([.long x0]) (n := 2) (Nat.le_of_ble_eq_true rfl)
  rw [lg_entry_eq]
  generalize (lg_sl ([.long x0]) ++ List.replicate (2 - (lg_sl ([.long x0])).length) Slot.unset).toArray = ls at hl ⊢
  exact b_X6_isOutOfBounds x0 o hF ⟨B.exec, B.bytes, hml, findClass_of_methodNamed B.named, atoms_spec (ws := wsX6_isOutOfBounds) B.pre⟩ hN hK hP (fun ls pc hn hd => W.zret B.exec B.bytes B.returns hn (fun t ht hW => ⟨_, rfl, rfl, ht⟩) (fun q h => by cases h) hd B.notSynchronized) hl
abbrev wd_X6_lot : va_W := []
abbrev rm_X6_lot : Room := { frames := 0, cells := 0, slots := 0, locals := 0 }
def F_X6_lot (x0 : Int64) : Int64 := ((x0 * (16807 : Int64)) - (x0 * (16807 : Int64)) / (2147483647 : Int64) * (2147483647 : Int64))
set_option maxRecDepth 100000 in
set_option maxHeartbeats 4000000 in
theorem b_X6_lot {p : Program} {l : Launch} {e : Env} {s : State} {m : MethodId} {args : Array Value} {below : List Frame} {meth : Method} {c : Code} {Q : State → Prop} {dC : Nat → ClassId} {dI : Nat → Nat → Nat} {H : Heap} {locs : List Loc} {ls : Array Slot} (x0 : Int64) (ou0 : Int64) (hF : F_X6_lot x0 = ou0) (hC : CallFix p m c cX6_lot 2 s args wsX6_lot RX6) (hN : NW s) (hK : va_K (dC, dI) vwCl [] s) (hP : va_P (dC, dI) vwCl wd_X6_lot H) (hE : ∀ (ls : Array Slot) (pc : Nat), decode cX6_lot pc = .ok (.lreturn, 1) → W p l e rm_X6_lot s m args below meth c H locs 0 0 Q (F0 m pc ls [.long ou0])) (hl : lv_has ls 2 [(0, .long x0)]) : W p l e rm_X6_lot s m args below meth c H locs 0 0 Q (F0 m 0 ls []) := by
  obtain ⟨hx, hb, hml, hown, hts⟩ := id hC
  unfold F_X6_lot at hF
  refine lv_lload_n hx hb dX6_lot_0 rfl (lv_at hl 0 rfl) ?_
  refine lv_ldc2 (v := (16807 : Int64)) hx hb hown (hts (.constantLong RX6 222 (16807)) (List.mem_of_getElem? (i := 1) rfl)) dX6_lot_1 ?_
  refine lv_lmul hx hb dX6_lot_4 ?_
  refine lv_ldc2 (v := (2147483647 : Int64)) hx hb hown (hts (.constantLong RX6 224 (2147483647)) (List.mem_of_getElem? (i := 2) rfl)) dX6_lot_5 ?_
  refine lv_lrem hx hb dX6_lot_8 (by decide) ?_
  obtain rfl := hF; exact hE _ _ dX6_lot_9
set_option maxRecDepth 100000 in
set_option maxHeartbeats 4000000 in
theorem c_X6_lot (l : Launch) (dC : Nat → ClassId) (dI : Nat → Nat → Nat) (x0 : Int64) (o : Int64) (hF : F_X6_lot x0 = o) : Met l yX6_lot wsX6_lot rm_X6_lot (va_Pc [.long x0] (PcR dC dI wd_X6_lot [])) (vp_Sl (fun r => r = o)) 0 0 (fun _ => False) := by
  refine Met.ofW (cc := cX6_lot) (maxL := 2) (ret := (some .long)) (by decide) rfl ?_
  intro p e s m args below meth c s₁ B hml hv
  obtain ⟨rfl, hP, hK, hN⟩ := hv
  have hl := lv_entry ([.long x0]) (n := 2) (Nat.le_of_ble_eq_true rfl)
  rw [lg_entry_eq]
  generalize (lg_sl ([.long x0]) ++ List.replicate (2 - (lg_sl ([.long x0])).length) Slot.unset).toArray = ls at hl ⊢
  exact b_X6_lot x0 o hF ⟨B.exec, B.bytes, hml, findClass_of_methodNamed B.named, atoms_spec (ws := wsX6_lot) B.pre⟩ hN hK hP (fun ls pc hd => W.lret B.exec B.bytes B.returns (fun t ht hW => ⟨_, rfl, rfl, ht⟩) (fun q h => by cases h) hd B.notSynchronized) hl
theorem inn_X4_reckon_X4 : ∀ w ∈ wsX40, w ∈ wsX4_reckon := fun _ h => List.mem_cons_of_mem _ (List.mem_append_left _ (List.mem_append_right _ h))
abbrev wd_X4_reckon (h0 h_figures h_follower h_p1 : Nat) (c_figures : ClassId) (v_count : Int32) (v_aheadOfPoint : Int32) (v_worthM : Int32) (v_worthN : Int32) (v_figures : (Nat → Int32)) (v_p1_a : Int32) (v_p1_b : Int32) : va_W := [(h0, .inr (4, [.ref h_figures, .ref h_follower, .int v_count, .int v_aheadOfPoint, .int v_worthM, .int v_worthN])), (h_figures, .inl (c_figures, 60, .inl v_figures)), (h_p1, .inr (0, [.int v_p1_a, .int v_p1_b]))]
abbrev rm_X4_reckon : Room := { frames := 1, cells := 0, slots := 0, locals := 24 }
def F_X4_reckon_69 (x2 : Int64) (x4 : Int64) (v_worthM : Int32) (v_worthN : Int32) : Option (Int32 × Int32 × Int32) := (some ((1 : Int32), x2.toInt32, x4.toInt32))
def F_X4_reckon_8 (v_count : Int32) (v_figures : (Nat → Int32)) (v_p1_a : Int32) (v_p1_b : Int32) : Nat → Int64 → Int64 → Int32 → Int32 → Int32 → Option (Int32 × Int32 × Int32)
  | 0, _, _, _, _, _ => none
  | fu + 1, x2, x4, x6, v_worthM, v_worthN => (if v_count ≤ x6 then (F_X4_reckon_69   x2 x4 v_worthM v_worthN) else (ck x6 60 (if (F_X6_isOutOfBounds ((F_X0_raisedM x4 v_p1_b) + (v_figures x6.toNatClampNeg).toInt64)) = 0 then (if (F_X6_isOutOfBounds (F_X0_raisedN x2 x4 v_p1_a)) = 0 then (F_X4_reckon_8 v_count v_figures v_p1_a v_p1_b fu ((F_X0_raisedM x4 v_p1_b) + (v_figures x6.toNatClampNeg).toInt64) (F_X0_raisedN x2 x4 v_p1_a) (x6 + (1 : Int32)) v_worthM v_worthN) else (some ((0 : Int32), v_worthM, v_worthN))) else (some ((0 : Int32), v_worthM, v_worthN)))))
def F_X4_reckon (v_count : Int32) (v_worthM : Int32) (v_worthN : Int32) (v_figures : (Nat → Int32)) (v_p1_a : Int32) (v_p1_b : Int32) : Option (Int32 × Int32 × Int32) := (F_X4_reckon_8  v_count v_figures v_p1_a v_p1_b 128 (0 : Int64) (0 : Int64) (0 : Int32) v_worthM v_worthN)
set_option maxRecDepth 100000 in
set_option maxHeartbeats 4000000 in
theorem b_X4_reckon {p : Program} {l : Launch} {e : Env} {s : State} {m : MethodId} {args : Array Value} {below : List Frame} {meth : Method} {c : Code} {Q : State → Prop} {dC : Nat → ClassId} {dI : Nat → Nat → Nat} {H : Heap} {locs : List Loc} {ls : Array Slot} {A : Nat → Prop} (h0 h_figures h_follower h_p1 : Nat) (c_figures : ClassId) (v_count : Int32) (v_aheadOfPoint : Int32) (v_worthM : Int32) (v_worthN : Int32) (v_figures : (Nat → Int32)) (v_p1_a : Int32) (v_p1_b : Int32) (ou0 : Int32) (ou1 : Int32) (ou2 : Int32) (hF : F_X4_reckon v_count v_worthM v_worthN v_figures v_p1_a v_p1_b = some (ou0, ou1, ou2)) (hC : CallFix p m c cX4_reckon 9 s args wsX4_reckon RX4) (hN : NW s) (hK : va_K (dC, dI) vwCl [(c_figures, .int)] s) (hP : va_P (dC, dI) vwCl (wd_X4_reckon h0 h_figures h_follower h_p1 c_figures v_count v_aheadOfPoint v_worthM v_worthN v_figures v_p1_a v_p1_b) H) (hA : ∀ q, s.heap.size ≤ q → A q) (hD : va_D A (wd_X4_reckon h0 h_figures h_follower h_p1 c_figures v_count v_aheadOfPoint v_worthM v_worthN v_figures v_p1_a v_p1_b)) (hS : va_S A s.heap H locs) (hE : ∀ (H : Heap) (locs : List Loc) (ls : Array Slot) (pc : Nat), va_P (dC, dI) vwCl (wd_X4_reckon h0 h_figures h_follower h_p1 c_figures v_count v_aheadOfPoint ou1 ou2 v_figures v_p1_a v_p1_b) H → va_S A s.heap H locs → narrow .boolean (.int ou0) = .int ou0 → decode cX4_reckon pc = .ok (.ireturn, 1) → W p l e rm_X4_reckon s m args below meth c H locs 0 0 Q (F0 m pc ls [.int ou0])) (hl : lv_has ls 9 [(0, .ref h0), (1, .ref h_p1)]) : W p l e rm_X4_reckon s m args below meth c H locs 0 0 Q (F0 m 0 ls []) := by
  obtain ⟨hx, hb, hml, hown, hts⟩ := id hC
  have hD0 := hD
  unfold F_X4_reckon at hF
  have k_8 : ∀ (fu_8 : Nat) (x2 : Int64) (x4 : Int64) (x6 : Int32) (v_worthM : Int32) (v_worthN : Int32), F_X4_reckon_8  v_count v_figures v_p1_a v_p1_b fu_8 x2 x4 x6 v_worthM v_worthN = some (ou0, ou1, ou2) → ∀ (H : Heap) (locs : List Loc), va_P (dC, dI) vwCl (wd_X4_reckon h0 h_figures h_follower h_p1 c_figures v_count v_aheadOfPoint v_worthM v_worthN v_figures v_p1_a v_p1_b) H → va_S A s.heap H locs → ∀ ls : Array Slot, lv_has ls 9 [(0, .ref h0), (1, .ref h_p1), (2, .long x2), (4, .long x4), (6, .int x6)] → W p l e rm_X4_reckon s m args below meth c H locs 0 0 Q (F0 m 8 ls []) := by
    intro fu_8
    induction fu_8 with
    | zero => intro x2 x4 x6 v_worthM v_worthN hF; rw [F_X4_reckon_8] at hF; cases hF
    | succ fu_8 ih =>
      intro x2 x4 x6 v_worthM v_worthN hF H locs hP hS ls hl
      rw [F_X4_reckon_8] at hF
      have ih_8 := ih
      have hD : va_D A (wd_X4_reckon h0 h_figures h_follower h_p1 c_figures v_count v_aheadOfPoint v_worthM v_worthN v_figures v_p1_a v_p1_b) := hD0.re rfl
      have k_69 : ∀ (x2 : Int64) (x4 : Int64) (v_worthM : Int32) (v_worthN : Int32), F_X4_reckon_69   x2 x4 v_worthM v_worthN = some (ou0, ou1, ou2) → ∀ (H : Heap) (locs : List Loc), va_P (dC, dI) vwCl (wd_X4_reckon h0 h_figures h_follower h_p1 c_figures v_count v_aheadOfPoint v_worthM v_worthN v_figures v_p1_a v_p1_b) H → va_S A s.heap H locs → ∀ ls : Array Slot, lv_has ls 9 [(0, .ref h0), (2, .long x2), (4, .long x4)] → W p l e rm_X4_reckon s m args below meth c H locs 0 0 Q (F0 m 69 ls []) := by
        intro x2 x4 v_worthM v_worthN hF H locs hP hS ls hl
        rw [F_X4_reckon_69] at hF
        have hD : va_D A (wd_X4_reckon h0 h_figures h_follower h_p1 c_figures v_count v_aheadOfPoint v_worthM v_worthN v_figures v_p1_a v_p1_b) := hD0.re rfl
        refine lv_aload_n hx hb dX4_reckon_69 rfl (lv_at hl 0 rfl) ?_
        refine lv_lload_n hx hb dX4_reckon_70 rfl (lv_at hl 1 rfl) ?_
        refine lv_l2i hx hb dX4_reckon_71 rfl ?_
        refine va_put (D := (dC, dI)) (ty := .int) (ci := 4) (v := .int x2.toInt32) (C := RX4) (T := TX4) (N := 6) hx hb hts inn_X4_reckon_X4 tyX4 tyX4_ok nmX4 hown hK hP hD hS 0 rfl rfl 4 (by decide) (hts (.fieldLink RX4 25 "RingBases$Word" "worthM" "I") (List.mem_of_getElem? (i := 3) rfl)) (fun _ h9 => h9) rfl (by decide +kernel) rfl rfl (Nat.le_of_ble_eq_true rfl) dX4_reckon_72 (fun H locs hP hD hS => ?_)
        have hP : va_P (dC, dI) vwCl (wd_X4_reckon h0 h_figures h_follower h_p1 c_figures v_count v_aheadOfPoint x2.toInt32 v_worthN v_figures v_p1_a v_p1_b) H := hP
        have hD : va_D A (wd_X4_reckon h0 h_figures h_follower h_p1 c_figures v_count v_aheadOfPoint x2.toInt32 v_worthN v_figures v_p1_a v_p1_b) := hD
        refine lv_aload_n hx hb dX4_reckon_75 rfl (lv_at hl 0 rfl) ?_
        refine lv_lload hx hb dX4_reckon_76 (lv_at hl 2 rfl) ?_
        refine lv_l2i hx hb dX4_reckon_78 rfl ?_
        refine va_put (D := (dC, dI)) (ty := .int) (ci := 4) (v := .int x4.toInt32) (C := RX4) (T := TX4) (N := 6) hx hb hts inn_X4_reckon_X4 tyX4 tyX4_ok nmX4 hown hK hP hD hS 0 rfl rfl 5 (by decide) (hts (.fieldLink RX4 28 "RingBases$Word" "worthN" "I") (List.mem_of_getElem? (i := 4) rfl)) (fun _ h9 => h9) rfl (by decide +kernel) rfl rfl (Nat.le_of_ble_eq_true rfl) dX4_reckon_79 (fun H locs hP hD hS => ?_)
        have hP : va_P (dC, dI) vwCl (wd_X4_reckon h0 h_figures h_follower h_p1 c_figures v_count v_aheadOfPoint x2.toInt32 x4.toInt32 v_figures v_p1_a v_p1_b) H := hP
        have hD : va_D A (wd_X4_reckon h0 h_figures h_follower h_p1 c_figures v_count v_aheadOfPoint x2.toInt32 x4.toInt32 v_figures v_p1_a v_p1_b) := hD
        refine lv_iconst (v := (1 : Int32)) hx hb dX4_reckon_82 (by decide) ?_
        obtain ⟨rfl, rfl, rfl⟩ := oks3 hF; exact hE _ _ _ _ hP hS (zk_n (Or.inr rfl)) dX4_reckon_83
      refine lv_iload hx hb dX4_reckon_8 (lv_at hl 4 rfl) ?_
      refine lv_aload_n hx hb dX4_reckon_10 rfl (lv_at hl 0 rfl) ?_
      refine va_get (D := (dC, dI)) (ci := 4) (v := .int v_count) (C := RX4) (T := TX4) (N := 6) hx hb hts inn_X4_reckon_X4 hown hK hP 0 rfl rfl 2 (by decide) (hts (.fieldLink RX4 18 "RingBases$Word" "count" "I") (List.mem_of_getElem? (i := 1) rfl)) (fun _ h9 => h9) rfl dX4_reckon_11 ?_
      refine lv_icmp_ge (tgt := 69) hx hb dX4_reckon_14 (by decide) (fun g_1 => ?_) (fun g_1 => ?_)
      · replace hF := ite_t g_1 hF
        exact k_69 x2 x4 v_worthM v_worthN hF H locs hP hS ls (lv_sub hl [0, 2, 3] rfl)
      · replace hF := ite_f g_1 hF
        refine lv_aload_n hx hb dX4_reckon_17 rfl (lv_at hl 1 rfl) ?_
        refine lv_lload_n hx hb dX4_reckon_18 rfl (lv_at hl 2 rfl) ?_
        refine lv_lload hx hb dX4_reckon_19 (lv_at hl 3 rfl) ?_
        refine rdVl (As := [.long x2, .long x4]) (rest := []) (b := h_p1) hC (c_X0_raisedN l dC dI h_p1 v_p1_a v_p1_b x2 x4 (F_X0_raisedN x2 x4 v_p1_a) rfl) (cwV 2 hts gX4_reckon_X0_raisedN rfl rfl rfl (by decide +kernel) ⟨Nat.le_of_ble_eq_true rfl, Nat.le_of_ble_eq_true rfl⟩) hN (hK.sub (tys' := []) [] rfl) (hP.sub (ws' := (wd_X0_raisedN h_p1 v_p1_a v_p1_b)) [2] rfl) 0 0 rfl rfl rfl rfl hl.1 (Nat.le_of_ble_eq_true rfl) dX4_reckon_21 ⟨Nat.zero_le _, Nat.zero_le _⟩ ?_
        refine lv_lstore (lv' := [(7, .long (F_X0_raisedN x2 x4 v_p1_a)), (0, .ref h0), (1, .ref h_p1), (2, .long x2), (4, .long x4), (6, .int x6)]) hx hb dX4_reckon_24 hl (by decide) rfl (fun ls hl => ?_)
        refine lv_aload_n hx hb dX4_reckon_26 rfl (lv_at hl 2 rfl) ?_
        refine lv_lload hx hb dX4_reckon_27 (lv_at hl 4 rfl) ?_
        refine rdVl (As := [.long x4]) (rest := []) (b := h_p1) hC (c_X0_raisedM l dC dI h_p1 v_p1_a v_p1_b x4 (F_X0_raisedM x4 v_p1_b) rfl) (cwV 1 hts gX4_reckon_X0_raisedM rfl rfl rfl (by decide +kernel) ⟨Nat.le_of_ble_eq_true rfl, Nat.le_of_ble_eq_true rfl⟩) hN (hK.sub (tys' := []) [] rfl) (hP.sub (ws' := (wd_X0_raisedM h_p1 v_p1_a v_p1_b)) [2] rfl) 0 0 rfl rfl rfl rfl hl.1 (Nat.le_of_ble_eq_true rfl) dX4_reckon_29 ⟨Nat.zero_le _, Nat.zero_le _⟩ ?_
        refine lv_aload_n hx hb dX4_reckon_32 rfl (lv_at hl 1 rfl) ?_
        refine va_get (D := (dC, dI)) (ci := 4) (v := .ref h_figures) (C := RX4) (T := TX4) (N := 6) hx hb hts inn_X4_reckon_X4 hown hK hP 0 rfl rfl 0 (by decide) (hts (.fieldLink RX4 9 "RingBases$Word" "figures" "[I") (List.mem_of_getElem? (i := 2) rfl)) (fun _ h9 => h9) rfl dX4_reckon_33 ?_
        refine lv_iload hx hb dX4_reckon_36 (lv_at hl 5 rfl) ?_
        obtain ⟨i_2, hF⟩ := ck_s hF
        refine va_iald hx hb hK hP 1 0 rfl rfl i_2 dX4_reckon_38 ?_
        refine lv_i2l hx hb dX4_reckon_39 rfl ?_
        refine lv_ladd hx hb dX4_reckon_40 ?_
        refine lv_lstore_n (lv' := [(2, .long ((F_X0_raisedM x4 v_p1_b) + (v_figures x6.toNatClampNeg).toInt64)), (7, .long (F_X0_raisedN x2 x4 v_p1_a)), (0, .ref h0), (1, .ref h_p1), (4, .long x4), (6, .int x6)]) hx hb dX4_reckon_41 rfl hl (by decide) rfl (fun ls hl => ?_)
        refine lv_lload hx hb dX4_reckon_42 (lv_at hl 1 rfl) ?_
        refine lv_lstore (lv' := [(4, .long (F_X0_raisedN x2 x4 v_p1_a)), (2, .long ((F_X0_raisedM x4 v_p1_b) + (v_figures x6.toNatClampNeg).toInt64)), (7, .long (F_X0_raisedN x2 x4 v_p1_a)), (0, .ref h0), (1, .ref h_p1), (6, .int x6)]) hx hb dX4_reckon_44 hl (by decide) rfl (fun ls hl => ?_)
        refine lv_lload_n hx hb dX4_reckon_46 rfl (lv_at hl 1 rfl) ?_
        refine rdNi (As := [.long ((F_X0_raisedM x4 v_p1_b) + (v_figures x6.toNatClampNeg).toInt64)]) (rest := []) hC (c_X6_isOutOfBounds l dC dI  ((F_X0_raisedM x4 v_p1_b) + (v_figures x6.toNatClampNeg).toInt64) (F_X6_isOutOfBounds ((F_X0_raisedM x4 v_p1_b) + (v_figures x6.toNatClampNeg).toInt64)) rfl) ⟨va_cnB 1 hts gX4_reckon_X6_isOutOfBounds_n65 rfl rfl rfl (hN _ (List.mem_of_getElem? (i := 27) rfl)) (hts (.initialized RX6) (List.mem_of_getElem? (i := 17) rfl)) (by decide +kernel) ⟨Nat.le_of_ble_eq_true rfl, Nat.le_of_ble_eq_true rfl⟩, (hts (.static yX6_isOutOfBounds) (List.mem_of_getElem? (i := 16) rfl)), trivial⟩ hN (hK.sub (tys' := []) [] rfl) (hP.sub (ws' := wd_X6_isOutOfBounds) [] rfl) rfl rfl hl.1 (Nat.le_of_ble_eq_true rfl) dX4_reckon_47 ⟨Nat.zero_le _, Nat.zero_le _⟩ ?_
        refine lv_if_ne (tgt := 61) hx hb dX4_reckon_50 (by decide) (fun g_3 => ?_) (fun g_3 => ?_)
        · replace hF := ite_f g_3 hF
          refine lv_iconst (v := (0 : Int32)) hx hb dX4_reckon_61 (by decide) ?_
          obtain ⟨rfl, rfl, rfl⟩ := oks3 hF; exact hE _ _ _ _ hP hS (zk_n (Or.inl rfl)) dX4_reckon_62
        · replace hF := ite_t g_3 hF
          refine lv_lload hx hb dX4_reckon_53 (lv_at hl 0 rfl) ?_
          refine rdNi (As := [.long (F_X0_raisedN x2 x4 v_p1_a)]) (rest := []) hC (c_X6_isOutOfBounds l dC dI  (F_X0_raisedN x2 x4 v_p1_a) (F_X6_isOutOfBounds (F_X0_raisedN x2 x4 v_p1_a)) rfl) ⟨va_cnB 1 hts gX4_reckon_X6_isOutOfBounds_n65 rfl rfl rfl (hN _ (List.mem_of_getElem? (i := 27) rfl)) (hts (.initialized RX6) (List.mem_of_getElem? (i := 17) rfl)) (by decide +kernel) ⟨Nat.le_of_ble_eq_true rfl, Nat.le_of_ble_eq_true rfl⟩, (hts (.static yX6_isOutOfBounds) (List.mem_of_getElem? (i := 16) rfl)), trivial⟩ hN (hK.sub (tys' := []) [] rfl) (hP.sub (ws' := wd_X6_isOutOfBounds) [] rfl) rfl rfl hl.1 (Nat.le_of_ble_eq_true rfl) dX4_reckon_55 ⟨Nat.zero_le _, Nat.zero_le _⟩ ?_
          refine lv_if_eq (tgt := 63) hx hb dX4_reckon_58 (by decide) (fun g_4 => ?_) (fun g_4 => ?_)
          · replace hF := ite_t g_4 hF
            refine lv_iinc (v := (x6 + (1 : Int32))) (lv' := [(6, .int (x6 + (1 : Int32))), (4, .long (F_X0_raisedN x2 x4 v_p1_a)), (2, .long ((F_X0_raisedM x4 v_p1_b) + (v_figures x6.toNatClampNeg).toInt64)), (7, .long (F_X0_raisedN x2 x4 v_p1_a)), (0, .ref h0), (1, .ref h_p1)]) hx hb dX4_reckon_63 hl (k := 5) rfl rfl (by decide) rfl (fun ls hl => ?_)
            refine lv_goto (tgt := 8) hx hb dX4_reckon_66 (by decide) ?_
            exact ih ((F_X0_raisedM x4 v_p1_b) + (v_figures x6.toNatClampNeg).toInt64) (F_X0_raisedN x2 x4 v_p1_a) (x6 + (1 : Int32)) v_worthM v_worthN hF H locs hP hS ls (lv_sub hl [4, 5, 2, 1, 0] rfl)
          · replace hF := ite_f g_4 hF
            refine lv_iconst (v := (0 : Int32)) hx hb dX4_reckon_61 (by decide) ?_
            obtain ⟨rfl, rfl, rfl⟩ := oks3 hF; exact hE _ _ _ _ hP hS (zk_n (Or.inl rfl)) dX4_reckon_62
  refine lv_lconst (v := (0 : Int64)) hx hb dX4_reckon_0 (by decide) ?_
  refine lv_lstore_n (lv' := [(2, .long (0 : Int64)), (0, .ref h0), (1, .ref h_p1)]) hx hb dX4_reckon_1 rfl hl (by decide) rfl (fun ls hl => ?_)
  refine lv_lconst (v := (0 : Int64)) hx hb dX4_reckon_2 (by decide) ?_
  refine lv_lstore (lv' := [(4, .long (0 : Int64)), (2, .long (0 : Int64)), (0, .ref h0), (1, .ref h_p1)]) hx hb dX4_reckon_3 hl (by decide) rfl (fun ls hl => ?_)
  refine lv_iconst (v := (0 : Int32)) hx hb dX4_reckon_5 (by decide) ?_
  refine lv_istore (lv' := [(6, .int (0 : Int32)), (4, .long (0 : Int64)), (2, .long (0 : Int64)), (0, .ref h0), (1, .ref h_p1)]) hx hb dX4_reckon_6 hl (by decide) rfl (fun ls hl => ?_)
  exact k_8 _ (0 : Int64) (0 : Int64) (0 : Int32) v_worthM v_worthN hF H locs hP hS ls (lv_sub hl [3, 4, 2, 1, 0] rfl)
set_option maxRecDepth 100000 in
set_option maxHeartbeats 4000000 in
theorem c_X4_reckon (l : Launch) (dC : Nat → ClassId) (dI : Nat → Nat → Nat) (sz : Nat) (h0 h_figures h_follower h_p1 : Nat) (c_figures : ClassId) (v_count : Int32) (v_aheadOfPoint : Int32) (v_worthM : Int32) (v_worthN : Int32) (v_figures : (Nat → Int32)) (v_p1_a : Int32) (v_p1_b : Int32) (o : Int32 × Int32 × Int32) (hF : F_X4_reckon v_count v_worthM v_worthN v_figures v_p1_a v_p1_b = some o) : Met l yX4_reckon wsX4_reckon rm_X4_reckon (va_Pc [.ref h0, .ref h_p1] (PcW dC dI sz (wd_X4_reckon h0 h_figures h_follower h_p1 c_figures v_count v_aheadOfPoint v_worthM v_worthN v_figures v_p1_a v_p1_b) [(c_figures, .int)])) (va_Qi (fun (r : Int32) (_ : Unit) => r = o.1) (fun _ t => va_P (dC, dI) vwCl (wd_X4_reckon h0 h_figures h_follower h_p1 c_figures v_count v_aheadOfPoint o.2.1 o.2.2 v_figures v_p1_a v_p1_b) t.heap) (va_A (wd_X4_reckon h0 h_figures h_follower h_p1 c_figures v_count v_aheadOfPoint v_worthM v_worthN v_figures v_p1_a v_p1_b) sz)) 0 0 (va_A (wd_X4_reckon h0 h_figures h_follower h_p1 c_figures v_count v_aheadOfPoint v_worthM v_worthN v_figures v_p1_a v_p1_b) sz) := by
  refine Met.ofW (cc := cX4_reckon) (maxL := 9) (ret := (some .boolean)) (by decide) rfl ?_
  intro p e s m args below meth c s₁ B hml hv
  obtain ⟨rfl, hsz, hP, hK, hD0, hN⟩ := hv
  subst hsz
  have hl := lv_entry ([.ref h0, .ref h_p1]) (n := 9) (Nat.le_of_ble_eq_true rfl)
  rw [lg_entry_eq]
  generalize (lg_sl ([.ref h0, .ref h_p1]) ++ List.replicate (9 - (lg_sl ([.ref h0, .ref h_p1])).length) Slot.unset).toArray = ls at hl ⊢
  exact b_X4_reckon h0 h_figures h_follower h_p1 c_figures v_count v_aheadOfPoint v_worthM v_worthN v_figures v_p1_a v_p1_b o.1 o.2.1 o.2.2 hF ⟨B.exec, B.bytes, hml, findClass_of_methodNamed B.named, atoms_spec (ws := wsX4_reckon) B.pre⟩ hN hK hP (fun q h => Or.inr h) (hD0.self (sz := s.heap.size)) va_S.rf (fun H locs ls pc hP hS hn hd => W.zret B.exec B.bytes B.returns hn (fun t ht hW => ⟨⟨_, (), rfl, rfl, by show va_P (dC, dI) vwCl _ t.heap; rw [ht]; exact hP⟩, hS.F ht⟩) hS.2.2 hd B.notSynchronized) hl
theorem inn_X5_figureCount_X5 : ∀ w ∈ wsX50, w ∈ wsX5_figureCount := fun _ h => List.mem_cons_of_mem _ (List.mem_append_right _ h)
abbrev wd_X5_figureCount (h0 h_figures h_powerMs h_powerNs h_restMs h_restNs : Nat) (v_ahead : Int32) (v_behind : Int32) (v_ends : Int32) (v_lead : Int32) (v_round : Int32) (v_leftM : Int64) (v_leftN : Int64) (v_ofA : Int32) (v_ofB : Int32) (v_ofM : Int32) (v_ofN : Int32) : va_W := [(h0, .inr (5, [.ref h_figures, .int v_ahead, .int v_behind, .int v_ends, .int v_lead, .int v_round, .ref h_powerMs, .ref h_powerNs, .ref h_restMs, .ref h_restNs, .long v_leftM, .long v_leftN, .int v_ofA, .int v_ofB, .int v_ofM, .int v_ofN]))]
abbrev rm_X5_figureCount : Room := { frames := 0, cells := 0, slots := 0, locals := 0 }
def F_X5_figureCount (v_ahead : Int32) (v_behind : Int32) : Int32 := (v_ahead + v_behind)
set_option maxRecDepth 100000 in
set_option maxHeartbeats 4000000 in
theorem b_X5_figureCount {p : Program} {l : Launch} {e : Env} {s : State} {m : MethodId} {args : Array Value} {below : List Frame} {meth : Method} {c : Code} {Q : State → Prop} {dC : Nat → ClassId} {dI : Nat → Nat → Nat} {H : Heap} {locs : List Loc} {ls : Array Slot} (h0 h_figures h_powerMs h_powerNs h_restMs h_restNs : Nat) (v_ahead : Int32) (v_behind : Int32) (v_ends : Int32) (v_lead : Int32) (v_round : Int32) (v_leftM : Int64) (v_leftN : Int64) (v_ofA : Int32) (v_ofB : Int32) (v_ofM : Int32) (v_ofN : Int32) (ou0 : Int32) (hF : F_X5_figureCount v_ahead v_behind = ou0) (hC : CallFix p m c cX5_figureCount 1 s args wsX5_figureCount RX5) (hN : NW s) (hK : va_K (dC, dI) vwCl [] s) (hP : va_P (dC, dI) vwCl (wd_X5_figureCount h0 h_figures h_powerMs h_powerNs h_restMs h_restNs v_ahead v_behind v_ends v_lead v_round v_leftM v_leftN v_ofA v_ofB v_ofM v_ofN) H) (hE : ∀ (ls : Array Slot) (pc : Nat), decode cX5_figureCount pc = .ok (.ireturn, 1) → W p l e rm_X5_figureCount s m args below meth c H locs 0 0 Q (F0 m pc ls [.int ou0])) (hl : lv_has ls 1 [(0, .ref h0)]) : W p l e rm_X5_figureCount s m args below meth c H locs 0 0 Q (F0 m 0 ls []) := by
  obtain ⟨hx, hb, hml, hown, hts⟩ := id hC
  unfold F_X5_figureCount at hF
  refine lv_aload_n hx hb dX5_figureCount_0 rfl (lv_at hl 0 rfl) ?_
  refine va_get (D := (dC, dI)) (ci := 5) (v := .int v_ahead) (C := RX5) (T := TX5) (N := 16) hx hb hts inn_X5_figureCount_X5 hown hK hP 0 rfl rfl 1 (by decide) (hts (.fieldLink RX5 15 "RingBases$Writing" "ahead" "I") (List.mem_of_getElem? (i := 1) rfl)) (fun _ h9 => h9) rfl dX5_figureCount_1 ?_
  refine lv_aload_n hx hb dX5_figureCount_4 rfl (lv_at hl 0 rfl) ?_
  refine va_get (D := (dC, dI)) (ci := 5) (v := .int v_behind) (C := RX5) (T := TX5) (N := 16) hx hb hts inn_X5_figureCount_X5 hown hK hP 0 rfl rfl 2 (by decide) (hts (.fieldLink RX5 19 "RingBases$Writing" "behind" "I") (List.mem_of_getElem? (i := 2) rfl)) (fun _ h9 => h9) rfl dX5_figureCount_5 ?_
  refine lv_iadd hx hb dX5_figureCount_8 ?_
  obtain rfl := hF; exact hE _ _ dX5_figureCount_9
set_option maxRecDepth 100000 in
set_option maxHeartbeats 4000000 in
theorem c_X5_figureCount (l : Launch) (dC : Nat → ClassId) (dI : Nat → Nat → Nat) (h0 h_figures h_powerMs h_powerNs h_restMs h_restNs : Nat) (v_ahead : Int32) (v_behind : Int32) (v_ends : Int32) (v_lead : Int32) (v_round : Int32) (v_leftM : Int64) (v_leftN : Int64) (v_ofA : Int32) (v_ofB : Int32) (v_ofM : Int32) (v_ofN : Int32) (o : Int32) (hF : F_X5_figureCount v_ahead v_behind = o) : Met l yX5_figureCount wsX5_figureCount rm_X5_figureCount (va_Pc [.ref h0] (PcR dC dI (wd_X5_figureCount h0 h_figures h_powerMs h_powerNs h_restMs h_restNs v_ahead v_behind v_ends v_lead v_round v_leftM v_leftN v_ofA v_ofB v_ofM v_ofN) [])) (vp_Si (fun r => r = o)) 0 0 (fun _ => False) := by
  refine Met.ofW (cc := cX5_figureCount) (maxL := 1) (ret := (some .int)) (by decide) rfl ?_
  intro p e s m args below meth c s₁ B hml hv
  obtain ⟨rfl, hP, hK, hN⟩ := hv
  have hl := lv_entry ([.ref h0]) (n := 1) (Nat.le_of_ble_eq_true rfl)
  rw [lg_entry_eq]
  generalize (lg_sl ([.ref h0]) ++ List.replicate (1 - (lg_sl ([.ref h0])).length) Slot.unset).toArray = ls at hl ⊢
  exact b_X5_figureCount h0 h_figures h_powerMs h_powerNs h_restMs h_restNs v_ahead v_behind v_ends v_lead v_round v_leftM v_leftN v_ofA v_ofB v_ofM v_ofN o hF ⟨B.exec, B.bytes, hml, findClass_of_methodNamed B.named, atoms_spec (ws := wsX5_figureCount) B.pre⟩ hN hK hP (fun ls pc hd => W.iret B.exec B.bytes B.returns (fun t ht hW => ⟨_, rfl, rfl, ht⟩) (fun q h => by cases h) hd B.notSynchronized) hl
theorem inn_X4_hasPoint_X4 : ∀ w ∈ wsX40, w ∈ wsX4_hasPoint := fun _ h => List.mem_cons_of_mem _ (List.mem_append_right _ h)
abbrev wd_X4_hasPoint (h0 h_figures h_follower : Nat) (v_count : Int32) (v_aheadOfPoint : Int32) (v_worthM : Int32) (v_worthN : Int32) : va_W := [(h0, .inr (4, [.ref h_figures, .ref h_follower, .int v_count, .int v_aheadOfPoint, .int v_worthM, .int v_worthN]))]
abbrev rm_X4_hasPoint : Room := { frames := 0, cells := 0, slots := 0, locals := 0 }
def F_X4_hasPoint (v_aheadOfPoint : Int32) : Int32 := (if v_aheadOfPoint = (-1 : Int32) then (0 : Int32) else (1 : Int32))
theorem B_X4_hasPoint (v_aheadOfPoint : Int32) : narrow .boolean (.int (F_X4_hasPoint v_aheadOfPoint)) = .int (F_X4_hasPoint v_aheadOfPoint) := by
  unfold F_X4_hasPoint
  repeat' split
  all_goals first | rfl | exact B_X7_in _ _ _
set_option maxRecDepth 100000 in
set_option maxHeartbeats 4000000 in
theorem b_X4_hasPoint {p : Program} {l : Launch} {e : Env} {s : State} {m : MethodId} {args : Array Value} {below : List Frame} {meth : Method} {c : Code} {Q : State → Prop} {dC : Nat → ClassId} {dI : Nat → Nat → Nat} {H : Heap} {locs : List Loc} {ls : Array Slot} (h0 h_figures h_follower : Nat) (v_count : Int32) (v_aheadOfPoint : Int32) (v_worthM : Int32) (v_worthN : Int32) (ou0 : Int32) (hF : F_X4_hasPoint v_aheadOfPoint = ou0) (hC : CallFix p m c cX4_hasPoint 1 s args wsX4_hasPoint RX4) (hN : NW s) (hK : va_K (dC, dI) vwCl [] s) (hP : va_P (dC, dI) vwCl (wd_X4_hasPoint h0 h_figures h_follower v_count v_aheadOfPoint v_worthM v_worthN) H) (hE : ∀ (ls : Array Slot) (pc : Nat), narrow .boolean (.int ou0) = .int ou0 → decode cX4_hasPoint pc = .ok (.ireturn, 1) → W p l e rm_X4_hasPoint s m args below meth c H locs 0 0 Q (F0 m pc ls [.int ou0])) (hl : lv_has ls 1 [(0, .ref h0)]) : W p l e rm_X4_hasPoint s m args below meth c H locs 0 0 Q (F0 m 0 ls []) := by
  obtain ⟨hx, hb, hml, hown, hts⟩ := id hC
  unfold F_X4_hasPoint at hF
  refine lv_aload_n hx hb dX4_hasPoint_0 rfl (lv_at hl 0 rfl) ?_
  refine va_get (D := (dC, dI)) (ci := 4) (v := .int v_aheadOfPoint) (C := RX4) (T := TX4) (N := 6) hx hb hts inn_X4_hasPoint_X4 hown hK hP 0 rfl rfl 3 (by decide) (hts (.fieldLink RX4 22 "RingBases$Word" "aheadOfPoint" "I") (List.mem_of_getElem? (i := 1) rfl)) (fun _ h9 => h9) rfl dX4_hasPoint_1 ?_
  refine lv_iconst (v := (-1 : Int32)) hx hb dX4_hasPoint_4 (by decide) ?_
  refine lv_icmp_eq (tgt := 12) hx hb dX4_hasPoint_5 (by decide) (fun g_1 => ?_) (fun g_1 => ?_)
  · replace hF := ite_t g_1 hF
    refine lv_iconst (v := (0 : Int32)) hx hb dX4_hasPoint_12 (by decide) ?_
    obtain rfl := hF; exact hE _ _ (zk_n (Or.inl rfl)) dX4_hasPoint_13
  · replace hF := ite_f g_1 hF
    refine lv_iconst (v := (1 : Int32)) hx hb dX4_hasPoint_8 (by decide) ?_
    refine lv_goto (tgt := 13) hx hb dX4_hasPoint_9 (by decide) ?_
    obtain rfl := hF; exact hE _ _ (zk_n (Or.inr rfl)) dX4_hasPoint_13
set_option maxRecDepth 100000 in
set_option maxHeartbeats 4000000 in
theorem c_X4_hasPoint (l : Launch) (dC : Nat → ClassId) (dI : Nat → Nat → Nat) (h0 h_figures h_follower : Nat) (v_count : Int32) (v_aheadOfPoint : Int32) (v_worthM : Int32) (v_worthN : Int32) (o : Int32) (hF : F_X4_hasPoint v_aheadOfPoint = o) : Met l yX4_hasPoint wsX4_hasPoint rm_X4_hasPoint (va_Pc [.ref h0] (PcR dC dI (wd_X4_hasPoint h0 h_figures h_follower v_count v_aheadOfPoint v_worthM v_worthN) [])) (vp_Si (fun r => r = o)) 0 0 (fun _ => False) := by
  refine Met.ofW (cc := cX4_hasPoint) (maxL := 1) (ret := (some .boolean)) (by decide) rfl ?_
  intro p e s m args below meth c s₁ B hml hv
  obtain ⟨rfl, hP, hK, hN⟩ := hv
  have hl := lv_entry ([.ref h0]) (n := 1) (Nat.le_of_ble_eq_true rfl)
  rw [lg_entry_eq]
  generalize (lg_sl ([.ref h0]) ++ List.replicate (1 - (lg_sl ([.ref h0])).length) Slot.unset).toArray = ls at hl ⊢
  exact b_X4_hasPoint h0 h_figures h_follower v_count v_aheadOfPoint v_worthM v_worthN o hF ⟨B.exec, B.bytes, hml, findClass_of_methodNamed B.named, atoms_spec (ws := wsX4_hasPoint) B.pre⟩ hN hK hP (fun ls pc hn hd => W.zret B.exec B.bytes B.returns hn (fun t ht hW => ⟨_, rfl, rfl, ht⟩) (fun q h => by cases h) hd B.notSynchronized) hl
theorem inn_X4_shift_X4 : ∀ w ∈ wsX40, w ∈ wsX4_shift := fun _ h => List.mem_cons_of_mem _ (List.mem_append_right _ h)
abbrev wd_X4_shift (h0 h_figures h_follower : Nat) (v_count : Int32) (v_aheadOfPoint : Int32) (v_worthM : Int32) (v_worthN : Int32) : va_W := [(h0, .inr (4, [.ref h_figures, .ref h_follower, .int v_count, .int v_aheadOfPoint, .int v_worthM, .int v_worthN]))]
abbrev rm_X4_shift : Room := { frames := 1, cells := 0, slots := 0, locals := 20 }
def F_X4_shift (v_count : Int32) (v_aheadOfPoint : Int32) : Int32 := (if (F_X4_hasPoint v_aheadOfPoint) = 0 then (0 : Int32) else (v_count - v_aheadOfPoint))
set_option maxRecDepth 100000 in
set_option maxHeartbeats 4000000 in
theorem b_X4_shift {p : Program} {l : Launch} {e : Env} {s : State} {m : MethodId} {args : Array Value} {below : List Frame} {meth : Method} {c : Code} {Q : State → Prop} {dC : Nat → ClassId} {dI : Nat → Nat → Nat} {H : Heap} {locs : List Loc} {ls : Array Slot} (h0 h_figures h_follower : Nat) (v_count : Int32) (v_aheadOfPoint : Int32) (v_worthM : Int32) (v_worthN : Int32) (ou0 : Int32) (hF : F_X4_shift v_count v_aheadOfPoint = ou0) (hC : CallFix p m c cX4_shift 1 s args wsX4_shift RX4) (hN : NW s) (hK : va_K (dC, dI) vwCl [] s) (hP : va_P (dC, dI) vwCl (wd_X4_shift h0 h_figures h_follower v_count v_aheadOfPoint v_worthM v_worthN) H) (hE : ∀ (ls : Array Slot) (pc : Nat), decode cX4_shift pc = .ok (.ireturn, 1) → W p l e rm_X4_shift s m args below meth c H locs 0 0 Q (F0 m pc ls [.int ou0])) (hl : lv_has ls 1 [(0, .ref h0)]) : W p l e rm_X4_shift s m args below meth c H locs 0 0 Q (F0 m 0 ls []) := by
  obtain ⟨hx, hb, hml, hown, hts⟩ := id hC
  unfold F_X4_shift at hF
  refine lv_aload_n hx hb dX4_shift_0 rfl (lv_at hl 0 rfl) ?_
  refine rdVi (As := []) (rest := []) (b := h0) hC (c_X4_hasPoint l dC dI h0 h_figures h_follower v_count v_aheadOfPoint v_worthM v_worthN  (F_X4_hasPoint v_aheadOfPoint) rfl) (cwV 0 hts gX4_shift_X4_hasPoint rfl rfl rfl (by decide +kernel) ⟨Nat.le_of_ble_eq_true rfl, Nat.le_of_ble_eq_true rfl⟩) hN (hK.sub (tys' := []) [] rfl) (hP.sub (ws' := (wd_X4_hasPoint h0 h_figures h_follower v_count v_aheadOfPoint v_worthM v_worthN)) [0] rfl) 0 4 rfl rfl rfl rfl hl.1 (Nat.le_of_ble_eq_true rfl) dX4_shift_1 ⟨Nat.zero_le _, Nat.zero_le _⟩ ?_
  refine lv_if_eq (tgt := 19) hx hb dX4_shift_4 (by decide) (fun g_1 => ?_) (fun g_1 => ?_)
  · replace hF := ite_t g_1 hF
    refine lv_iconst (v := (0 : Int32)) hx hb dX4_shift_19 (by decide) ?_
    obtain rfl := hF; exact hE _ _ dX4_shift_20
  · replace hF := ite_f g_1 hF
    refine lv_aload_n hx hb dX4_shift_7 rfl (lv_at hl 0 rfl) ?_
    refine va_get (D := (dC, dI)) (ci := 4) (v := .int v_count) (C := RX4) (T := TX4) (N := 6) hx hb hts inn_X4_shift_X4 hown hK hP 0 rfl rfl 2 (by decide) (hts (.fieldLink RX4 18 "RingBases$Word" "count" "I") (List.mem_of_getElem? (i := 1) rfl)) (fun _ h9 => h9) rfl dX4_shift_8 ?_
    refine lv_aload_n hx hb dX4_shift_11 rfl (lv_at hl 0 rfl) ?_
    refine va_get (D := (dC, dI)) (ci := 4) (v := .int v_aheadOfPoint) (C := RX4) (T := TX4) (N := 6) hx hb hts inn_X4_shift_X4 hown hK hP 0 rfl rfl 3 (by decide) (hts (.fieldLink RX4 22 "RingBases$Word" "aheadOfPoint" "I") (List.mem_of_getElem? (i := 2) rfl)) (fun _ h9 => h9) rfl dX4_shift_12 ?_
    refine lv_isub hx hb dX4_shift_15 ?_
    refine lv_goto (tgt := 20) hx hb dX4_shift_16 (by decide) ?_
    obtain rfl := hF; exact hE _ _ dX4_shift_20
set_option maxRecDepth 100000 in
set_option maxHeartbeats 4000000 in
theorem c_X4_shift (l : Launch) (dC : Nat → ClassId) (dI : Nat → Nat → Nat) (h0 h_figures h_follower : Nat) (v_count : Int32) (v_aheadOfPoint : Int32) (v_worthM : Int32) (v_worthN : Int32) (o : Int32) (hF : F_X4_shift v_count v_aheadOfPoint = o) : Met l yX4_shift wsX4_shift rm_X4_shift (va_Pc [.ref h0] (PcR dC dI (wd_X4_shift h0 h_figures h_follower v_count v_aheadOfPoint v_worthM v_worthN) [])) (vp_Si (fun r => r = o)) 0 0 (fun _ => False) := by
  refine Met.ofW (cc := cX4_shift) (maxL := 1) (ret := (some .int)) (by decide) rfl ?_
  intro p e s m args below meth c s₁ B hml hv
  obtain ⟨rfl, hP, hK, hN⟩ := hv
  have hl := lv_entry ([.ref h0]) (n := 1) (Nat.le_of_ble_eq_true rfl)
  rw [lg_entry_eq]
  generalize (lg_sl ([.ref h0]) ++ List.replicate (1 - (lg_sl ([.ref h0])).length) Slot.unset).toArray = ls at hl ⊢
  exact b_X4_shift h0 h_figures h_follower v_count v_aheadOfPoint v_worthM v_worthN o hF ⟨B.exec, B.bytes, hml, findClass_of_methodNamed B.named, atoms_spec (ws := wsX4_shift) B.pre⟩ hN hK hP (fun ls pc hd => W.iret B.exec B.bytes B.returns (fun t ht hW => ⟨_, rfl, rfl, ht⟩) (fun q h => by cases h) hd B.notSynchronized) hl
abbrev wd_X4_isLessThanOne (h_p0 h_p3 : Nat) (c_p0 : ClassId) (n_p0 : Nat) (v_p0 : (Nat → Int32)) (v_p3_a : Int32) (v_p3_b : Int32) : va_W := [(h_p0, .inl (c_p0, n_p0, .inl v_p0)), (h_p3, .inr (0, [.int v_p3_a, .int v_p3_b]))]
abbrev rm_X4_isLessThanOne : Room := { frames := 1, cells := 0, slots := 0, locals := 21 }
def F_X4_isLessThanOne_28 (n_p0 : Nat) (v_p0 : (Nat → Int32)) (x4 : Int32) (x5 : Int32) : Option (Int32) := (ck x4 n_p0 (if x5 ≤ (v_p0 x4.toNatClampNeg) then (some (0 : Int32)) else (some (1 : Int32))))
def F_X4_isLessThanOne_3 (x1 : Int32) (x2 : Int32) (n_p0 : Nat) (v_p0 : (Nat → Int32)) (v_p3_a : Int32) (v_p3_b : Int32) : Nat → Int32 → Option (Int32)
  | 0, _ => none
  | fu + 1, x4 => (if x2 ≤ x4 then (some (1 : Int32)) else (ck x4 n_p0 (if (v_p0 x4.toNatClampNeg) = (F_X0_figureOfOne (x4 - x1) v_p3_a v_p3_b) then (F_X4_isLessThanOne_3 x1 x2 n_p0 v_p0 v_p3_a v_p3_b fu (x4 + (1 : Int32))) else (F_X4_isLessThanOne_28  n_p0 v_p0 x4 (F_X0_figureOfOne (x4 - x1) v_p3_a v_p3_b)))))
def F_X4_isLessThanOne (x1 : Int32) (x2 : Int32) (n_p0 : Nat) (v_p0 : (Nat → Int32)) (v_p3_a : Int32) (v_p3_b : Int32) : Option (Int32) := (F_X4_isLessThanOne_3  x1 x2 n_p0 v_p0 v_p3_a v_p3_b 128 x1)
set_option maxRecDepth 100000 in
set_option maxHeartbeats 4000000 in
theorem b_X4_isLessThanOne {p : Program} {l : Launch} {e : Env} {s : State} {m : MethodId} {args : Array Value} {below : List Frame} {meth : Method} {c : Code} {Q : State → Prop} {dC : Nat → ClassId} {dI : Nat → Nat → Nat} {H : Heap} {locs : List Loc} {ls : Array Slot} (h_p0 h_p3 : Nat) (c_p0 : ClassId) (n_p0 : Nat) (v_p0 : (Nat → Int32)) (v_p3_a : Int32) (v_p3_b : Int32) (x1 : Int32) (x2 : Int32) (ou0 : Int32) (hF : F_X4_isLessThanOne x1 x2 n_p0 v_p0 v_p3_a v_p3_b = some ou0) (hC : CallFix p m c cX4_isLessThanOne 6 s args wsX4_isLessThanOne RX4) (hN : NW s) (hK : va_K (dC, dI) vwCl [(c_p0, .int)] s) (hP : va_P (dC, dI) vwCl (wd_X4_isLessThanOne h_p0 h_p3 c_p0 n_p0 v_p0 v_p3_a v_p3_b) H) (hE : ∀ (ls : Array Slot) (pc : Nat), narrow .boolean (.int ou0) = .int ou0 → decode cX4_isLessThanOne pc = .ok (.ireturn, 1) → W p l e rm_X4_isLessThanOne s m args below meth c H locs 0 0 Q (F0 m pc ls [.int ou0])) (hl : lv_has ls 6 [(0, .ref h_p0), (1, .int x1), (2, .int x2), (3, .ref h_p3)]) : W p l e rm_X4_isLessThanOne s m args below meth c H locs 0 0 Q (F0 m 0 ls []) := by
  obtain ⟨hx, hb, hml, hown, hts⟩ := id hC
  unfold F_X4_isLessThanOne at hF
  have k_3 : ∀ (fu_3 : Nat) (x4 : Int32), F_X4_isLessThanOne_3  x1 x2 n_p0 v_p0 v_p3_a v_p3_b fu_3 x4 = some ou0 → ∀ ls : Array Slot, lv_has ls 6 [(0, .ref h_p0), (1, .int x1), (2, .int x2), (3, .ref h_p3), (4, .int x4)] → W p l e rm_X4_isLessThanOne s m args below meth c H locs 0 0 Q (F0 m 3 ls []) := by
    intro fu_3
    induction fu_3 with
    | zero => intro x4 hF; rw [F_X4_isLessThanOne_3] at hF; cases hF
    | succ fu_3 ih =>
      intro x4 hF ls hl
      rw [F_X4_isLessThanOne_3] at hF
      have ih_3 := ih
      have k_28 : ∀ (x4 : Int32) (x5 : Int32), F_X4_isLessThanOne_28  n_p0 v_p0 x4 x5 = some ou0 → ∀ ls : Array Slot, lv_has ls 6 [(0, .ref h_p0), (4, .int x4), (5, .int x5)] → W p l e rm_X4_isLessThanOne s m args below meth c H locs 0 0 Q (F0 m 28 ls []) := by
        intro x4 x5 hF ls hl
        rw [F_X4_isLessThanOne_28] at hF
        refine lv_aload_n hx hb dX4_isLessThanOne_28 rfl (lv_at hl 0 rfl) ?_
        refine lv_iload hx hb dX4_isLessThanOne_29 (lv_at hl 1 rfl) ?_
        obtain ⟨i_1, hF⟩ := ck_s hF
        refine va_iald hx hb hK hP 0 0 rfl rfl i_1 dX4_isLessThanOne_31 ?_
        refine lv_iload hx hb dX4_isLessThanOne_32 (lv_at hl 2 rfl) ?_
        refine lv_icmp_ge (tgt := 41) hx hb dX4_isLessThanOne_34 (by decide) (fun g_2 => ?_) (fun g_2 => ?_)
        · replace hF := ite_t g_2 hF
          refine lv_iconst (v := (0 : Int32)) hx hb dX4_isLessThanOne_41 (by decide) ?_
          obtain rfl := Option.some.inj hF; exact hE _ _ (zk_n (Or.inl rfl)) dX4_isLessThanOne_42
        · replace hF := ite_f g_2 hF
          refine lv_iconst (v := (1 : Int32)) hx hb dX4_isLessThanOne_37 (by decide) ?_
          refine lv_goto (tgt := 42) hx hb dX4_isLessThanOne_38 (by decide) ?_
          obtain rfl := Option.some.inj hF; exact hE _ _ (zk_n (Or.inr rfl)) dX4_isLessThanOne_42
      refine lv_iload hx hb dX4_isLessThanOne_3 (lv_at hl 4 rfl) ?_
      refine lv_iload_n hx hb dX4_isLessThanOne_5 rfl (lv_at hl 2 rfl) ?_
      refine lv_icmp_ge (tgt := 49) hx hb dX4_isLessThanOne_6 (by decide) (fun g_3 => ?_) (fun g_3 => ?_)
      · replace hF := ite_t g_3 hF
        refine lv_iconst (v := (1 : Int32)) hx hb dX4_isLessThanOne_49 (by decide) ?_
        obtain rfl := Option.some.inj hF; exact hE _ _ (zk_n (Or.inr rfl)) dX4_isLessThanOne_50
      · replace hF := ite_f g_3 hF
        refine lv_aload_n hx hb dX4_isLessThanOne_9 rfl (lv_at hl 3 rfl) ?_
        refine lv_iload hx hb dX4_isLessThanOne_10 (lv_at hl 4 rfl) ?_
        refine lv_iload_n hx hb dX4_isLessThanOne_12 rfl (lv_at hl 1 rfl) ?_
        refine lv_isub hx hb dX4_isLessThanOne_13 ?_
        refine rdVi (As := [.int (x4 - x1)]) (rest := []) (b := h_p3) hC (c_X0_figureOfOne l dC dI h_p3 v_p3_a v_p3_b (x4 - x1) (F_X0_figureOfOne (x4 - x1) v_p3_a v_p3_b) rfl) (cwV 1 hts gX4_isLessThanOne_X0_figureOfOne rfl rfl rfl (by decide +kernel) ⟨Nat.le_of_ble_eq_true rfl, Nat.le_of_ble_eq_true rfl⟩) hN (hK.sub (tys' := []) [] rfl) (hP.sub (ws' := (wd_X0_figureOfOne h_p3 v_p3_a v_p3_b)) [1] rfl) 0 0 rfl rfl rfl rfl hl.1 (Nat.le_of_ble_eq_true rfl) dX4_isLessThanOne_14 ⟨Nat.zero_le _, Nat.zero_le _⟩ ?_
        refine lv_istore (lv' := [(5, .int (F_X0_figureOfOne (x4 - x1) v_p3_a v_p3_b)), (0, .ref h_p0), (1, .int x1), (2, .int x2), (3, .ref h_p3), (4, .int x4)]) hx hb dX4_isLessThanOne_17 hl (by decide) rfl (fun ls hl => ?_)
        refine lv_aload_n hx hb dX4_isLessThanOne_19 rfl (lv_at hl 1 rfl) ?_
        refine lv_iload hx hb dX4_isLessThanOne_20 (lv_at hl 5 rfl) ?_
        obtain ⟨i_4, hF⟩ := ck_s hF
        refine va_iald hx hb hK hP 0 0 rfl rfl i_4 dX4_isLessThanOne_22 ?_
        refine lv_iload hx hb dX4_isLessThanOne_23 (lv_at hl 0 rfl) ?_
        refine lv_icmp_eq (tgt := 43) hx hb dX4_isLessThanOne_25 (by decide) (fun g_5 => ?_) (fun g_5 => ?_)
        · replace hF := ite_t g_5 hF
          refine lv_iinc (v := (x4 + (1 : Int32))) (lv' := [(4, .int (x4 + (1 : Int32))), (5, .int (F_X0_figureOfOne (x4 - x1) v_p3_a v_p3_b)), (0, .ref h_p0), (1, .int x1), (2, .int x2), (3, .ref h_p3)]) hx hb dX4_isLessThanOne_43 hl (k := 5) rfl rfl (by decide) rfl (fun ls hl => ?_)
          refine lv_goto (tgt := 3) hx hb dX4_isLessThanOne_46 (by decide) ?_
          exact ih (x4 + (1 : Int32)) hF ls (lv_sub hl [2, 3, 4, 5, 0] rfl)
        · replace hF := ite_f g_5 hF
          exact k_28 x4 (F_X0_figureOfOne (x4 - x1) v_p3_a v_p3_b) hF ls (lv_sub hl [1, 5, 0] rfl)
  refine lv_iload_n hx hb dX4_isLessThanOne_0 rfl (lv_at hl 1 rfl) ?_
  refine lv_istore (lv' := [(4, .int x1), (0, .ref h_p0), (1, .int x1), (2, .int x2), (3, .ref h_p3)]) hx hb dX4_isLessThanOne_1 hl (by decide) rfl (fun ls hl => ?_)
  exact k_3 _ x1 hF ls (lv_sub hl [1, 2, 3, 4, 0] rfl)
set_option maxRecDepth 100000 in
set_option maxHeartbeats 4000000 in
theorem c_X4_isLessThanOne (l : Launch) (dC : Nat → ClassId) (dI : Nat → Nat → Nat) (h_p0 h_p3 : Nat) (c_p0 : ClassId) (n_p0 : Nat) (v_p0 : (Nat → Int32)) (v_p3_a : Int32) (v_p3_b : Int32) (x1 : Int32) (x2 : Int32) (o : Int32) (hF : F_X4_isLessThanOne x1 x2 n_p0 v_p0 v_p3_a v_p3_b = some o) : Met l yX4_isLessThanOne wsX4_isLessThanOne rm_X4_isLessThanOne (va_Pc [.ref h_p0, .int x1, .int x2, .ref h_p3] (PcR dC dI (wd_X4_isLessThanOne h_p0 h_p3 c_p0 n_p0 v_p0 v_p3_a v_p3_b) [(c_p0, .int)])) (vp_Si (fun r => r = o)) 0 0 (fun _ => False) := by
  refine Met.ofW (cc := cX4_isLessThanOne) (maxL := 6) (ret := (some .boolean)) (by decide) rfl ?_
  intro p e s m args below meth c s₁ B hml hv
  obtain ⟨rfl, hP, hK, hN⟩ := hv
  have hl := lv_entry ([.ref h_p0, .int x1, .int x2, .ref h_p3]) (n := 6) (Nat.le_of_ble_eq_true rfl)
  rw [lg_entry_eq]
  generalize (lg_sl ([.ref h_p0, .int x1, .int x2, .ref h_p3]) ++ List.replicate (6 - (lg_sl ([.ref h_p0, .int x1, .int x2, .ref h_p3])).length) Slot.unset).toArray = ls at hl ⊢
  exact b_X4_isLessThanOne h_p0 h_p3 c_p0 n_p0 v_p0 v_p3_a v_p3_b x1 x2 o hF ⟨B.exec, B.bytes, hml, findClass_of_methodNamed B.named, atoms_spec (ws := wsX4_isLessThanOne) B.pre⟩ hN hK hP (fun ls pc hn hd => W.zret B.exec B.bytes B.returns hn (fun t ht hW => ⟨_, rfl, rfl, ht⟩) (fun q h => by cases h) hd B.notSynchronized) hl
abbrev wd_X4_firstBad (h_p0 h_p2 : Nat) (c_p0 : ClassId) (n_p0 : Nat) (v_p0 : (Nat → Int32)) (v_p2_a : Int32) (v_p2_b : Int32) : va_W := [(h_p0, .inl (c_p0, n_p0, .inl v_p0)), (h_p2, .inr (0, [.int v_p2_a, .int v_p2_b]))]
abbrev rm_X4_firstBad : Room := { frames := 2, cells := 0, slots := 0, locals := 46 }
def F_X4_firstBad_2 (x1 : Int32) (n_p0 : Nat) (v_p0 : (Nat → Int32)) (v_p2_a : Int32) (v_p2_b : Int32) : Nat → Int32 → Option (Int32)
  | 0, _ => none
  | fu + 1, x3 => (if x1 ≤ x3 then (some (-1 : Int32)) else ((F_X4_isLessThanOne x3 x1 n_p0 v_p0 v_p2_a v_p2_b).bind fun o_2 => (if o_2 = 0 then (some x3) else (F_X4_firstBad_2 x1 n_p0 v_p0 v_p2_a v_p2_b fu (x3 + (1 : Int32))))))
def F_X4_firstBad (x1 : Int32) (n_p0 : Nat) (v_p0 : (Nat → Int32)) (v_p2_a : Int32) (v_p2_b : Int32) : Option (Int32) := (F_X4_firstBad_2  x1 n_p0 v_p0 v_p2_a v_p2_b 128 (0 : Int32))
set_option maxRecDepth 100000 in
set_option maxHeartbeats 4000000 in
theorem b_X4_firstBad {p : Program} {l : Launch} {e : Env} {s : State} {m : MethodId} {args : Array Value} {below : List Frame} {meth : Method} {c : Code} {Q : State → Prop} {dC : Nat → ClassId} {dI : Nat → Nat → Nat} {H : Heap} {locs : List Loc} {ls : Array Slot} (h_p0 h_p2 : Nat) (c_p0 : ClassId) (n_p0 : Nat) (v_p0 : (Nat → Int32)) (v_p2_a : Int32) (v_p2_b : Int32) (x1 : Int32) (ou0 : Int32) (hF : F_X4_firstBad x1 n_p0 v_p0 v_p2_a v_p2_b = some ou0) (hC : CallFix p m c cX4_firstBad 4 s args wsX4_firstBad RX4) (hN : NW s) (hK : va_K (dC, dI) vwCl [(c_p0, .int)] s) (hP : va_P (dC, dI) vwCl (wd_X4_firstBad h_p0 h_p2 c_p0 n_p0 v_p0 v_p2_a v_p2_b) H) (hE : ∀ (ls : Array Slot) (pc : Nat), decode cX4_firstBad pc = .ok (.ireturn, 1) → W p l e rm_X4_firstBad s m args below meth c H locs 0 0 Q (F0 m pc ls [.int ou0])) (hl : lv_has ls 4 [(0, .ref h_p0), (1, .int x1), (2, .ref h_p2)]) : W p l e rm_X4_firstBad s m args below meth c H locs 0 0 Q (F0 m 0 ls []) := by
  obtain ⟨hx, hb, hml, hown, hts⟩ := id hC
  unfold F_X4_firstBad at hF
  have k_2 : ∀ (fu_2 : Nat) (x3 : Int32), F_X4_firstBad_2  x1 n_p0 v_p0 v_p2_a v_p2_b fu_2 x3 = some ou0 → ∀ ls : Array Slot, lv_has ls 4 [(0, .ref h_p0), (1, .int x1), (2, .ref h_p2), (3, .int x3)] → W p l e rm_X4_firstBad s m args below meth c H locs 0 0 Q (F0 m 2 ls []) := by
    intro fu_2
    induction fu_2 with
    | zero => intro x3 hF; rw [F_X4_firstBad_2] at hF; cases hF
    | succ fu_2 ih =>
      intro x3 hF ls hl
      rw [F_X4_firstBad_2] at hF
      have ih_2 := ih
      refine lv_iload_n hx hb dX4_firstBad_2 rfl (lv_at hl 3 rfl) ?_
      refine lv_iload_n hx hb dX4_firstBad_3 rfl (lv_at hl 1 rfl) ?_
      refine lv_icmp_ge (tgt := 25) hx hb dX4_firstBad_4 (by decide) (fun g_1 => ?_) (fun g_1 => ?_)
      · replace hF := ite_t g_1 hF
        refine lv_iconst (v := (-1 : Int32)) hx hb dX4_firstBad_25 (by decide) ?_
        obtain rfl := Option.some.inj hF; exact hE _ _ dX4_firstBad_26
      · replace hF := ite_f g_1 hF
        refine lv_aload_n hx hb dX4_firstBad_7 rfl (lv_at hl 0 rfl) ?_
        refine lv_iload_n hx hb dX4_firstBad_8 rfl (lv_at hl 3 rfl) ?_
        refine lv_iload_n hx hb dX4_firstBad_9 rfl (lv_at hl 1 rfl) ?_
        refine lv_aload_n hx hb dX4_firstBad_10 rfl (lv_at hl 2 rfl) ?_
        obtain ⟨o_2, hc_o_2, hF⟩ := bd_s hF
        refine rdSi (As := [.ref h_p0, .int x3, .int x1, .ref h_p2]) (rest := []) hC (c_X4_isLessThanOne l dC dI h_p0 h_p2 c_p0 n_p0 v_p0 v_p2_a v_p2_b x3 x1 o_2 hc_o_2) (va_cwS 4 hts gX4_firstBad_X4_isLessThanOne rfl rfl rfl (by decide +kernel) ⟨Nat.le_of_ble_eq_true rfl, Nat.le_of_ble_eq_true rfl⟩) hN (hK.sub (tys' := [(c_p0, .int)]) [0] rfl) (hP.sub (ws' := (wd_X4_isLessThanOne h_p0 h_p2 c_p0 n_p0 v_p0 v_p2_a v_p2_b)) [0, 1] rfl) rfl rfl hl.1 (Nat.le_of_ble_eq_true rfl) dX4_firstBad_11 ⟨Nat.zero_le _, Nat.zero_le _⟩ ?_
        refine lv_if_ne (tgt := 19) hx hb dX4_firstBad_14 (by decide) (fun g_3 => ?_) (fun g_3 => ?_)
        · replace hF := ite_f g_3 hF
          refine lv_iinc (v := (x3 + (1 : Int32))) (lv' := [(3, .int (x3 + (1 : Int32))), (0, .ref h_p0), (1, .int x1), (2, .ref h_p2)]) hx hb dX4_firstBad_19 hl (k := 3) rfl rfl (by decide) rfl (fun ls hl => ?_)
          refine lv_goto (tgt := 2) hx hb dX4_firstBad_22 (by decide) ?_
          exact ih (x3 + (1 : Int32)) hF ls (lv_sub hl [1, 2, 3, 0] rfl)
        · replace hF := ite_t g_3 hF
          refine lv_iload_n hx hb dX4_firstBad_17 rfl (lv_at hl 3 rfl) ?_
          obtain rfl := Option.some.inj hF; exact hE _ _ dX4_firstBad_18
  refine lv_iconst (v := (0 : Int32)) hx hb dX4_firstBad_0 (by decide) ?_
  refine lv_istore_n (lv' := [(3, .int (0 : Int32)), (0, .ref h_p0), (1, .int x1), (2, .ref h_p2)]) hx hb dX4_firstBad_1 rfl hl (by decide) rfl (fun ls hl => ?_)
  exact k_2 _ (0 : Int32) hF ls (lv_sub hl [1, 2, 3, 0] rfl)
set_option maxRecDepth 100000 in
set_option maxHeartbeats 4000000 in
theorem c_X4_firstBad (l : Launch) (dC : Nat → ClassId) (dI : Nat → Nat → Nat) (h_p0 h_p2 : Nat) (c_p0 : ClassId) (n_p0 : Nat) (v_p0 : (Nat → Int32)) (v_p2_a : Int32) (v_p2_b : Int32) (x1 : Int32) (o : Int32) (hF : F_X4_firstBad x1 n_p0 v_p0 v_p2_a v_p2_b = some o) : Met l yX4_firstBad wsX4_firstBad rm_X4_firstBad (va_Pc [.ref h_p0, .int x1, .ref h_p2] (PcR dC dI (wd_X4_firstBad h_p0 h_p2 c_p0 n_p0 v_p0 v_p2_a v_p2_b) [(c_p0, .int)])) (vp_Si (fun r => r = o)) 0 0 (fun _ => False) := by
  refine Met.ofW (cc := cX4_firstBad) (maxL := 4) (ret := (some .int)) (by decide) rfl ?_
  intro p e s m args below meth c s₁ B hml hv
  obtain ⟨rfl, hP, hK, hN⟩ := hv
  have hl := lv_entry ([.ref h_p0, .int x1, .ref h_p2]) (n := 4) (Nat.le_of_ble_eq_true rfl)
  rw [lg_entry_eq]
  generalize (lg_sl ([.ref h_p0, .int x1, .ref h_p2]) ++ List.replicate (4 - (lg_sl ([.ref h_p0, .int x1, .ref h_p2])).length) Slot.unset).toArray = ls at hl ⊢
  exact b_X4_firstBad h_p0 h_p2 c_p0 n_p0 v_p0 v_p2_a v_p2_b x1 o hF ⟨B.exec, B.bytes, hml, findClass_of_methodNamed B.named, atoms_spec (ws := wsX4_firstBad) B.pre⟩ hN hK hP (fun ls pc hd => W.iret B.exec B.bytes B.returns (fun t ht hW => ⟨_, rfl, rfl, ht⟩) (fun q h => by cases h) hd B.notSynchronized) hl
theorem inn_X4_badly_X4 : ∀ w ∈ wsX40, w ∈ wsX4_badly := fun _ h => List.mem_cons_of_mem _ (List.mem_append_left _ (List.mem_append_right _ h))
abbrev wd_X4_badly (h0 h_figures h_follower h_p1 : Nat) (c_figures : ClassId) (v_count : Int32) (v_aheadOfPoint : Int32) (v_worthM : Int32) (v_worthN : Int32) (v_figures : (Nat → Int32)) (v_p1_a : Int32) (v_p1_b : Int32) : va_W := [(h0, .inr (4, [.ref h_figures, .ref h_follower, .int v_count, .int v_aheadOfPoint, .int v_worthM, .int v_worthN])), (h_figures, .inl (c_figures, 60, .inl v_figures)), (h_p1, .inr (0, [.int v_p1_a, .int v_p1_b]))]
abbrev rm_X4_badly : Room := { frames := 3, cells := 0, slots := 0, locals := 69 }
def F_X4_badly (v_count : Int32) (v_aheadOfPoint : Int32) (v_figures : (Nat → Int32)) (v_p1_a : Int32) (v_p1_b : Int32) : Option (Int32) := ((F_X4_firstBad v_count 60 v_figures v_p1_a v_p1_b).bind fun o_1 => (if (F_X4_hasPoint v_aheadOfPoint) = 0 then (some o_1) else (if o_1 < v_aheadOfPoint then (some o_1) else (some (o_1 + (1 : Int32))))))
set_option maxRecDepth 100000 in
set_option maxHeartbeats 4000000 in
theorem b_X4_badly {p : Program} {l : Launch} {e : Env} {s : State} {m : MethodId} {args : Array Value} {below : List Frame} {meth : Method} {c : Code} {Q : State → Prop} {dC : Nat → ClassId} {dI : Nat → Nat → Nat} {H : Heap} {locs : List Loc} {ls : Array Slot} (h0 h_figures h_follower h_p1 : Nat) (c_figures : ClassId) (v_count : Int32) (v_aheadOfPoint : Int32) (v_worthM : Int32) (v_worthN : Int32) (v_figures : (Nat → Int32)) (v_p1_a : Int32) (v_p1_b : Int32) (ou0 : Int32) (hF : F_X4_badly v_count v_aheadOfPoint v_figures v_p1_a v_p1_b = some ou0) (hC : CallFix p m c cX4_badly 3 s args wsX4_badly RX4) (hN : NW s) (hK : va_K (dC, dI) vwCl [(c_figures, .int)] s) (hP : va_P (dC, dI) vwCl (wd_X4_badly h0 h_figures h_follower h_p1 c_figures v_count v_aheadOfPoint v_worthM v_worthN v_figures v_p1_a v_p1_b) H) (hE : ∀ (ls : Array Slot) (pc : Nat), decode cX4_badly pc = .ok (.ireturn, 1) → W p l e rm_X4_badly s m args below meth c H locs 0 0 Q (F0 m pc ls [.int ou0])) (hl : lv_has ls 3 [(0, .ref h0), (1, .ref h_p1)]) : W p l e rm_X4_badly s m args below meth c H locs 0 0 Q (F0 m 0 ls []) := by
  obtain ⟨hx, hb, hml, hown, hts⟩ := id hC
  unfold F_X4_badly at hF
  refine lv_aload_n hx hb dX4_badly_0 rfl (lv_at hl 0 rfl) ?_
  refine va_get (D := (dC, dI)) (ci := 4) (v := .ref h_figures) (C := RX4) (T := TX4) (N := 6) hx hb hts inn_X4_badly_X4 hown hK hP 0 rfl rfl 0 (by decide) (hts (.fieldLink RX4 9 "RingBases$Word" "figures" "[I") (List.mem_of_getElem? (i := 1) rfl)) (fun _ h9 => h9) rfl dX4_badly_1 ?_
  refine lv_aload_n hx hb dX4_badly_4 rfl (lv_at hl 0 rfl) ?_
  refine va_get (D := (dC, dI)) (ci := 4) (v := .int v_count) (C := RX4) (T := TX4) (N := 6) hx hb hts inn_X4_badly_X4 hown hK hP 0 rfl rfl 2 (by decide) (hts (.fieldLink RX4 18 "RingBases$Word" "count" "I") (List.mem_of_getElem? (i := 2) rfl)) (fun _ h9 => h9) rfl dX4_badly_5 ?_
  refine lv_aload_n hx hb dX4_badly_8 rfl (lv_at hl 1 rfl) ?_
  obtain ⟨o_1, hc_o_1, hF⟩ := bd_s hF
  refine rdSi (As := [.ref h_figures, .int v_count, .ref h_p1]) (rest := []) hC (c_X4_firstBad l dC dI h_figures h_p1 c_figures 60 v_figures v_p1_a v_p1_b v_count o_1 hc_o_1) (va_cwS 3 hts gX4_badly_X4_firstBad rfl rfl rfl (by decide +kernel) ⟨Nat.le_of_ble_eq_true rfl, Nat.le_of_ble_eq_true rfl⟩) hN (hK.sub (tys' := [(c_figures, .int)]) [0] rfl) (hP.sub (ws' := (wd_X4_firstBad h_figures h_p1 c_figures 60 v_figures v_p1_a v_p1_b)) [1, 2] rfl) rfl rfl hl.1 (Nat.le_of_ble_eq_true rfl) dX4_badly_9 ⟨Nat.zero_le _, Nat.zero_le _⟩ ?_
  refine lv_istore_n (lv' := [(2, .int o_1), (0, .ref h0), (1, .ref h_p1)]) hx hb dX4_badly_12 rfl hl (by decide) rfl (fun ls hl => ?_)
  refine lv_aload_n hx hb dX4_badly_13 rfl (lv_at hl 1 rfl) ?_
  refine rdVi (As := []) (rest := []) (b := h0) hC (c_X4_hasPoint l dC dI h0 h_figures h_follower v_count v_aheadOfPoint v_worthM v_worthN  (F_X4_hasPoint v_aheadOfPoint) rfl) (cwV 0 hts gX4_badly_X4_hasPoint rfl rfl rfl (by decide +kernel) ⟨Nat.le_of_ble_eq_true rfl, Nat.le_of_ble_eq_true rfl⟩) hN (hK.sub (tys' := []) [] rfl) (hP.sub (ws' := (wd_X4_hasPoint h0 h_figures h_follower v_count v_aheadOfPoint v_worthM v_worthN)) [0] rfl) 0 4 rfl rfl rfl rfl hl.1 (Nat.le_of_ble_eq_true rfl) dX4_badly_14 ⟨Nat.zero_le _, Nat.zero_le _⟩ ?_
  refine lv_if_eq (tgt := 34) hx hb dX4_badly_17 (by decide) (fun g_2 => ?_) (fun g_2 => ?_)
  · replace hF := ite_t g_2 hF
    refine lv_iload_n hx hb dX4_badly_34 rfl (lv_at hl 0 rfl) ?_
    obtain rfl := Option.some.inj hF; exact hE _ _ dX4_badly_35
  · replace hF := ite_f g_2 hF
    refine lv_iload_n hx hb dX4_badly_20 rfl (lv_at hl 0 rfl) ?_
    refine lv_aload_n hx hb dX4_badly_21 rfl (lv_at hl 1 rfl) ?_
    refine va_get (D := (dC, dI)) (ci := 4) (v := .int v_aheadOfPoint) (C := RX4) (T := TX4) (N := 6) hx hb hts inn_X4_badly_X4 hown hK hP 0 rfl rfl 3 (by decide) (hts (.fieldLink RX4 22 "RingBases$Word" "aheadOfPoint" "I") (List.mem_of_getElem? (i := 3) rfl)) (fun _ h9 => h9) rfl dX4_badly_22 ?_
    refine lv_icmp_lt (tgt := 34) hx hb dX4_badly_25 (by decide) (fun g_3 => ?_) (fun g_3 => ?_)
    · replace hF := ite_t g_3 hF
      refine lv_iload_n hx hb dX4_badly_34 rfl (lv_at hl 0 rfl) ?_
      obtain rfl := Option.some.inj hF; exact hE _ _ dX4_badly_35
    · replace hF := ite_f g_3 hF
      refine lv_iload_n hx hb dX4_badly_28 rfl (lv_at hl 0 rfl) ?_
      refine lv_iconst (v := (1 : Int32)) hx hb dX4_badly_29 (by decide) ?_
      refine lv_iadd hx hb dX4_badly_30 ?_
      refine lv_goto (tgt := 35) hx hb dX4_badly_31 (by decide) ?_
      obtain rfl := Option.some.inj hF; exact hE _ _ dX4_badly_35
set_option maxRecDepth 100000 in
set_option maxHeartbeats 4000000 in
theorem c_X4_badly (l : Launch) (dC : Nat → ClassId) (dI : Nat → Nat → Nat) (h0 h_figures h_follower h_p1 : Nat) (c_figures : ClassId) (v_count : Int32) (v_aheadOfPoint : Int32) (v_worthM : Int32) (v_worthN : Int32) (v_figures : (Nat → Int32)) (v_p1_a : Int32) (v_p1_b : Int32) (o : Int32) (hF : F_X4_badly v_count v_aheadOfPoint v_figures v_p1_a v_p1_b = some o) : Met l yX4_badly wsX4_badly rm_X4_badly (va_Pc [.ref h0, .ref h_p1] (PcR dC dI (wd_X4_badly h0 h_figures h_follower h_p1 c_figures v_count v_aheadOfPoint v_worthM v_worthN v_figures v_p1_a v_p1_b) [(c_figures, .int)])) (vp_Si (fun r => r = o)) 0 0 (fun _ => False) := by
  refine Met.ofW (cc := cX4_badly) (maxL := 3) (ret := (some .int)) (by decide) rfl ?_
  intro p e s m args below meth c s₁ B hml hv
  obtain ⟨rfl, hP, hK, hN⟩ := hv
  have hl := lv_entry ([.ref h0, .ref h_p1]) (n := 3) (Nat.le_of_ble_eq_true rfl)
  rw [lg_entry_eq]
  generalize (lg_sl ([.ref h0, .ref h_p1]) ++ List.replicate (3 - (lg_sl ([.ref h0, .ref h_p1])).length) Slot.unset).toArray = ls at hl ⊢
  exact b_X4_badly h0 h_figures h_follower h_p1 c_figures v_count v_aheadOfPoint v_worthM v_worthN v_figures v_p1_a v_p1_b o hF ⟨B.exec, B.bytes, hml, findClass_of_methodNamed B.named, atoms_spec (ws := wsX4_badly) B.pre⟩ hN hK hP (fun ls pc hd => W.iret B.exec B.bytes B.returns (fun t ht hW => ⟨_, rfl, rfl, ht⟩) (fun q h => by cases h) hd B.notSynchronized) hl
theorem inn_X4_signs_X4 : ∀ w ∈ wsX40, w ∈ wsX4_signs := fun _ h => List.mem_cons_of_mem _ (List.mem_append_right _ h)
abbrev wd_X4_signs (h0 h_figures h_follower : Nat) (v_count : Int32) (v_aheadOfPoint : Int32) (v_worthM : Int32) (v_worthN : Int32) : va_W := [(h0, .inr (4, [.ref h_figures, .ref h_follower, .int v_count, .int v_aheadOfPoint, .int v_worthM, .int v_worthN]))]
abbrev rm_X4_signs : Room := { frames := 1, cells := 0, slots := 0, locals := 20 }
def F_X4_signs (v_count : Int32) (v_aheadOfPoint : Int32) : Int32 := (if (F_X4_hasPoint v_aheadOfPoint) = 0 then v_count else (v_count + (1 : Int32)))
set_option maxRecDepth 100000 in
set_option maxHeartbeats 4000000 in
theorem b_X4_signs {p : Program} {l : Launch} {e : Env} {s : State} {m : MethodId} {args : Array Value} {below : List Frame} {meth : Method} {c : Code} {Q : State → Prop} {dC : Nat → ClassId} {dI : Nat → Nat → Nat} {H : Heap} {locs : List Loc} {ls : Array Slot} (h0 h_figures h_follower : Nat) (v_count : Int32) (v_aheadOfPoint : Int32) (v_worthM : Int32) (v_worthN : Int32) (ou0 : Int32) (hF : F_X4_signs v_count v_aheadOfPoint = ou0) (hC : CallFix p m c cX4_signs 1 s args wsX4_signs RX4) (hN : NW s) (hK : va_K (dC, dI) vwCl [] s) (hP : va_P (dC, dI) vwCl (wd_X4_signs h0 h_figures h_follower v_count v_aheadOfPoint v_worthM v_worthN) H) (hE : ∀ (ls : Array Slot) (pc : Nat), decode cX4_signs pc = .ok (.ireturn, 1) → W p l e rm_X4_signs s m args below meth c H locs 0 0 Q (F0 m pc ls [.int ou0])) (hl : lv_has ls 1 [(0, .ref h0)]) : W p l e rm_X4_signs s m args below meth c H locs 0 0 Q (F0 m 0 ls []) := by
  obtain ⟨hx, hb, hml, hown, hts⟩ := id hC
  unfold F_X4_signs at hF
  refine lv_aload_n hx hb dX4_signs_0 rfl (lv_at hl 0 rfl) ?_
  refine rdVi (As := []) (rest := []) (b := h0) hC (c_X4_hasPoint l dC dI h0 h_figures h_follower v_count v_aheadOfPoint v_worthM v_worthN  (F_X4_hasPoint v_aheadOfPoint) rfl) (cwV 0 hts gX4_signs_X4_hasPoint rfl rfl rfl (by decide +kernel) ⟨Nat.le_of_ble_eq_true rfl, Nat.le_of_ble_eq_true rfl⟩) hN (hK.sub (tys' := []) [] rfl) (hP.sub (ws' := (wd_X4_hasPoint h0 h_figures h_follower v_count v_aheadOfPoint v_worthM v_worthN)) [0] rfl) 0 4 rfl rfl rfl rfl hl.1 (Nat.le_of_ble_eq_true rfl) dX4_signs_1 ⟨Nat.zero_le _, Nat.zero_le _⟩ ?_
  refine lv_if_eq (tgt := 16) hx hb dX4_signs_4 (by decide) (fun g_1 => ?_) (fun g_1 => ?_)
  · replace hF := ite_t g_1 hF
    refine lv_aload_n hx hb dX4_signs_16 rfl (lv_at hl 0 rfl) ?_
    refine va_get (D := (dC, dI)) (ci := 4) (v := .int v_count) (C := RX4) (T := TX4) (N := 6) hx hb hts inn_X4_signs_X4 hown hK hP 0 rfl rfl 2 (by decide) (hts (.fieldLink RX4 18 "RingBases$Word" "count" "I") (List.mem_of_getElem? (i := 1) rfl)) (fun _ h9 => h9) rfl dX4_signs_17 ?_
    obtain rfl := hF; exact hE _ _ dX4_signs_20
  · replace hF := ite_f g_1 hF
    refine lv_aload_n hx hb dX4_signs_7 rfl (lv_at hl 0 rfl) ?_
    refine va_get (D := (dC, dI)) (ci := 4) (v := .int v_count) (C := RX4) (T := TX4) (N := 6) hx hb hts inn_X4_signs_X4 hown hK hP 0 rfl rfl 2 (by decide) (hts (.fieldLink RX4 18 "RingBases$Word" "count" "I") (List.mem_of_getElem? (i := 1) rfl)) (fun _ h9 => h9) rfl dX4_signs_8 ?_
    refine lv_iconst (v := (1 : Int32)) hx hb dX4_signs_11 (by decide) ?_
    refine lv_iadd hx hb dX4_signs_12 ?_
    refine lv_goto (tgt := 20) hx hb dX4_signs_13 (by decide) ?_
    obtain rfl := hF; exact hE _ _ dX4_signs_20
set_option maxRecDepth 100000 in
set_option maxHeartbeats 4000000 in
theorem c_X4_signs (l : Launch) (dC : Nat → ClassId) (dI : Nat → Nat → Nat) (h0 h_figures h_follower : Nat) (v_count : Int32) (v_aheadOfPoint : Int32) (v_worthM : Int32) (v_worthN : Int32) (o : Int32) (hF : F_X4_signs v_count v_aheadOfPoint = o) : Met l yX4_signs wsX4_signs rm_X4_signs (va_Pc [.ref h0] (PcR dC dI (wd_X4_signs h0 h_figures h_follower v_count v_aheadOfPoint v_worthM v_worthN) [])) (vp_Si (fun r => r = o)) 0 0 (fun _ => False) := by
  refine Met.ofW (cc := cX4_signs) (maxL := 1) (ret := (some .int)) (by decide) rfl ?_
  intro p e s m args below meth c s₁ B hml hv
  obtain ⟨rfl, hP, hK, hN⟩ := hv
  have hl := lv_entry ([.ref h0]) (n := 1) (Nat.le_of_ble_eq_true rfl)
  rw [lg_entry_eq]
  generalize (lg_sl ([.ref h0]) ++ List.replicate (1 - (lg_sl ([.ref h0])).length) Slot.unset).toArray = ls at hl ⊢
  exact b_X4_signs h0 h_figures h_follower v_count v_aheadOfPoint v_worthM v_worthN o hF ⟨B.exec, B.bytes, hml, findClass_of_methodNamed B.named, atoms_spec (ws := wsX4_signs) B.pre⟩ hN hK hP (fun ls pc hd => W.iret B.exec B.bytes B.returns (fun t ht hW => ⟨_, rfl, rfl, ht⟩) (fun q h => by cases h) hd B.notSynchronized) hl
theorem inn_X5_hasFigure_X5 : ∀ w ∈ wsX50, w ∈ wsX5_hasFigure := fun _ h => List.mem_cons_of_mem _ (List.mem_append_right _ h)
abbrev wd_X5_hasFigure (h0 h_figures h_powerMs h_powerNs h_restMs h_restNs : Nat) (v_ahead : Int32) (v_behind : Int32) (v_ends : Int32) (v_lead : Int32) (v_round : Int32) (v_leftM : Int64) (v_leftN : Int64) (v_ofA : Int32) (v_ofB : Int32) (v_ofM : Int32) (v_ofN : Int32) : va_W := [(h0, .inr (5, [.ref h_figures, .int v_ahead, .int v_behind, .int v_ends, .int v_lead, .int v_round, .ref h_powerMs, .ref h_powerNs, .ref h_restMs, .ref h_restNs, .long v_leftM, .long v_leftN, .int v_ofA, .int v_ofB, .int v_ofM, .int v_ofN]))]
abbrev rm_X5_hasFigure : Room := { frames := 0, cells := 0, slots := 0, locals := 0 }
def F_X5_hasFigure (x1 : Int32) (v_ahead : Int32) (v_behind : Int32) : Int32 := (if x1 < 0 then (0 : Int32) else (if (v_ahead + v_behind) ≤ x1 then (0 : Int32) else (1 : Int32)))
theorem B_X5_hasFigure (x1 : Int32) (v_ahead : Int32) (v_behind : Int32) : narrow .boolean (.int (F_X5_hasFigure x1 v_ahead v_behind)) = .int (F_X5_hasFigure x1 v_ahead v_behind) := by
  unfold F_X5_hasFigure
  repeat' split
  all_goals first | rfl | exact B_X7_in _ _ _
set_option maxRecDepth 100000 in
set_option maxHeartbeats 4000000 in
theorem b_X5_hasFigure {p : Program} {l : Launch} {e : Env} {s : State} {m : MethodId} {args : Array Value} {below : List Frame} {meth : Method} {c : Code} {Q : State → Prop} {dC : Nat → ClassId} {dI : Nat → Nat → Nat} {H : Heap} {locs : List Loc} {ls : Array Slot} (h0 h_figures h_powerMs h_powerNs h_restMs h_restNs : Nat) (v_ahead : Int32) (v_behind : Int32) (v_ends : Int32) (v_lead : Int32) (v_round : Int32) (v_leftM : Int64) (v_leftN : Int64) (v_ofA : Int32) (v_ofB : Int32) (v_ofM : Int32) (v_ofN : Int32) (x1 : Int32) (ou0 : Int32) (hF : F_X5_hasFigure x1 v_ahead v_behind = ou0) (hC : CallFix p m c cX5_hasFigure 2 s args wsX5_hasFigure RX5) (hN : NW s) (hK : va_K (dC, dI) vwCl [] s) (hP : va_P (dC, dI) vwCl (wd_X5_hasFigure h0 h_figures h_powerMs h_powerNs h_restMs h_restNs v_ahead v_behind v_ends v_lead v_round v_leftM v_leftN v_ofA v_ofB v_ofM v_ofN) H) (hE : ∀ (ls : Array Slot) (pc : Nat), narrow .boolean (.int ou0) = .int ou0 → decode cX5_hasFigure pc = .ok (.ireturn, 1) → W p l e rm_X5_hasFigure s m args below meth c H locs 0 0 Q (F0 m pc ls [.int ou0])) (hl : lv_has ls 2 [(0, .ref h0), (1, .int x1)]) : W p l e rm_X5_hasFigure s m args below meth c H locs 0 0 Q (F0 m 0 ls []) := by
  obtain ⟨hx, hb, hml, hown, hts⟩ := id hC
  unfold F_X5_hasFigure at hF
  refine lv_iload_n hx hb dX5_hasFigure_0 rfl (lv_at hl 1 rfl) ?_
  refine lv_if_lt (tgt := 21) hx hb dX5_hasFigure_1 (by decide) (fun g_1 => ?_) (fun g_1 => ?_)
  · replace hF := ite_t g_1 hF
    refine lv_iconst (v := (0 : Int32)) hx hb dX5_hasFigure_21 (by decide) ?_
    obtain rfl := hF; exact hE _ _ (zk_n (Or.inl rfl)) dX5_hasFigure_22
  · replace hF := ite_f g_1 hF
    refine lv_iload_n hx hb dX5_hasFigure_4 rfl (lv_at hl 1 rfl) ?_
    refine lv_aload_n hx hb dX5_hasFigure_5 rfl (lv_at hl 0 rfl) ?_
    refine va_get (D := (dC, dI)) (ci := 5) (v := .int v_ahead) (C := RX5) (T := TX5) (N := 16) hx hb hts inn_X5_hasFigure_X5 hown hK hP 0 rfl rfl 1 (by decide) (hts (.fieldLink RX5 15 "RingBases$Writing" "ahead" "I") (List.mem_of_getElem? (i := 1) rfl)) (fun _ h9 => h9) rfl dX5_hasFigure_6 ?_
    refine lv_aload_n hx hb dX5_hasFigure_9 rfl (lv_at hl 0 rfl) ?_
    refine va_get (D := (dC, dI)) (ci := 5) (v := .int v_behind) (C := RX5) (T := TX5) (N := 16) hx hb hts inn_X5_hasFigure_X5 hown hK hP 0 rfl rfl 2 (by decide) (hts (.fieldLink RX5 19 "RingBases$Writing" "behind" "I") (List.mem_of_getElem? (i := 2) rfl)) (fun _ h9 => h9) rfl dX5_hasFigure_10 ?_
    refine lv_iadd hx hb dX5_hasFigure_13 ?_
    refine lv_icmp_ge (tgt := 21) hx hb dX5_hasFigure_14 (by decide) (fun g_2 => ?_) (fun g_2 => ?_)
    · replace hF := ite_t g_2 hF
      refine lv_iconst (v := (0 : Int32)) hx hb dX5_hasFigure_21 (by decide) ?_
      obtain rfl := hF; exact hE _ _ (zk_n (Or.inl rfl)) dX5_hasFigure_22
    · replace hF := ite_f g_2 hF
      refine lv_iconst (v := (1 : Int32)) hx hb dX5_hasFigure_17 (by decide) ?_
      refine lv_goto (tgt := 22) hx hb dX5_hasFigure_18 (by decide) ?_
      obtain rfl := hF; exact hE _ _ (zk_n (Or.inr rfl)) dX5_hasFigure_22
set_option maxRecDepth 100000 in
set_option maxHeartbeats 4000000 in
theorem c_X5_hasFigure (l : Launch) (dC : Nat → ClassId) (dI : Nat → Nat → Nat) (h0 h_figures h_powerMs h_powerNs h_restMs h_restNs : Nat) (v_ahead : Int32) (v_behind : Int32) (v_ends : Int32) (v_lead : Int32) (v_round : Int32) (v_leftM : Int64) (v_leftN : Int64) (v_ofA : Int32) (v_ofB : Int32) (v_ofM : Int32) (v_ofN : Int32) (x1 : Int32) (o : Int32) (hF : F_X5_hasFigure x1 v_ahead v_behind = o) : Met l yX5_hasFigure wsX5_hasFigure rm_X5_hasFigure (va_Pc [.ref h0, .int x1] (PcR dC dI (wd_X5_hasFigure h0 h_figures h_powerMs h_powerNs h_restMs h_restNs v_ahead v_behind v_ends v_lead v_round v_leftM v_leftN v_ofA v_ofB v_ofM v_ofN) [])) (vp_Si (fun r => r = o)) 0 0 (fun _ => False) := by
  refine Met.ofW (cc := cX5_hasFigure) (maxL := 2) (ret := (some .boolean)) (by decide) rfl ?_
  intro p e s m args below meth c s₁ B hml hv
  obtain ⟨rfl, hP, hK, hN⟩ := hv
  have hl := lv_entry ([.ref h0, .int x1]) (n := 2) (Nat.le_of_ble_eq_true rfl)
  rw [lg_entry_eq]
  generalize (lg_sl ([.ref h0, .int x1]) ++ List.replicate (2 - (lg_sl ([.ref h0, .int x1])).length) Slot.unset).toArray = ls at hl ⊢
  exact b_X5_hasFigure h0 h_figures h_powerMs h_powerNs h_restMs h_restNs v_ahead v_behind v_ends v_lead v_round v_leftM v_leftN v_ofA v_ofB v_ofM v_ofN x1 o hF ⟨B.exec, B.bytes, hml, findClass_of_methodNamed B.named, atoms_spec (ws := wsX5_hasFigure) B.pre⟩ hN hK hP (fun ls pc hn hd => W.zret B.exec B.bytes B.returns hn (fun t ht hW => ⟨_, rfl, rfl, ht⟩) (fun q h => by cases h) hd B.notSynchronized) hl
theorem inn_X4_addPoint_X4 : ∀ w ∈ wsX40, w ∈ wsX4_addPoint := fun _ h => List.mem_cons_of_mem _ (List.mem_append_right _ h)
abbrev wd_X4_addPoint (h0 h_figures h_follower : Nat) (v_count : Int32) (v_aheadOfPoint : Int32) (v_worthM : Int32) (v_worthN : Int32) : va_W := [(h0, .inr (4, [.ref h_figures, .ref h_follower, .int v_count, .int v_aheadOfPoint, .int v_worthM, .int v_worthN]))]
abbrev rm_X4_addPoint : Room := { frames := 0, cells := 0, slots := 0, locals := 0 }
def F_X4_addPoint (v_count : Int32) : Int32 := v_count
set_option maxRecDepth 100000 in
set_option maxHeartbeats 4000000 in
theorem b_X4_addPoint {p : Program} {l : Launch} {e : Env} {s : State} {m : MethodId} {args : Array Value} {below : List Frame} {meth : Method} {c : Code} {Q : State → Prop} {dC : Nat → ClassId} {dI : Nat → Nat → Nat} {H : Heap} {locs : List Loc} {ls : Array Slot} {A : Nat → Prop} (h0 h_figures h_follower : Nat) (v_count : Int32) (v_aheadOfPoint : Int32) (v_worthM : Int32) (v_worthN : Int32) (ou0 : Int32) (hF : F_X4_addPoint v_count = ou0) (hC : CallFix p m c cX4_addPoint 1 s args wsX4_addPoint RX4) (hN : NW s) (hK : va_K (dC, dI) vwCl [] s) (hP : va_P (dC, dI) vwCl (wd_X4_addPoint h0 h_figures h_follower v_count v_aheadOfPoint v_worthM v_worthN) H) (hA : ∀ q, s.heap.size ≤ q → A q) (hD : va_D A (wd_X4_addPoint h0 h_figures h_follower v_count v_aheadOfPoint v_worthM v_worthN)) (hS : va_S A s.heap H locs) (hE : ∀ (H : Heap) (locs : List Loc) (ls : Array Slot) (pc : Nat), va_P (dC, dI) vwCl (wd_X4_addPoint h0 h_figures h_follower v_count ou0 v_worthM v_worthN) H → va_S A s.heap H locs → decode cX4_addPoint pc = .ok (.return_, 1) → W p l e rm_X4_addPoint s m args below meth c H locs 0 0 Q (F0 m pc ls [])) (hl : lv_has ls 1 [(0, .ref h0)]) : W p l e rm_X4_addPoint s m args below meth c H locs 0 0 Q (F0 m 0 ls []) := by
  obtain ⟨hx, hb, hml, hown, hts⟩ := id hC
  have hD0 := hD
  unfold F_X4_addPoint at hF
  refine lv_aload_n hx hb dX4_addPoint_0 rfl (lv_at hl 0 rfl) ?_
  refine lv_aload_n hx hb dX4_addPoint_1 rfl (lv_at hl 0 rfl) ?_
  refine va_get (D := (dC, dI)) (ci := 4) (v := .int v_count) (C := RX4) (T := TX4) (N := 6) hx hb hts inn_X4_addPoint_X4 hown hK hP 0 rfl rfl 2 (by decide) (hts (.fieldLink RX4 18 "RingBases$Word" "count" "I") (List.mem_of_getElem? (i := 1) rfl)) (fun _ h9 => h9) rfl dX4_addPoint_2 ?_
  refine va_put (D := (dC, dI)) (ty := .int) (ci := 4) (v := .int v_count) (C := RX4) (T := TX4) (N := 6) hx hb hts inn_X4_addPoint_X4 tyX4 tyX4_ok nmX4 hown hK hP hD hS 0 rfl rfl 3 (by decide) (hts (.fieldLink RX4 22 "RingBases$Word" "aheadOfPoint" "I") (List.mem_of_getElem? (i := 2) rfl)) (fun _ h9 => h9) rfl (by decide +kernel) rfl rfl (Nat.le_of_ble_eq_true rfl) dX4_addPoint_5 (fun H locs hP hD hS => ?_)
  have hP : va_P (dC, dI) vwCl (wd_X4_addPoint h0 h_figures h_follower v_count v_count v_worthM v_worthN) H := hP
  have hD : va_D A (wd_X4_addPoint h0 h_figures h_follower v_count v_count v_worthM v_worthN) := hD
  obtain rfl := hF; exact hE _ _ _ _ hP hS dX4_addPoint_8
set_option maxRecDepth 100000 in
set_option maxHeartbeats 4000000 in
theorem c_X4_addPoint (l : Launch) (dC : Nat → ClassId) (dI : Nat → Nat → Nat) (sz : Nat) (h0 h_figures h_follower : Nat) (v_count : Int32) (v_aheadOfPoint : Int32) (v_worthM : Int32) (v_worthN : Int32) (o : Int32) (hF : F_X4_addPoint v_count = o) : Met l yX4_addPoint wsX4_addPoint rm_X4_addPoint (va_Pc [.ref h0] (PcW dC dI sz (wd_X4_addPoint h0 h_figures h_follower v_count v_aheadOfPoint v_worthM v_worthN) [])) (va_Qv (fun (_ : Unit) => True) (fun _ t => va_P (dC, dI) vwCl (wd_X4_addPoint h0 h_figures h_follower v_count o v_worthM v_worthN) t.heap) (va_A (wd_X4_addPoint h0 h_figures h_follower v_count v_aheadOfPoint v_worthM v_worthN) sz)) 0 0 (va_A (wd_X4_addPoint h0 h_figures h_follower v_count v_aheadOfPoint v_worthM v_worthN) sz) := by
  refine Met.ofW (cc := cX4_addPoint) (maxL := 1) (ret := none) (by decide) rfl ?_
  intro p e s m args below meth c s₁ B hml hv
  obtain ⟨rfl, hsz, hP, hK, hD0, hN⟩ := hv
  subst hsz
  have hl := lv_entry ([.ref h0]) (n := 1) (Nat.le_of_ble_eq_true rfl)
  rw [lg_entry_eq]
  generalize (lg_sl ([.ref h0]) ++ List.replicate (1 - (lg_sl ([.ref h0])).length) Slot.unset).toArray = ls at hl ⊢
  exact b_X4_addPoint h0 h_figures h_follower v_count v_aheadOfPoint v_worthM v_worthN o hF ⟨B.exec, B.bytes, hml, findClass_of_methodNamed B.named, atoms_spec (ws := wsX4_addPoint) B.pre⟩ hN hK hP (fun q h => Or.inr h) (hD0.self (sz := s.heap.size)) va_S.rf (fun H locs ls pc hP hS hd => W.vret B.exec B.bytes B.returns (fun t ht hW => ⟨⟨(), rfl, trivial, by show va_P (dC, dI) vwCl _ t.heap; rw [ht]; exact hP⟩, hS.F ht⟩) hS.2.2 hd B.notSynchronized) hl
theorem inn_X4_addFigure_X4 : ∀ w ∈ wsX40, w ∈ wsX4_addFigure := fun _ h => List.mem_cons_of_mem _ (List.mem_append_right _ h)
abbrev wd_X4_addFigure (h0 h_figures h_follower : Nat) (c_figures : ClassId) (v_count : Int32) (v_aheadOfPoint : Int32) (v_worthM : Int32) (v_worthN : Int32) (v_figures : (Nat → Int32)) : va_W := [(h0, .inr (4, [.ref h_figures, .ref h_follower, .int v_count, .int v_aheadOfPoint, .int v_worthM, .int v_worthN])), (h_figures, .inl (c_figures, 60, .inl v_figures))]
abbrev rm_X4_addFigure : Room := { frames := 0, cells := 0, slots := 0, locals := 0 }
def F_X4_addFigure (x1 : Int32) (v_count : Int32) (v_figures : (Nat → Int32)) : Option (Int32 × (Nat → Int32)) := (if (Int32.ofNat 60) ≤ v_count then (some (v_count, v_figures)) else (ck v_count 60 (some ((v_count + (1 : Int32)), (upd v_figures v_count.toNatClampNeg x1)))))
set_option maxRecDepth 100000 in
set_option maxHeartbeats 4000000 in
theorem b_X4_addFigure {p : Program} {l : Launch} {e : Env} {s : State} {m : MethodId} {args : Array Value} {below : List Frame} {meth : Method} {c : Code} {Q : State → Prop} {dC : Nat → ClassId} {dI : Nat → Nat → Nat} {H : Heap} {locs : List Loc} {ls : Array Slot} {A : Nat → Prop} (h0 h_figures h_follower : Nat) (c_figures : ClassId) (v_count : Int32) (v_aheadOfPoint : Int32) (v_worthM : Int32) (v_worthN : Int32) (v_figures : (Nat → Int32)) (x1 : Int32) (ou0 : Int32) (ou1 : (Nat → Int32)) (hF : F_X4_addFigure x1 v_count v_figures = some (ou0, ou1)) (hC : CallFix p m c cX4_addFigure 2 s args wsX4_addFigure RX4) (hN : NW s) (hK : va_K (dC, dI) vwCl [(c_figures, .int)] s) (hP : va_P (dC, dI) vwCl (wd_X4_addFigure h0 h_figures h_follower c_figures v_count v_aheadOfPoint v_worthM v_worthN v_figures) H) (hA : ∀ q, s.heap.size ≤ q → A q) (hD : va_D A (wd_X4_addFigure h0 h_figures h_follower c_figures v_count v_aheadOfPoint v_worthM v_worthN v_figures)) (hS : va_S A s.heap H locs) (hE : ∀ (H : Heap) (locs : List Loc) (ls : Array Slot) (pc : Nat), va_P (dC, dI) vwCl (wd_X4_addFigure h0 h_figures h_follower c_figures ou0 v_aheadOfPoint v_worthM v_worthN ou1) H → va_S A s.heap H locs → decode cX4_addFigure pc = .ok (.return_, 1) → W p l e rm_X4_addFigure s m args below meth c H locs 0 0 Q (F0 m pc ls [])) (hl : lv_has ls 2 [(0, .ref h0), (1, .int x1)]) : W p l e rm_X4_addFigure s m args below meth c H locs 0 0 Q (F0 m 0 ls []) := by
  obtain ⟨hx, hb, hml, hown, hts⟩ := id hC
  have hD0 := hD
  unfold F_X4_addFigure at hF
  refine lv_aload_n hx hb dX4_addFigure_0 rfl (lv_at hl 0 rfl) ?_
  refine va_get (D := (dC, dI)) (ci := 4) (v := .int v_count) (C := RX4) (T := TX4) (N := 6) hx hb hts inn_X4_addFigure_X4 hown hK hP 0 rfl rfl 2 (by decide) (hts (.fieldLink RX4 18 "RingBases$Word" "count" "I") (List.mem_of_getElem? (i := 1) rfl)) (fun _ h9 => h9) rfl dX4_addFigure_1 ?_
  refine lv_aload_n hx hb dX4_addFigure_4 rfl (lv_at hl 0 rfl) ?_
  refine va_get (D := (dC, dI)) (ci := 4) (v := .ref h_figures) (C := RX4) (T := TX4) (N := 6) hx hb hts inn_X4_addFigure_X4 hown hK hP 0 rfl rfl 0 (by decide) (hts (.fieldLink RX4 9 "RingBases$Word" "figures" "[I") (List.mem_of_getElem? (i := 2) rfl)) (fun _ h9 => h9) rfl dX4_addFigure_5 ?_
  refine va_alen (v := (Int32.ofNat 60)) hx hb hK hP 1 0 rfl rfl rfl dX4_addFigure_8 ?_
  refine lv_icmp_ge (tgt := 32) hx hb dX4_addFigure_9 (by decide) (fun g_1 => ?_) (fun g_1 => ?_)
  · replace hF := ite_t g_1 hF
    obtain ⟨rfl, rfl⟩ := oks2 hF; exact hE _ _ _ _ hP hS dX4_addFigure_32
  · replace hF := ite_f g_1 hF
    refine lv_aload_n hx hb dX4_addFigure_12 rfl (lv_at hl 0 rfl) ?_
    refine va_get (D := (dC, dI)) (ci := 4) (v := .ref h_figures) (C := RX4) (T := TX4) (N := 6) hx hb hts inn_X4_addFigure_X4 hown hK hP 0 rfl rfl 0 (by decide) (hts (.fieldLink RX4 9 "RingBases$Word" "figures" "[I") (List.mem_of_getElem? (i := 2) rfl)) (fun _ h9 => h9) rfl dX4_addFigure_13 ?_
    refine lv_aload_n hx hb dX4_addFigure_16 rfl (lv_at hl 0 rfl) ?_
    refine va_get (D := (dC, dI)) (ci := 4) (v := .int v_count) (C := RX4) (T := TX4) (N := 6) hx hb hts inn_X4_addFigure_X4 hown hK hP 0 rfl rfl 2 (by decide) (hts (.fieldLink RX4 18 "RingBases$Word" "count" "I") (List.mem_of_getElem? (i := 1) rfl)) (fun _ h9 => h9) rfl dX4_addFigure_17 ?_
    refine lv_iload_n hx hb dX4_addFigure_20 rfl (lv_at hl 1 rfl) ?_
    obtain ⟨i_2, hF⟩ := ck_s hF
    refine va_iast hx hb hK hP hD hS 1 0 rfl rfl i_2 dX4_addFigure_21 (fun H locs hP hD hS => ?_)
    have hP : va_P (dC, dI) vwCl (wd_X4_addFigure h0 h_figures h_follower c_figures v_count v_aheadOfPoint v_worthM v_worthN (upd v_figures v_count.toNatClampNeg x1)) H := hP
    have hD : va_D A (wd_X4_addFigure h0 h_figures h_follower c_figures v_count v_aheadOfPoint v_worthM v_worthN (upd v_figures v_count.toNatClampNeg x1)) := hD
    refine lv_aload_n hx hb dX4_addFigure_22 rfl (lv_at hl 0 rfl) ?_
    refine lv_dup hx hb dX4_addFigure_23 rfl ?_
    refine va_get (D := (dC, dI)) (ci := 4) (v := .int v_count) (C := RX4) (T := TX4) (N := 6) hx hb hts inn_X4_addFigure_X4 hown hK hP 0 rfl rfl 2 (by decide) (hts (.fieldLink RX4 18 "RingBases$Word" "count" "I") (List.mem_of_getElem? (i := 1) rfl)) (fun _ h9 => h9) rfl dX4_addFigure_24 ?_
    refine lv_iconst (v := (1 : Int32)) hx hb dX4_addFigure_27 (by decide) ?_
    refine lv_iadd hx hb dX4_addFigure_28 ?_
    refine va_put (D := (dC, dI)) (ty := .int) (ci := 4) (v := .int (v_count + (1 : Int32))) (C := RX4) (T := TX4) (N := 6) hx hb hts inn_X4_addFigure_X4 tyX4 tyX4_ok nmX4 hown hK hP hD hS 0 rfl rfl 2 (by decide) (hts (.fieldLink RX4 18 "RingBases$Word" "count" "I") (List.mem_of_getElem? (i := 1) rfl)) (fun _ h9 => h9) rfl (by decide +kernel) rfl rfl (Nat.le_of_ble_eq_true rfl) dX4_addFigure_29 (fun H locs hP hD hS => ?_)
    have hP : va_P (dC, dI) vwCl (wd_X4_addFigure h0 h_figures h_follower c_figures (v_count + (1 : Int32)) v_aheadOfPoint v_worthM v_worthN (upd v_figures v_count.toNatClampNeg x1)) H := hP
    have hD : va_D A (wd_X4_addFigure h0 h_figures h_follower c_figures (v_count + (1 : Int32)) v_aheadOfPoint v_worthM v_worthN (upd v_figures v_count.toNatClampNeg x1)) := hD
    obtain ⟨rfl, rfl⟩ := oks2 hF; exact hE _ _ _ _ hP hS dX4_addFigure_32
set_option maxRecDepth 100000 in
set_option maxHeartbeats 4000000 in
theorem c_X4_addFigure (l : Launch) (dC : Nat → ClassId) (dI : Nat → Nat → Nat) (sz : Nat) (h0 h_figures h_follower : Nat) (c_figures : ClassId) (v_count : Int32) (v_aheadOfPoint : Int32) (v_worthM : Int32) (v_worthN : Int32) (v_figures : (Nat → Int32)) (x1 : Int32) (o : Int32 × (Nat → Int32)) (hF : F_X4_addFigure x1 v_count v_figures = some o) : Met l yX4_addFigure wsX4_addFigure rm_X4_addFigure (va_Pc [.ref h0, .int x1] (PcW dC dI sz (wd_X4_addFigure h0 h_figures h_follower c_figures v_count v_aheadOfPoint v_worthM v_worthN v_figures) [(c_figures, .int)])) (va_Qv (fun (_ : Unit) => True) (fun _ t => va_P (dC, dI) vwCl (wd_X4_addFigure h0 h_figures h_follower c_figures o.1 v_aheadOfPoint v_worthM v_worthN o.2) t.heap) (va_A (wd_X4_addFigure h0 h_figures h_follower c_figures v_count v_aheadOfPoint v_worthM v_worthN v_figures) sz)) 0 0 (va_A (wd_X4_addFigure h0 h_figures h_follower c_figures v_count v_aheadOfPoint v_worthM v_worthN v_figures) sz) := by
  refine Met.ofW (cc := cX4_addFigure) (maxL := 2) (ret := none) (by decide) rfl ?_
  intro p e s m args below meth c s₁ B hml hv
  obtain ⟨rfl, hsz, hP, hK, hD0, hN⟩ := hv
  subst hsz
  have hl := lv_entry ([.ref h0, .int x1]) (n := 2) (Nat.le_of_ble_eq_true rfl)
  rw [lg_entry_eq]
  generalize (lg_sl ([.ref h0, .int x1]) ++ List.replicate (2 - (lg_sl ([.ref h0, .int x1])).length) Slot.unset).toArray = ls at hl ⊢
  exact b_X4_addFigure h0 h_figures h_follower c_figures v_count v_aheadOfPoint v_worthM v_worthN v_figures x1 o.1 o.2 hF ⟨B.exec, B.bytes, hml, findClass_of_methodNamed B.named, atoms_spec (ws := wsX4_addFigure) B.pre⟩ hN hK hP (fun q h => Or.inr h) (hD0.self (sz := s.heap.size)) va_S.rf (fun H locs ls pc hP hS hd => W.vret B.exec B.bytes B.returns (fun t ht hW => ⟨⟨(), rfl, trivial, by show va_P (dC, dI) vwCl _ t.heap; rw [ht]; exact hP⟩, hS.F ht⟩) hS.2.2 hd B.notSynchronized) hl
theorem inn_X4_empty_X4 : ∀ w ∈ wsX40, w ∈ wsX4_empty := fun _ h => List.mem_cons_of_mem _ (List.mem_append_right _ h)
abbrev wd_X4_empty (h0 h_figures h_follower : Nat) (v_count : Int32) (v_aheadOfPoint : Int32) (v_worthM : Int32) (v_worthN : Int32) : va_W := [(h0, .inr (4, [.ref h_figures, .ref h_follower, .int v_count, .int v_aheadOfPoint, .int v_worthM, .int v_worthN]))]
abbrev rm_X4_empty : Room := { frames := 0, cells := 0, slots := 0, locals := 0 }
def F_X4_empty : Int32 × Int32 := ((0 : Int32), (-1 : Int32))
set_option maxRecDepth 100000 in
set_option maxHeartbeats 4000000 in
theorem b_X4_empty {p : Program} {l : Launch} {e : Env} {s : State} {m : MethodId} {args : Array Value} {below : List Frame} {meth : Method} {c : Code} {Q : State → Prop} {dC : Nat → ClassId} {dI : Nat → Nat → Nat} {H : Heap} {locs : List Loc} {ls : Array Slot} {A : Nat → Prop} (h0 h_figures h_follower : Nat) (v_count : Int32) (v_aheadOfPoint : Int32) (v_worthM : Int32) (v_worthN : Int32) (ou0 : Int32) (ou1 : Int32) (hF : F_X4_empty  = (ou0, ou1)) (hC : CallFix p m c cX4_empty 1 s args wsX4_empty RX4) (hN : NW s) (hK : va_K (dC, dI) vwCl [] s) (hP : va_P (dC, dI) vwCl (wd_X4_empty h0 h_figures h_follower v_count v_aheadOfPoint v_worthM v_worthN) H) (hA : ∀ q, s.heap.size ≤ q → A q) (hD : va_D A (wd_X4_empty h0 h_figures h_follower v_count v_aheadOfPoint v_worthM v_worthN)) (hS : va_S A s.heap H locs) (hE : ∀ (H : Heap) (locs : List Loc) (ls : Array Slot) (pc : Nat), va_P (dC, dI) vwCl (wd_X4_empty h0 h_figures h_follower ou0 ou1 v_worthM v_worthN) H → va_S A s.heap H locs → decode cX4_empty pc = .ok (.return_, 1) → W p l e rm_X4_empty s m args below meth c H locs 0 0 Q (F0 m pc ls [])) (hl : lv_has ls 1 [(0, .ref h0)]) : W p l e rm_X4_empty s m args below meth c H locs 0 0 Q (F0 m 0 ls []) := by
  obtain ⟨hx, hb, hml, hown, hts⟩ := id hC
  have hD0 := hD
  unfold F_X4_empty at hF
  refine lv_aload_n hx hb dX4_empty_0 rfl (lv_at hl 0 rfl) ?_
  refine lv_iconst (v := (0 : Int32)) hx hb dX4_empty_1 (by decide) ?_
  refine va_put (D := (dC, dI)) (ty := .int) (ci := 4) (v := .int (0 : Int32)) (C := RX4) (T := TX4) (N := 6) hx hb hts inn_X4_empty_X4 tyX4 tyX4_ok nmX4 hown hK hP hD hS 0 rfl rfl 2 (by decide) (hts (.fieldLink RX4 18 "RingBases$Word" "count" "I") (List.mem_of_getElem? (i := 1) rfl)) (fun _ h9 => h9) rfl (by decide +kernel) rfl rfl (Nat.le_of_ble_eq_true rfl) dX4_empty_2 (fun H locs hP hD hS => ?_)
  have hP : va_P (dC, dI) vwCl (wd_X4_empty h0 h_figures h_follower (0 : Int32) v_aheadOfPoint v_worthM v_worthN) H := hP
  have hD : va_D A (wd_X4_empty h0 h_figures h_follower (0 : Int32) v_aheadOfPoint v_worthM v_worthN) := hD
  refine lv_aload_n hx hb dX4_empty_5 rfl (lv_at hl 0 rfl) ?_
  refine lv_iconst (v := (-1 : Int32)) hx hb dX4_empty_6 (by decide) ?_
  refine va_put (D := (dC, dI)) (ty := .int) (ci := 4) (v := .int (-1 : Int32)) (C := RX4) (T := TX4) (N := 6) hx hb hts inn_X4_empty_X4 tyX4 tyX4_ok nmX4 hown hK hP hD hS 0 rfl rfl 3 (by decide) (hts (.fieldLink RX4 22 "RingBases$Word" "aheadOfPoint" "I") (List.mem_of_getElem? (i := 2) rfl)) (fun _ h9 => h9) rfl (by decide +kernel) rfl rfl (Nat.le_of_ble_eq_true rfl) dX4_empty_7 (fun H locs hP hD hS => ?_)
  have hP : va_P (dC, dI) vwCl (wd_X4_empty h0 h_figures h_follower (0 : Int32) (-1 : Int32) v_worthM v_worthN) H := hP
  have hD : va_D A (wd_X4_empty h0 h_figures h_follower (0 : Int32) (-1 : Int32) v_worthM v_worthN) := hD
  obtain ⟨rfl, rfl⟩ := okt2 hF; exact hE _ _ _ _ hP hS dX4_empty_10
set_option maxRecDepth 100000 in
set_option maxHeartbeats 4000000 in
theorem c_X4_empty (l : Launch) (dC : Nat → ClassId) (dI : Nat → Nat → Nat) (sz : Nat) (h0 h_figures h_follower : Nat) (v_count : Int32) (v_aheadOfPoint : Int32) (v_worthM : Int32) (v_worthN : Int32) (o : Int32 × Int32) (hF : F_X4_empty  = o) : Met l yX4_empty wsX4_empty rm_X4_empty (va_Pc [.ref h0] (PcW dC dI sz (wd_X4_empty h0 h_figures h_follower v_count v_aheadOfPoint v_worthM v_worthN) [])) (va_Qv (fun (_ : Unit) => True) (fun _ t => va_P (dC, dI) vwCl (wd_X4_empty h0 h_figures h_follower o.1 o.2 v_worthM v_worthN) t.heap) (va_A (wd_X4_empty h0 h_figures h_follower v_count v_aheadOfPoint v_worthM v_worthN) sz)) 0 0 (va_A (wd_X4_empty h0 h_figures h_follower v_count v_aheadOfPoint v_worthM v_worthN) sz) := by
  refine Met.ofW (cc := cX4_empty) (maxL := 1) (ret := none) (by decide) rfl ?_
  intro p e s m args below meth c s₁ B hml hv
  obtain ⟨rfl, hsz, hP, hK, hD0, hN⟩ := hv
  subst hsz
  have hl := lv_entry ([.ref h0]) (n := 1) (Nat.le_of_ble_eq_true rfl)
  rw [lg_entry_eq]
  generalize (lg_sl ([.ref h0]) ++ List.replicate (1 - (lg_sl ([.ref h0])).length) Slot.unset).toArray = ls at hl ⊢
  exact b_X4_empty h0 h_figures h_follower v_count v_aheadOfPoint v_worthM v_worthN o.1 o.2 hF ⟨B.exec, B.bytes, hml, findClass_of_methodNamed B.named, atoms_spec (ws := wsX4_empty) B.pre⟩ hN hK hP (fun q h => Or.inr h) (hD0.self (sz := s.heap.size)) va_S.rf (fun H locs ls pc hP hS hd => W.vret B.exec B.bytes B.returns (fun t ht hW => ⟨⟨(), rfl, trivial, by show va_P (dC, dI) vwCl _ t.heap; rw [ht]; exact hP⟩, hS.F ht⟩) hS.2.2 hd B.notSynchronized) hl
theorem inn_X4_findFollower_X4 : ∀ w ∈ wsX40, w ∈ wsX4_findFollower := fun _ h => List.mem_cons_of_mem _ (List.mem_append_left _ (List.mem_append_right _ h))
abbrev wd_X4_findFollower (h0 h_figures h_follower h_p1 : Nat) (c_figures c_follower : ClassId) (v_count : Int32) (v_aheadOfPoint : Int32) (v_worthM : Int32) (v_worthN : Int32) (v_figures : (Nat → Int32)) (v_follower : (Nat → Int32)) (v_p1_a : Int32) (v_p1_b : Int32) : va_W := [(h0, .inr (4, [.ref h_figures, .ref h_follower, .int v_count, .int v_aheadOfPoint, .int v_worthM, .int v_worthN])), (h_figures, .inl (c_figures, 60, .inl v_figures)), (h_follower, .inl (c_follower, 60, .inl v_follower)), (h_p1, .inr (0, [.int v_p1_a, .int v_p1_b]))]
abbrev rm_X4_findFollower : Room := { frames := 3, cells := 0, slots := 0, locals := 69 }
def F_X4_findFollower_24 (v_p1_a : Int32) (v_p1_b : Int32) : Nat → Int32 → (Nat → Int32) → Option (Int32 × (Nat → Int32))
  | 0, _, _ => none
  | fu + 1, x2, v_follower => (if x2 < 0 then (some ((0 : Int32), v_follower)) else (ck x2 60 ((F_X4_firstBad (x2 + (1 : Int32)) 60 (upd v_follower x2.toNatClampNeg ((v_follower x2.toNatClampNeg) + (1 : Int32))) v_p1_a v_p1_b).bind fun o_3 => (if o_3 = (-1 : Int32) then (some ((1 : Int32), (upd v_follower x2.toNatClampNeg ((v_follower x2.toNatClampNeg) + (1 : Int32))))) else (F_X4_findFollower_24 v_p1_a v_p1_b fu (x2 + (-1 : Int32)) (upd (upd v_follower x2.toNatClampNeg ((v_follower x2.toNatClampNeg) + (1 : Int32))) x2.toNatClampNeg (0 : Int32)))))))
def F_X4_findFollower (v_count : Int32) (v_figures : (Nat → Int32)) (v_follower : (Nat → Int32)) (v_p1_a : Int32) (v_p1_b : Int32) : Option (Int32 × (Nat → Int32)) := (cpk (0 : Int32) (0 : Int32) v_count 60 60 (F_X4_findFollower_24  v_p1_a v_p1_b 128 (v_count - (1 : Int32)) (va_cpy v_figures v_follower (0 : Int32).toNatClampNeg (0 : Int32).toNatClampNeg v_count.toNatClampNeg)))
set_option maxRecDepth 100000 in
set_option maxHeartbeats 4000000 in
theorem b_X4_findFollower {p : Program} {l : Launch} {e : Env} {s : State} {m : MethodId} {args : Array Value} {below : List Frame} {meth : Method} {c : Code} {Q : State → Prop} {dC : Nat → ClassId} {dI : Nat → Nat → Nat} {H : Heap} {locs : List Loc} {ls : Array Slot} {A : Nat → Prop} (h0 h_figures h_follower h_p1 : Nat) (c_figures c_follower : ClassId) (v_count : Int32) (v_aheadOfPoint : Int32) (v_worthM : Int32) (v_worthN : Int32) (v_figures : (Nat → Int32)) (v_follower : (Nat → Int32)) (v_p1_a : Int32) (v_p1_b : Int32) (ou0 : Int32) (ou1 : (Nat → Int32)) (hF : F_X4_findFollower v_count v_figures v_follower v_p1_a v_p1_b = some (ou0, ou1)) (hC : CallFix p m c cX4_findFollower 3 s args wsX4_findFollower RX4) (hN : NW s) (hK : va_K (dC, dI) vwCl [(c_figures, .int), (c_follower, .int)] s) (hP : va_P (dC, dI) vwCl (wd_X4_findFollower h0 h_figures h_follower h_p1 c_figures c_follower v_count v_aheadOfPoint v_worthM v_worthN v_figures v_follower v_p1_a v_p1_b) H) (hA : ∀ q, s.heap.size ≤ q → A q) (hD : va_D A (wd_X4_findFollower h0 h_figures h_follower h_p1 c_figures c_follower v_count v_aheadOfPoint v_worthM v_worthN v_figures v_follower v_p1_a v_p1_b)) (hS : va_S A s.heap H locs) (hE : ∀ (H : Heap) (locs : List Loc) (ls : Array Slot) (pc : Nat), va_P (dC, dI) vwCl (wd_X4_findFollower h0 h_figures h_follower h_p1 c_figures c_follower v_count v_aheadOfPoint v_worthM v_worthN v_figures ou1 v_p1_a v_p1_b) H → va_S A s.heap H locs → narrow .boolean (.int ou0) = .int ou0 → decode cX4_findFollower pc = .ok (.ireturn, 1) → W p l e rm_X4_findFollower s m args below meth c H locs 0 0 Q (F0 m pc ls [.int ou0])) (hl : lv_has ls 3 [(0, .ref h0), (1, .ref h_p1)]) : W p l e rm_X4_findFollower s m args below meth c H locs 0 0 Q (F0 m 0 ls []) := by
  obtain ⟨hx, hb, hml, hown, hts⟩ := id hC
  have hD0 := hD
  unfold F_X4_findFollower at hF
  have k_24 : ∀ (fu_24 : Nat) (x2 : Int32) (v_follower : (Nat → Int32)), F_X4_findFollower_24  v_p1_a v_p1_b fu_24 x2 v_follower = some (ou0, ou1) → ∀ (H : Heap) (locs : List Loc), va_P (dC, dI) vwCl (wd_X4_findFollower h0 h_figures h_follower h_p1 c_figures c_follower v_count v_aheadOfPoint v_worthM v_worthN v_figures v_follower v_p1_a v_p1_b) H → va_S A s.heap H locs → ∀ ls : Array Slot, lv_has ls 3 [(0, .ref h0), (1, .ref h_p1), (2, .int x2)] → W p l e rm_X4_findFollower s m args below meth c H locs 0 0 Q (F0 m 24 ls []) := by
    intro fu_24
    induction fu_24 with
    | zero => intro x2 v_follower hF; rw [F_X4_findFollower_24] at hF; cases hF
    | succ fu_24 ih =>
      intro x2 v_follower hF H locs hP hS ls hl
      rw [F_X4_findFollower_24] at hF
      have ih_24 := ih
      have hD : va_D A (wd_X4_findFollower h0 h_figures h_follower h_p1 c_figures c_follower v_count v_aheadOfPoint v_worthM v_worthN v_figures v_follower v_p1_a v_p1_b) := hD0.re rfl
      refine lv_iload_n hx hb dX4_findFollower_24 rfl (lv_at hl 2 rfl) ?_
      refine lv_if_lt (tgt := 68) hx hb dX4_findFollower_25 (by decide) (fun g_1 => ?_) (fun g_1 => ?_)
      · replace hF := ite_t g_1 hF
        refine lv_iconst (v := (0 : Int32)) hx hb dX4_findFollower_68 (by decide) ?_
        obtain ⟨rfl, rfl⟩ := oks2 hF; exact hE _ _ _ _ hP hS (zk_n (Or.inl rfl)) dX4_findFollower_69
      · replace hF := ite_f g_1 hF
        refine lv_aload_n hx hb dX4_findFollower_28 rfl (lv_at hl 0 rfl) ?_
        refine va_get (D := (dC, dI)) (ci := 4) (v := .ref h_follower) (C := RX4) (T := TX4) (N := 6) hx hb hts inn_X4_findFollower_X4 hown hK hP 0 rfl rfl 1 (by decide) (hts (.fieldLink RX4 15 "RingBases$Word" "follower" "[I") (List.mem_of_getElem? (i := 2) rfl)) (fun _ h9 => h9) rfl dX4_findFollower_29 ?_
        refine lv_iload_n hx hb dX4_findFollower_32 rfl (lv_at hl 2 rfl) ?_
        refine lv_dup2_11 hx hb dX4_findFollower_33 rfl rfl ?_
        obtain ⟨i_2, hF⟩ := ck_s hF
        refine va_iald hx hb hK hP 2 1 rfl rfl i_2 dX4_findFollower_34 ?_
        refine lv_iconst (v := (1 : Int32)) hx hb dX4_findFollower_35 (by decide) ?_
        refine lv_iadd hx hb dX4_findFollower_36 ?_
        refine va_iast hx hb hK hP hD hS 2 1 rfl rfl i_2 dX4_findFollower_37 (fun H locs hP hD hS => ?_)
        have hP : va_P (dC, dI) vwCl (wd_X4_findFollower h0 h_figures h_follower h_p1 c_figures c_follower v_count v_aheadOfPoint v_worthM v_worthN v_figures (upd v_follower x2.toNatClampNeg ((v_follower x2.toNatClampNeg) + (1 : Int32))) v_p1_a v_p1_b) H := hP
        have hD : va_D A (wd_X4_findFollower h0 h_figures h_follower h_p1 c_figures c_follower v_count v_aheadOfPoint v_worthM v_worthN v_figures (upd v_follower x2.toNatClampNeg ((v_follower x2.toNatClampNeg) + (1 : Int32))) v_p1_a v_p1_b) := hD
        refine lv_aload_n hx hb dX4_findFollower_38 rfl (lv_at hl 0 rfl) ?_
        refine va_get (D := (dC, dI)) (ci := 4) (v := .ref h_follower) (C := RX4) (T := TX4) (N := 6) hx hb hts inn_X4_findFollower_X4 hown hK hP 0 rfl rfl 1 (by decide) (hts (.fieldLink RX4 15 "RingBases$Word" "follower" "[I") (List.mem_of_getElem? (i := 2) rfl)) (fun _ h9 => h9) rfl dX4_findFollower_39 ?_
        refine lv_iload_n hx hb dX4_findFollower_42 rfl (lv_at hl 2 rfl) ?_
        refine lv_iconst (v := (1 : Int32)) hx hb dX4_findFollower_43 (by decide) ?_
        refine lv_iadd hx hb dX4_findFollower_44 ?_
        refine lv_aload_n hx hb dX4_findFollower_45 rfl (lv_at hl 1 rfl) ?_
        obtain ⟨o_3, hc_o_3, hF⟩ := bd_s hF
        refine rdSi (As := [.ref h_follower, .int (x2 + (1 : Int32)), .ref h_p1]) (rest := []) hC (c_X4_firstBad l dC dI h_follower h_p1 c_follower 60 (upd v_follower x2.toNatClampNeg ((v_follower x2.toNatClampNeg) + (1 : Int32))) v_p1_a v_p1_b (x2 + (1 : Int32)) o_3 hc_o_3) (va_cwS 3 hts gX4_findFollower_X4_firstBad rfl rfl rfl (by decide +kernel) ⟨Nat.le_of_ble_eq_true rfl, Nat.le_of_ble_eq_true rfl⟩) hN (hK.sub (tys' := [(c_follower, .int)]) [1] rfl) (hP.sub (ws' := (wd_X4_firstBad h_follower h_p1 c_follower 60 (upd v_follower x2.toNatClampNeg ((v_follower x2.toNatClampNeg) + (1 : Int32))) v_p1_a v_p1_b)) [2, 3] rfl) rfl rfl hl.1 (Nat.le_of_ble_eq_true rfl) dX4_findFollower_46 ⟨Nat.zero_le _, Nat.zero_le _⟩ ?_
        refine lv_iconst (v := (-1 : Int32)) hx hb dX4_findFollower_49 (by decide) ?_
        refine lv_icmp_ne (tgt := 55) hx hb dX4_findFollower_50 (by decide) (fun g_4 => ?_) (fun g_4 => ?_)
        · replace hF := ite_f g_4 hF
          refine lv_aload_n hx hb dX4_findFollower_55 rfl (lv_at hl 0 rfl) ?_
          refine va_get (D := (dC, dI)) (ci := 4) (v := .ref h_follower) (C := RX4) (T := TX4) (N := 6) hx hb hts inn_X4_findFollower_X4 hown hK hP 0 rfl rfl 1 (by decide) (hts (.fieldLink RX4 15 "RingBases$Word" "follower" "[I") (List.mem_of_getElem? (i := 2) rfl)) (fun _ h9 => h9) rfl dX4_findFollower_56 ?_
          refine lv_iload_n hx hb dX4_findFollower_59 rfl (lv_at hl 2 rfl) ?_
          refine lv_iconst (v := (0 : Int32)) hx hb dX4_findFollower_60 (by decide) ?_
          refine va_iast hx hb hK hP hD hS 2 1 rfl rfl i_2 dX4_findFollower_61 (fun H locs hP hD hS => ?_)
          have hP : va_P (dC, dI) vwCl (wd_X4_findFollower h0 h_figures h_follower h_p1 c_figures c_follower v_count v_aheadOfPoint v_worthM v_worthN v_figures (upd (upd v_follower x2.toNatClampNeg ((v_follower x2.toNatClampNeg) + (1 : Int32))) x2.toNatClampNeg (0 : Int32)) v_p1_a v_p1_b) H := hP
          have hD : va_D A (wd_X4_findFollower h0 h_figures h_follower h_p1 c_figures c_follower v_count v_aheadOfPoint v_worthM v_worthN v_figures (upd (upd v_follower x2.toNatClampNeg ((v_follower x2.toNatClampNeg) + (1 : Int32))) x2.toNatClampNeg (0 : Int32)) v_p1_a v_p1_b) := hD
          refine lv_iinc (v := (x2 + (-1 : Int32))) (lv' := [(2, .int (x2 + (-1 : Int32))), (0, .ref h0), (1, .ref h_p1)]) hx hb dX4_findFollower_62 hl (k := 2) rfl rfl (by decide) rfl (fun ls hl => ?_)
          refine lv_goto (tgt := 24) hx hb dX4_findFollower_65 (by decide) ?_
          exact ih (x2 + (-1 : Int32)) (upd (upd v_follower x2.toNatClampNeg ((v_follower x2.toNatClampNeg) + (1 : Int32))) x2.toNatClampNeg (0 : Int32)) hF H locs hP hS ls (lv_sub hl [1, 2, 0] rfl)
        · replace hF := ite_t g_4 hF
          refine lv_iconst (v := (1 : Int32)) hx hb dX4_findFollower_53 (by decide) ?_
          obtain ⟨rfl, rfl⟩ := oks2 hF; exact hE _ _ _ _ hP hS (zk_n (Or.inr rfl)) dX4_findFollower_54
  refine lv_aload_n hx hb dX4_findFollower_0 rfl (lv_at hl 0 rfl) ?_
  refine va_get (D := (dC, dI)) (ci := 4) (v := .ref h_figures) (C := RX4) (T := TX4) (N := 6) hx hb hts inn_X4_findFollower_X4 hown hK hP 0 rfl rfl 0 (by decide) (hts (.fieldLink RX4 9 "RingBases$Word" "figures" "[I") (List.mem_of_getElem? (i := 1) rfl)) (fun _ h9 => h9) rfl dX4_findFollower_1 ?_
  refine lv_iconst (v := (0 : Int32)) hx hb dX4_findFollower_4 (by decide) ?_
  refine lv_aload_n hx hb dX4_findFollower_5 rfl (lv_at hl 0 rfl) ?_
  refine va_get (D := (dC, dI)) (ci := 4) (v := .ref h_follower) (C := RX4) (T := TX4) (N := 6) hx hb hts inn_X4_findFollower_X4 hown hK hP 0 rfl rfl 1 (by decide) (hts (.fieldLink RX4 15 "RingBases$Word" "follower" "[I") (List.mem_of_getElem? (i := 2) rfl)) (fun _ h9 => h9) rfl dX4_findFollower_6 ?_
  refine lv_iconst (v := (0 : Int32)) hx hb dX4_findFollower_9 (by decide) ?_
  refine lv_aload_n hx hb dX4_findFollower_10 rfl (lv_at hl 0 rfl) ?_
  refine va_get (D := (dC, dI)) (ci := 4) (v := .int v_count) (C := RX4) (T := TX4) (N := 6) hx hb hts inn_X4_findFollower_X4 hown hK hP 0 rfl rfl 2 (by decide) (hts (.fieldLink RX4 18 "RingBases$Word" "count" "I") (List.mem_of_getElem? (i := 3) rfl)) (fun _ h9 => h9) rfl dX4_findFollower_11 ?_
  obtain ⟨i_5, hF⟩ := cpk_s hF
  refine va_copyi hx hb (hml.trans hl.1.symm) hown (hts (.methodLink RX4 81 arraycopyName) (List.mem_of_getElem? (i := 4) rfl)) (hts (.native arraycopyName) (List.mem_of_getElem? (i := 5) rfl)) (hts (.static arraycopyName) (List.mem_of_getElem? (i := 6) rfl)) (hts (.initialized "java/lang/System") (List.mem_of_getElem? (i := 7) rfl)) hK hP hD hS 1 2 0 1 rfl rfl rfl rfl rfl i_5.1 i_5.2.1 i_5.2.2.1 i_5.2.2.2.1 i_5.2.2.2.2 (fun _ _ => rfl) (Nat.le_of_ble_eq_true rfl) (by decide) dX4_findFollower_14 (fun H locs hP hD hS => ?_)
  have hP : va_P (dC, dI) vwCl (wd_X4_findFollower h0 h_figures h_follower h_p1 c_figures c_follower v_count v_aheadOfPoint v_worthM v_worthN v_figures (va_cpy v_figures v_follower (0 : Int32).toNatClampNeg (0 : Int32).toNatClampNeg v_count.toNatClampNeg) v_p1_a v_p1_b) H := hP
  have hD : va_D A (wd_X4_findFollower h0 h_figures h_follower h_p1 c_figures c_follower v_count v_aheadOfPoint v_worthM v_worthN v_figures (va_cpy v_figures v_follower (0 : Int32).toNatClampNeg (0 : Int32).toNatClampNeg v_count.toNatClampNeg) v_p1_a v_p1_b) := hD
  refine lv_aload_n hx hb dX4_findFollower_17 rfl (lv_at hl 0 rfl) ?_
  refine va_get (D := (dC, dI)) (ci := 4) (v := .int v_count) (C := RX4) (T := TX4) (N := 6) hx hb hts inn_X4_findFollower_X4 hown hK hP 0 rfl rfl 2 (by decide) (hts (.fieldLink RX4 18 "RingBases$Word" "count" "I") (List.mem_of_getElem? (i := 3) rfl)) (fun _ h9 => h9) rfl dX4_findFollower_18 ?_
  refine lv_iconst (v := (1 : Int32)) hx hb dX4_findFollower_21 (by decide) ?_
  refine lv_isub hx hb dX4_findFollower_22 ?_
  refine lv_istore_n (lv' := [(2, .int (v_count - (1 : Int32))), (0, .ref h0), (1, .ref h_p1)]) hx hb dX4_findFollower_23 rfl hl (by decide) rfl (fun ls hl => ?_)
  exact k_24 _ (v_count - (1 : Int32)) (va_cpy v_figures v_follower (0 : Int32).toNatClampNeg (0 : Int32).toNatClampNeg v_count.toNatClampNeg) hF H locs hP hS ls (lv_sub hl [1, 2, 0] rfl)
set_option maxRecDepth 100000 in
set_option maxHeartbeats 4000000 in
theorem c_X4_findFollower (l : Launch) (dC : Nat → ClassId) (dI : Nat → Nat → Nat) (sz : Nat) (h0 h_figures h_follower h_p1 : Nat) (c_figures c_follower : ClassId) (v_count : Int32) (v_aheadOfPoint : Int32) (v_worthM : Int32) (v_worthN : Int32) (v_figures : (Nat → Int32)) (v_follower : (Nat → Int32)) (v_p1_a : Int32) (v_p1_b : Int32) (o : Int32 × (Nat → Int32)) (hF : F_X4_findFollower v_count v_figures v_follower v_p1_a v_p1_b = some o) : Met l yX4_findFollower wsX4_findFollower rm_X4_findFollower (va_Pc [.ref h0, .ref h_p1] (PcW dC dI sz (wd_X4_findFollower h0 h_figures h_follower h_p1 c_figures c_follower v_count v_aheadOfPoint v_worthM v_worthN v_figures v_follower v_p1_a v_p1_b) [(c_figures, .int), (c_follower, .int)])) (va_Qi (fun (r : Int32) (_ : Unit) => r = o.1) (fun _ t => va_P (dC, dI) vwCl (wd_X4_findFollower h0 h_figures h_follower h_p1 c_figures c_follower v_count v_aheadOfPoint v_worthM v_worthN v_figures o.2 v_p1_a v_p1_b) t.heap) (va_A (wd_X4_findFollower h0 h_figures h_follower h_p1 c_figures c_follower v_count v_aheadOfPoint v_worthM v_worthN v_figures v_follower v_p1_a v_p1_b) sz)) 0 0 (va_A (wd_X4_findFollower h0 h_figures h_follower h_p1 c_figures c_follower v_count v_aheadOfPoint v_worthM v_worthN v_figures v_follower v_p1_a v_p1_b) sz) := by
  refine Met.ofW (cc := cX4_findFollower) (maxL := 3) (ret := (some .boolean)) (by decide) rfl ?_
  intro p e s m args below meth c s₁ B hml hv
  obtain ⟨rfl, hsz, hP, hK, hD0, hN⟩ := hv
  subst hsz
  have hl := lv_entry ([.ref h0, .ref h_p1]) (n := 3) (Nat.le_of_ble_eq_true rfl)
  rw [lg_entry_eq]
  generalize (lg_sl ([.ref h0, .ref h_p1]) ++ List.replicate (3 - (lg_sl ([.ref h0, .ref h_p1])).length) Slot.unset).toArray = ls at hl ⊢
  exact b_X4_findFollower h0 h_figures h_follower h_p1 c_figures c_follower v_count v_aheadOfPoint v_worthM v_worthN v_figures v_follower v_p1_a v_p1_b o.1 o.2 hF ⟨B.exec, B.bytes, hml, findClass_of_methodNamed B.named, atoms_spec (ws := wsX4_findFollower) B.pre⟩ hN hK hP (fun q h => Or.inr h) (hD0.self (sz := s.heap.size)) va_S.rf (fun H locs ls pc hP hS hn hd => W.zret B.exec B.bytes B.returns hn (fun t ht hW => ⟨⟨_, (), rfl, rfl, by show va_P (dC, dI) vwCl _ t.heap; rw [ht]; exact hP⟩, hS.F ht⟩) hS.2.2 hd B.notSynchronized) hl
theorem inn_X4_copyFrom_X4 : ∀ w ∈ wsX40, w ∈ wsX4_copyFrom := fun _ h => List.mem_cons_of_mem _ (List.mem_append_right _ h)
theorem inn_X4_copyFrom_X5 : ∀ w ∈ wsX50, w ∈ wsX4_copyFrom := fun _ h => List.mem_cons_of_mem _ (List.mem_append_left _ (List.mem_append_right _ h))
abbrev wd_X4_copyFrom (h0 h_figures h_follower h_p1 h_p1_figures h_p1_powerMs h_p1_powerNs h_p1_restMs h_p1_restNs : Nat) (c_figures c_p1_figures : ClassId) (v_count : Int32) (v_aheadOfPoint : Int32) (v_worthM : Int32) (v_worthN : Int32) (v_figures : (Nat → Int32)) (v_p1_ahead : Int32) (v_p1_behind : Int32) (v_p1_ends : Int32) (v_p1_lead : Int32) (v_p1_round : Int32) (v_p1_leftM : Int64) (v_p1_leftN : Int64) (v_p1_ofA : Int32) (v_p1_ofB : Int32) (v_p1_ofM : Int32) (v_p1_ofN : Int32) (v_p1_figures : (Nat → Int32)) : va_W := [(h0, .inr (4, [.ref h_figures, .ref h_follower, .int v_count, .int v_aheadOfPoint, .int v_worthM, .int v_worthN])), (h_figures, .inl (c_figures, 60, .inl v_figures)), (h_p1, .inr (5, [.ref h_p1_figures, .int v_p1_ahead, .int v_p1_behind, .int v_p1_ends, .int v_p1_lead, .int v_p1_round, .ref h_p1_powerMs, .ref h_p1_powerNs, .ref h_p1_restMs, .ref h_p1_restNs, .long v_p1_leftM, .long v_p1_leftN, .int v_p1_ofA, .int v_p1_ofB, .int v_p1_ofM, .int v_p1_ofN])), (h_p1_figures, .inl (c_p1_figures, 101, .inl v_p1_figures))]
abbrev rm_X4_copyFrom : Room := { frames := 1, cells := 0, slots := 0, locals := 21 }
def F_X4_copyFrom_30 (v_p1_ahead : Int32) (v_p1_behind : Int32) (v_count : Int32) (v_aheadOfPoint : Int32) (v_figures : (Nat → Int32)) : Option (Int32 × Int32 × (Nat → Int32)) := (if v_p1_behind ≤ 0 then (some (v_count, v_aheadOfPoint, v_figures)) else (some (v_count, v_p1_ahead, v_figures)))
def F_X4_copyFrom_6 (v_p1_ahead : Int32) (v_p1_behind : Int32) (v_p1_figures : (Nat → Int32)) : Nat → Int32 → Int32 → Int32 → (Nat → Int32) → Option (Int32 × Int32 × (Nat → Int32))
  | 0, _, _, _, _ => none
  | fu + 1, x2, v_count, v_aheadOfPoint, v_figures => (if (F_X5_figureCount v_p1_ahead v_p1_behind) ≤ x2 then (F_X4_copyFrom_30  v_p1_ahead v_p1_behind v_count v_aheadOfPoint v_figures) else (ck x2 101 ((F_X4_addFigure (v_p1_figures x2.toNatClampNeg) v_count v_figures).bind fun o_4 => (F_X4_copyFrom_6 v_p1_ahead v_p1_behind v_p1_figures fu (x2 + (1 : Int32)) o_4.1 v_aheadOfPoint o_4.2))))
def F_X4_copyFrom (v_figures : (Nat → Int32)) (v_p1_ahead : Int32) (v_p1_behind : Int32) (v_p1_figures : (Nat → Int32)) : Option (Int32 × Int32 × (Nat → Int32)) := (F_X4_copyFrom_6  v_p1_ahead v_p1_behind v_p1_figures 128 (0 : Int32) F_X4_empty.1 F_X4_empty.2 v_figures)
set_option maxRecDepth 100000 in
set_option maxHeartbeats 4000000 in
theorem b_X4_copyFrom {p : Program} {l : Launch} {e : Env} {s : State} {m : MethodId} {args : Array Value} {below : List Frame} {meth : Method} {c : Code} {Q : State → Prop} {dC : Nat → ClassId} {dI : Nat → Nat → Nat} {H : Heap} {locs : List Loc} {ls : Array Slot} {A : Nat → Prop} (h0 h_figures h_follower h_p1 h_p1_figures h_p1_powerMs h_p1_powerNs h_p1_restMs h_p1_restNs : Nat) (c_figures c_p1_figures : ClassId) (v_count : Int32) (v_aheadOfPoint : Int32) (v_worthM : Int32) (v_worthN : Int32) (v_figures : (Nat → Int32)) (v_p1_ahead : Int32) (v_p1_behind : Int32) (v_p1_ends : Int32) (v_p1_lead : Int32) (v_p1_round : Int32) (v_p1_leftM : Int64) (v_p1_leftN : Int64) (v_p1_ofA : Int32) (v_p1_ofB : Int32) (v_p1_ofM : Int32) (v_p1_ofN : Int32) (v_p1_figures : (Nat → Int32)) (ou0 : Int32) (ou1 : Int32) (ou2 : (Nat → Int32)) (hF : F_X4_copyFrom v_figures v_p1_ahead v_p1_behind v_p1_figures = some (ou0, ou1, ou2)) (hC : CallFix p m c cX4_copyFrom 3 s args wsX4_copyFrom RX4) (hN : NW s) (hK : va_K (dC, dI) vwCl [(c_figures, .int), (c_p1_figures, .int)] s) (hP : va_P (dC, dI) vwCl (wd_X4_copyFrom h0 h_figures h_follower h_p1 h_p1_figures h_p1_powerMs h_p1_powerNs h_p1_restMs h_p1_restNs c_figures c_p1_figures v_count v_aheadOfPoint v_worthM v_worthN v_figures v_p1_ahead v_p1_behind v_p1_ends v_p1_lead v_p1_round v_p1_leftM v_p1_leftN v_p1_ofA v_p1_ofB v_p1_ofM v_p1_ofN v_p1_figures) H) (hA : ∀ q, s.heap.size ≤ q → A q) (hD : va_D A (wd_X4_copyFrom h0 h_figures h_follower h_p1 h_p1_figures h_p1_powerMs h_p1_powerNs h_p1_restMs h_p1_restNs c_figures c_p1_figures v_count v_aheadOfPoint v_worthM v_worthN v_figures v_p1_ahead v_p1_behind v_p1_ends v_p1_lead v_p1_round v_p1_leftM v_p1_leftN v_p1_ofA v_p1_ofB v_p1_ofM v_p1_ofN v_p1_figures)) (hS : va_S A s.heap H locs) (hE : ∀ (H : Heap) (locs : List Loc) (ls : Array Slot) (pc : Nat), va_P (dC, dI) vwCl (wd_X4_copyFrom h0 h_figures h_follower h_p1 h_p1_figures h_p1_powerMs h_p1_powerNs h_p1_restMs h_p1_restNs c_figures c_p1_figures ou0 ou1 v_worthM v_worthN ou2 v_p1_ahead v_p1_behind v_p1_ends v_p1_lead v_p1_round v_p1_leftM v_p1_leftN v_p1_ofA v_p1_ofB v_p1_ofM v_p1_ofN v_p1_figures) H → va_S A s.heap H locs → decode cX4_copyFrom pc = .ok (.return_, 1) → W p l e rm_X4_copyFrom s m args below meth c H locs 0 0 Q (F0 m pc ls [])) (hl : lv_has ls 3 [(0, .ref h0), (1, .ref h_p1)]) : W p l e rm_X4_copyFrom s m args below meth c H locs 0 0 Q (F0 m 0 ls []) := by
  obtain ⟨hx, hb, hml, hown, hts⟩ := id hC
  have hD0 := hD
  unfold F_X4_copyFrom at hF
  have k_6 : ∀ (fu_6 : Nat) (x2 : Int32) (v_count : Int32) (v_aheadOfPoint : Int32) (v_figures : (Nat → Int32)), F_X4_copyFrom_6  v_p1_ahead v_p1_behind v_p1_figures fu_6 x2 v_count v_aheadOfPoint v_figures = some (ou0, ou1, ou2) → ∀ (H : Heap) (locs : List Loc), va_P (dC, dI) vwCl (wd_X4_copyFrom h0 h_figures h_follower h_p1 h_p1_figures h_p1_powerMs h_p1_powerNs h_p1_restMs h_p1_restNs c_figures c_p1_figures v_count v_aheadOfPoint v_worthM v_worthN v_figures v_p1_ahead v_p1_behind v_p1_ends v_p1_lead v_p1_round v_p1_leftM v_p1_leftN v_p1_ofA v_p1_ofB v_p1_ofM v_p1_ofN v_p1_figures) H → va_S A s.heap H locs → ∀ ls : Array Slot, lv_has ls 3 [(0, .ref h0), (1, .ref h_p1), (2, .int x2)] → W p l e rm_X4_copyFrom s m args below meth c H locs 0 0 Q (F0 m 6 ls []) := by
    intro fu_6
    induction fu_6 with
    | zero => intro x2 v_count v_aheadOfPoint v_figures hF; rw [F_X4_copyFrom_6] at hF; cases hF
    | succ fu_6 ih =>
      intro x2 v_count v_aheadOfPoint v_figures hF H locs hP hS ls hl
      rw [F_X4_copyFrom_6] at hF
      have ih_6 := ih
      have hD : va_D A (wd_X4_copyFrom h0 h_figures h_follower h_p1 h_p1_figures h_p1_powerMs h_p1_powerNs h_p1_restMs h_p1_restNs c_figures c_p1_figures v_count v_aheadOfPoint v_worthM v_worthN v_figures v_p1_ahead v_p1_behind v_p1_ends v_p1_lead v_p1_round v_p1_leftM v_p1_leftN v_p1_ofA v_p1_ofB v_p1_ofM v_p1_ofN v_p1_figures) := hD0.re rfl
      have k_30 : ∀ (v_count : Int32) (v_aheadOfPoint : Int32) (v_figures : (Nat → Int32)), F_X4_copyFrom_30  v_p1_ahead v_p1_behind v_count v_aheadOfPoint v_figures = some (ou0, ou1, ou2) → ∀ (H : Heap) (locs : List Loc), va_P (dC, dI) vwCl (wd_X4_copyFrom h0 h_figures h_follower h_p1 h_p1_figures h_p1_powerMs h_p1_powerNs h_p1_restMs h_p1_restNs c_figures c_p1_figures v_count v_aheadOfPoint v_worthM v_worthN v_figures v_p1_ahead v_p1_behind v_p1_ends v_p1_lead v_p1_round v_p1_leftM v_p1_leftN v_p1_ofA v_p1_ofB v_p1_ofM v_p1_ofN v_p1_figures) H → va_S A s.heap H locs → ∀ ls : Array Slot, lv_has ls 3 [(0, .ref h0), (1, .ref h_p1)] → W p l e rm_X4_copyFrom s m args below meth c H locs 0 0 Q (F0 m 30 ls []) := by
        intro v_count v_aheadOfPoint v_figures hF H locs hP hS ls hl
        rw [F_X4_copyFrom_30] at hF
        have hD : va_D A (wd_X4_copyFrom h0 h_figures h_follower h_p1 h_p1_figures h_p1_powerMs h_p1_powerNs h_p1_restMs h_p1_restNs c_figures c_p1_figures v_count v_aheadOfPoint v_worthM v_worthN v_figures v_p1_ahead v_p1_behind v_p1_ends v_p1_lead v_p1_round v_p1_leftM v_p1_leftN v_p1_ofA v_p1_ofB v_p1_ofM v_p1_ofN v_p1_figures) := hD0.re rfl
        refine lv_aload_n hx hb dX4_copyFrom_30 rfl (lv_at hl 1 rfl) ?_
        refine va_getN (D := (dC, dI)) (ci := 5) (v := .int v_p1_behind) (C := RX5) (T := TX5) (N := 16) hx hb hts inn_X4_copyFrom_X5 hown hK hP 2 rfl rfl 2 (by decide) (va_Nw.use rfl (hN _ (List.mem_of_getElem? (i := 25) rfl))) (fun _ h9 => h9) rfl dX4_copyFrom_31 ?_
        refine lv_if_le (tgt := 45) hx hb dX4_copyFrom_34 (by decide) (fun g_1 => ?_) (fun g_1 => ?_)
        · replace hF := ite_t g_1 hF
          obtain ⟨rfl, rfl, rfl⟩ := oks3 hF; exact hE _ _ _ _ hP hS dX4_copyFrom_45
        · replace hF := ite_f g_1 hF
          refine lv_aload_n hx hb dX4_copyFrom_37 rfl (lv_at hl 0 rfl) ?_
          refine lv_aload_n hx hb dX4_copyFrom_38 rfl (lv_at hl 1 rfl) ?_
          refine va_getN (D := (dC, dI)) (ci := 5) (v := .int v_p1_ahead) (C := RX5) (T := TX5) (N := 16) hx hb hts inn_X4_copyFrom_X5 hown hK hP 2 rfl rfl 1 (by decide) (va_Nw.use rfl (hN _ (List.mem_of_getElem? (i := 23) rfl))) (fun _ h9 => h9) rfl dX4_copyFrom_39 ?_
          refine va_put (D := (dC, dI)) (ty := .int) (ci := 4) (v := .int v_p1_ahead) (C := RX4) (T := TX4) (N := 6) hx hb hts inn_X4_copyFrom_X4 tyX4 tyX4_ok nmX4 hown hK hP hD hS 0 rfl rfl 3 (by decide) (hts (.fieldLink RX4 22 "RingBases$Word" "aheadOfPoint" "I") (List.mem_of_getElem? (i := 1) rfl)) (fun _ h9 => h9) rfl (by decide +kernel) rfl rfl (Nat.le_of_ble_eq_true rfl) dX4_copyFrom_42 (fun H locs hP hD hS => ?_)
          have hP : va_P (dC, dI) vwCl (wd_X4_copyFrom h0 h_figures h_follower h_p1 h_p1_figures h_p1_powerMs h_p1_powerNs h_p1_restMs h_p1_restNs c_figures c_p1_figures v_count v_p1_ahead v_worthM v_worthN v_figures v_p1_ahead v_p1_behind v_p1_ends v_p1_lead v_p1_round v_p1_leftM v_p1_leftN v_p1_ofA v_p1_ofB v_p1_ofM v_p1_ofN v_p1_figures) H := hP
          have hD : va_D A (wd_X4_copyFrom h0 h_figures h_follower h_p1 h_p1_figures h_p1_powerMs h_p1_powerNs h_p1_restMs h_p1_restNs c_figures c_p1_figures v_count v_p1_ahead v_worthM v_worthN v_figures v_p1_ahead v_p1_behind v_p1_ends v_p1_lead v_p1_round v_p1_leftM v_p1_leftN v_p1_ofA v_p1_ofB v_p1_ofM v_p1_ofN v_p1_figures) := hD
          obtain ⟨rfl, rfl, rfl⟩ := oks3 hF; exact hE _ _ _ _ hP hS dX4_copyFrom_45
      refine lv_iload_n hx hb dX4_copyFrom_6 rfl (lv_at hl 2 rfl) ?_
      refine lv_aload_n hx hb dX4_copyFrom_7 rfl (lv_at hl 1 rfl) ?_
      refine rdVi (As := []) (rest := [.int x2]) (b := h_p1) hC (c_X5_figureCount l dC dI h_p1 h_p1_figures h_p1_powerMs h_p1_powerNs h_p1_restMs h_p1_restNs v_p1_ahead v_p1_behind v_p1_ends v_p1_lead v_p1_round v_p1_leftM v_p1_leftN v_p1_ofA v_p1_ofB v_p1_ofM v_p1_ofN  (F_X5_figureCount v_p1_ahead v_p1_behind) rfl) (cwV 0 hts gX4_copyFrom_X5_figureCount rfl rfl rfl (by decide +kernel) ⟨Nat.le_of_ble_eq_true rfl, Nat.le_of_ble_eq_true rfl⟩) hN (hK.sub (tys' := []) [] rfl) (hP.sub (ws' := (wd_X5_figureCount h_p1 h_p1_figures h_p1_powerMs h_p1_powerNs h_p1_restMs h_p1_restNs v_p1_ahead v_p1_behind v_p1_ends v_p1_lead v_p1_round v_p1_leftM v_p1_leftN v_p1_ofA v_p1_ofB v_p1_ofM v_p1_ofN)) [2] rfl) 0 5 rfl rfl rfl rfl hl.1 (Nat.le_of_ble_eq_true rfl) dX4_copyFrom_8 ⟨Nat.zero_le _, Nat.zero_le _⟩ ?_
      refine lv_icmp_ge (tgt := 30) hx hb dX4_copyFrom_11 (by decide) (fun g_2 => ?_) (fun g_2 => ?_)
      · replace hF := ite_t g_2 hF
        exact k_30 v_count v_aheadOfPoint v_figures hF H locs hP hS ls (lv_sub hl [0, 1] rfl)
      · replace hF := ite_f g_2 hF
        refine lv_aload_n hx hb dX4_copyFrom_14 rfl (lv_at hl 0 rfl) ?_
        refine lv_aload_n hx hb dX4_copyFrom_15 rfl (lv_at hl 1 rfl) ?_
        refine va_getN (D := (dC, dI)) (ci := 5) (v := .ref h_p1_figures) (C := RX5) (T := TX5) (N := 16) hx hb hts inn_X4_copyFrom_X5 hown hK hP 2 rfl rfl 0 (by decide) (va_Nw.use rfl (hN _ (List.mem_of_getElem? (i := 21) rfl))) (fun _ h9 => h9) rfl dX4_copyFrom_16 ?_
        refine lv_iload_n hx hb dX4_copyFrom_19 rfl (lv_at hl 2 rfl) ?_
        obtain ⟨i_3, hF⟩ := ck_s hF
        refine va_iald hx hb hK hP 3 1 rfl rfl i_3 dX4_copyFrom_20 ?_
        obtain ⟨o_4, hc_o_4, hF⟩ := bd_s hF
        refine wrVv (wc' := (wd_X4_addFigure h0 h_figures h_follower c_figures o_4.1 v_aheadOfPoint v_worthM v_worthN o_4.2)) (As := [.int (v_p1_figures x2.toNatClampNeg)]) (rest := []) (b := h0) hC (c_X4_addFigure l dC dI H.size h0 h_figures h_follower c_figures v_count v_aheadOfPoint v_worthM v_worthN v_figures (v_p1_figures x2.toNatClampNeg) o_4 hc_o_4) (cwV 1 hts gX4_copyFrom_X4_addFigure rfl rfl rfl (by decide +kernel) ⟨Nat.le_of_ble_eq_true rfl, Nat.le_of_ble_eq_true rfl⟩) hN (hK.sub (tys' := [(c_figures, .int)]) [0] rfl) hP hD hS hA [0, 1] rfl rfl rfl rfl 0 4 rfl rfl rfl rfl hl.1 (Nat.le_of_ble_eq_true rfl) dX4_copyFrom_21 ⟨Nat.zero_le _, Nat.zero_le _⟩ (fun H locs hP hS => ?_)
        have hP : va_P (dC, dI) vwCl (wd_X4_copyFrom h0 h_figures h_follower h_p1 h_p1_figures h_p1_powerMs h_p1_powerNs h_p1_restMs h_p1_restNs c_figures c_p1_figures o_4.1 v_aheadOfPoint v_worthM v_worthN o_4.2 v_p1_ahead v_p1_behind v_p1_ends v_p1_lead v_p1_round v_p1_leftM v_p1_leftN v_p1_ofA v_p1_ofB v_p1_ofM v_p1_ofN v_p1_figures) H := hP
        have hD : va_D A (wd_X4_copyFrom h0 h_figures h_follower h_p1 h_p1_figures h_p1_powerMs h_p1_powerNs h_p1_restMs h_p1_restNs c_figures c_p1_figures o_4.1 v_aheadOfPoint v_worthM v_worthN o_4.2 v_p1_ahead v_p1_behind v_p1_ends v_p1_lead v_p1_round v_p1_leftM v_p1_leftN v_p1_ofA v_p1_ofB v_p1_ofM v_p1_ofN v_p1_figures) := va_D.re hD rfl
        refine lv_iinc (v := (x2 + (1 : Int32))) (lv' := [(2, .int (x2 + (1 : Int32))), (0, .ref h0), (1, .ref h_p1)]) hx hb dX4_copyFrom_24 hl (k := 2) rfl rfl (by decide) rfl (fun ls hl => ?_)
        refine lv_goto (tgt := 6) hx hb dX4_copyFrom_27 (by decide) ?_
        exact ih (x2 + (1 : Int32)) o_4.1 v_aheadOfPoint o_4.2 hF H locs hP hS ls (lv_sub hl [1, 2, 0] rfl)
  refine lv_aload_n hx hb dX4_copyFrom_0 rfl (lv_at hl 0 rfl) ?_
  refine wrVv (wc' := (wd_X4_empty h0 h_figures h_follower F_X4_empty.1 F_X4_empty.2 v_worthM v_worthN)) (As := []) (rest := []) (b := h0) hC (c_X4_empty l dC dI H.size h0 h_figures h_follower v_count v_aheadOfPoint v_worthM v_worthN  F_X4_empty rfl) (cwV 0 hts gX4_copyFrom_X4_empty rfl rfl rfl (by decide +kernel) ⟨Nat.le_of_ble_eq_true rfl, Nat.le_of_ble_eq_true rfl⟩) hN (hK.sub (tys' := []) [] rfl) hP hD hS hA [0] rfl rfl rfl rfl 0 4 rfl rfl rfl rfl hl.1 (Nat.le_of_ble_eq_true rfl) dX4_copyFrom_1 ⟨Nat.zero_le _, Nat.zero_le _⟩ (fun H locs hP hS => ?_)
  have hP : va_P (dC, dI) vwCl (wd_X4_copyFrom h0 h_figures h_follower h_p1 h_p1_figures h_p1_powerMs h_p1_powerNs h_p1_restMs h_p1_restNs c_figures c_p1_figures F_X4_empty.1 F_X4_empty.2 v_worthM v_worthN v_figures v_p1_ahead v_p1_behind v_p1_ends v_p1_lead v_p1_round v_p1_leftM v_p1_leftN v_p1_ofA v_p1_ofB v_p1_ofM v_p1_ofN v_p1_figures) H := hP
  have hD : va_D A (wd_X4_copyFrom h0 h_figures h_follower h_p1 h_p1_figures h_p1_powerMs h_p1_powerNs h_p1_restMs h_p1_restNs c_figures c_p1_figures F_X4_empty.1 F_X4_empty.2 v_worthM v_worthN v_figures v_p1_ahead v_p1_behind v_p1_ends v_p1_lead v_p1_round v_p1_leftM v_p1_leftN v_p1_ofA v_p1_ofB v_p1_ofM v_p1_ofN v_p1_figures) := va_D.re hD rfl
  refine lv_iconst (v := (0 : Int32)) hx hb dX4_copyFrom_4 (by decide) ?_
  refine lv_istore_n (lv' := [(2, .int (0 : Int32)), (0, .ref h0), (1, .ref h_p1)]) hx hb dX4_copyFrom_5 rfl hl (by decide) rfl (fun ls hl => ?_)
  exact k_6 _ (0 : Int32) F_X4_empty.1 F_X4_empty.2 v_figures hF H locs hP hS ls (lv_sub hl [1, 2, 0] rfl)
set_option maxRecDepth 100000 in
set_option maxHeartbeats 4000000 in
theorem c_X4_copyFrom (l : Launch) (dC : Nat → ClassId) (dI : Nat → Nat → Nat) (sz : Nat) (h0 h_figures h_follower h_p1 h_p1_figures h_p1_powerMs h_p1_powerNs h_p1_restMs h_p1_restNs : Nat) (c_figures c_p1_figures : ClassId) (v_count : Int32) (v_aheadOfPoint : Int32) (v_worthM : Int32) (v_worthN : Int32) (v_figures : (Nat → Int32)) (v_p1_ahead : Int32) (v_p1_behind : Int32) (v_p1_ends : Int32) (v_p1_lead : Int32) (v_p1_round : Int32) (v_p1_leftM : Int64) (v_p1_leftN : Int64) (v_p1_ofA : Int32) (v_p1_ofB : Int32) (v_p1_ofM : Int32) (v_p1_ofN : Int32) (v_p1_figures : (Nat → Int32)) (o : Int32 × Int32 × (Nat → Int32)) (hF : F_X4_copyFrom v_figures v_p1_ahead v_p1_behind v_p1_figures = some o) : Met l yX4_copyFrom wsX4_copyFrom rm_X4_copyFrom (va_Pc [.ref h0, .ref h_p1] (PcW dC dI sz (wd_X4_copyFrom h0 h_figures h_follower h_p1 h_p1_figures h_p1_powerMs h_p1_powerNs h_p1_restMs h_p1_restNs c_figures c_p1_figures v_count v_aheadOfPoint v_worthM v_worthN v_figures v_p1_ahead v_p1_behind v_p1_ends v_p1_lead v_p1_round v_p1_leftM v_p1_leftN v_p1_ofA v_p1_ofB v_p1_ofM v_p1_ofN v_p1_figures) [(c_figures, .int), (c_p1_figures, .int)])) (va_Qv (fun (_ : Unit) => True) (fun _ t => va_P (dC, dI) vwCl (wd_X4_copyFrom h0 h_figures h_follower h_p1 h_p1_figures h_p1_powerMs h_p1_powerNs h_p1_restMs h_p1_restNs c_figures c_p1_figures o.1 o.2.1 v_worthM v_worthN o.2.2 v_p1_ahead v_p1_behind v_p1_ends v_p1_lead v_p1_round v_p1_leftM v_p1_leftN v_p1_ofA v_p1_ofB v_p1_ofM v_p1_ofN v_p1_figures) t.heap) (va_A (wd_X4_copyFrom h0 h_figures h_follower h_p1 h_p1_figures h_p1_powerMs h_p1_powerNs h_p1_restMs h_p1_restNs c_figures c_p1_figures v_count v_aheadOfPoint v_worthM v_worthN v_figures v_p1_ahead v_p1_behind v_p1_ends v_p1_lead v_p1_round v_p1_leftM v_p1_leftN v_p1_ofA v_p1_ofB v_p1_ofM v_p1_ofN v_p1_figures) sz)) 0 0 (va_A (wd_X4_copyFrom h0 h_figures h_follower h_p1 h_p1_figures h_p1_powerMs h_p1_powerNs h_p1_restMs h_p1_restNs c_figures c_p1_figures v_count v_aheadOfPoint v_worthM v_worthN v_figures v_p1_ahead v_p1_behind v_p1_ends v_p1_lead v_p1_round v_p1_leftM v_p1_leftN v_p1_ofA v_p1_ofB v_p1_ofM v_p1_ofN v_p1_figures) sz) := by
  refine Met.ofW (cc := cX4_copyFrom) (maxL := 3) (ret := none) (by decide) rfl ?_
  intro p e s m args below meth c s₁ B hml hv
  obtain ⟨rfl, hsz, hP, hK, hD0, hN⟩ := hv
  subst hsz
  have hl := lv_entry ([.ref h0, .ref h_p1]) (n := 3) (Nat.le_of_ble_eq_true rfl)
  rw [lg_entry_eq]
  generalize (lg_sl ([.ref h0, .ref h_p1]) ++ List.replicate (3 - (lg_sl ([.ref h0, .ref h_p1])).length) Slot.unset).toArray = ls at hl ⊢
  exact b_X4_copyFrom h0 h_figures h_follower h_p1 h_p1_figures h_p1_powerMs h_p1_powerNs h_p1_restMs h_p1_restNs c_figures c_p1_figures v_count v_aheadOfPoint v_worthM v_worthN v_figures v_p1_ahead v_p1_behind v_p1_ends v_p1_lead v_p1_round v_p1_leftM v_p1_leftN v_p1_ofA v_p1_ofB v_p1_ofM v_p1_ofN v_p1_figures o.1 o.2.1 o.2.2 hF ⟨B.exec, B.bytes, hml, findClass_of_methodNamed B.named, atoms_spec (ws := wsX4_copyFrom) B.pre⟩ hN hK hP (fun q h => Or.inr h) (hD0.self (sz := s.heap.size)) va_S.rf (fun H locs ls pc hP hS hd => W.vret B.exec B.bytes B.returns (fun t ht hW => ⟨⟨(), rfl, trivial, by show va_P (dC, dI) vwCl _ t.heap; rw [ht]; exact hP⟩, hS.F ht⟩) hS.2.2 hd B.notSynchronized) hl
