abbrev wd_X7_in : va_W := []
abbrev rm_X7_in : Room := { frames := 0, cells := 0, slots := 0, locals := 0 }
def F_X7_in (x0 : Int64) (x2 : Int64) (x4 : Int64) : Int32 := (if (lg_cmp x0 x2) < 0 then (0 : Int32) else (if 0 < (lg_cmp x0 x4) then (0 : Int32) else (1 : Int32)))
theorem B_X7_in (x0 : Int64) (x2 : Int64) (x4 : Int64) : narrow .boolean (.int (F_X7_in x0 x2 x4)) = .int (F_X7_in x0 x2 x4) := by
  unfold F_X7_in
  repeat' split
  all_goals first | rfl | exact B_X7_in _ _ _
set_option maxRecDepth 100000 in
set_option maxHeartbeats 4000000 in
theorem b_X7_in {p : Program} {l : Launch} {e : Env} {s : State} {m : MethodId} {args : Array Value} {below : List Frame} {meth : Method} {c : Code} {Q : State → Prop} {dC : Nat → ClassId} {dI : Nat → Nat → Nat} {H : Heap} {locs : List Loc} {ls : Array Slot} (x0 : Int64) (x2 : Int64) (x4 : Int64) (ou0 : Int32) (hF : F_X7_in x0 x2 x4 = ou0) (hC : CallFix p m c cX7_in 6 s args wsX7_in RX7) (hN : NW s) (hK : va_K (dC, dI) vwCl [] s) (hP : va_P (dC, dI) vwCl wd_X7_in H) (hE : ∀ (ls : Array Slot) (pc : Nat), narrow .boolean (.int ou0) = .int ou0 → decode cX7_in pc = .ok (.ireturn, 1) → W p l e rm_X7_in s m args below meth c H locs 0 0 Q (F0 m pc ls [.int ou0])) (hl : lv_has ls 6 [(0, .long x0), (2, .long x2), (4, .long x4)]) : W p l e rm_X7_in s m args below meth c H locs 0 0 Q (F0 m 0 ls []) := by
  obtain ⟨hx, hb, hml, hown, hts⟩ := id hC
  unfold F_X7_in at hF
  refine lv_lload_n hx hb dX7_in_0 rfl (lv_at hl 0 rfl) ?_
  refine lv_lload_n hx hb dX7_in_1 rfl (lv_at hl 1 rfl) ?_
  refine W.lcmp hx hb dX7_in_2 ?_
  refine lv_if_lt (tgt := 17) hx hb dX7_in_3 (by decide) (fun g_1 => ?_) (fun g_1 => ?_)
  · replace hF := ite_t g_1 hF
    refine lv_iconst (v := (0 : Int32)) hx hb dX7_in_17 (by decide) ?_
    obtain rfl := hF; exact hE _ _ (zk_n (Or.inl rfl)) dX7_in_18
  · replace hF := ite_f g_1 hF
    refine lv_lload_n hx hb dX7_in_6 rfl (lv_at hl 0 rfl) ?_
    refine lv_lload hx hb dX7_in_7 (lv_at hl 2 rfl) ?_
    refine W.lcmp hx hb dX7_in_9 ?_
    refine lv_if_gt (tgt := 17) hx hb dX7_in_10 (by decide) (fun g_2 => ?_) (fun g_2 => ?_)
    · replace hF := ite_t g_2 hF
      refine lv_iconst (v := (0 : Int32)) hx hb dX7_in_17 (by decide) ?_
      obtain rfl := hF; exact hE _ _ (zk_n (Or.inl rfl)) dX7_in_18
    · replace hF := ite_f g_2 hF
      refine lv_iconst (v := (1 : Int32)) hx hb dX7_in_13 (by decide) ?_
      refine lv_goto (tgt := 18) hx hb dX7_in_14 (by decide) ?_
      obtain rfl := hF; exact hE _ _ (zk_n (Or.inr rfl)) dX7_in_18
set_option maxRecDepth 100000 in
set_option maxHeartbeats 4000000 in
theorem c_X7_in (l : Launch) (dC : Nat → ClassId) (dI : Nat → Nat → Nat) (x0 : Int64) (x2 : Int64) (x4 : Int64) (o : Int32) (hF : F_X7_in x0 x2 x4 = o) : Met l yX7_in wsX7_in rm_X7_in (va_Pc [.long x0, .long x2, .long x4] (PcR dC dI wd_X7_in [])) (vp_Si (fun r => r = o)) 0 0 (fun _ => False) := by
  refine Met.ofW (cc := cX7_in) (maxL := 6) (ret := (some .boolean)) (by decide) rfl ?_
  intro p e s m args below meth c s₁ B hml hv
  obtain ⟨rfl, hP, hK, hN⟩ := hv
  have hl := lv_entry ([.long x0, .long x2, .long x4]) (n := 6) (Nat.le_of_ble_eq_true rfl)
  rw [lg_entry_eq]
  generalize (lg_sl ([.long x0, .long x2, .long x4]) ++ List.replicate (6 - (lg_sl ([.long x0, .long x2, .long x4])).length) Slot.unset).toArray = ls at hl ⊢
  exact b_X7_in x0 x2 x4 o hF ⟨B.exec, B.bytes, hml, findClass_of_methodNamed B.named, atoms_spec (ws := wsX7_in) B.pre⟩ hN hK hP (fun ls pc hn hd => W.zret B.exec B.bytes B.returns hn (fun t ht hW => ⟨_, rfl, rfl, ht⟩) (fun q h => by cases h) hd B.notSynchronized) hl
abbrev wd_X7_has : va_W := []
abbrev rm_X7_has : Room := { frames := 0, cells := 0, slots := 0, locals := 0 }
def F_X7_has (x0 : Int32) (x1 : Int32) : Int32 := (if ((x0 >>> (x1 &&& 31)) &&& (1 : Int32)) = (1 : Int32) then (1 : Int32) else (0 : Int32))
theorem B_X7_has (x0 : Int32) (x1 : Int32) : narrow .boolean (.int (F_X7_has x0 x1)) = .int (F_X7_has x0 x1) := by
  unfold F_X7_has
  repeat' split
  all_goals first | rfl | exact B_X7_in _ _ _
set_option maxRecDepth 100000 in
set_option maxHeartbeats 4000000 in
theorem b_X7_has {p : Program} {l : Launch} {e : Env} {s : State} {m : MethodId} {args : Array Value} {below : List Frame} {meth : Method} {c : Code} {Q : State → Prop} {dC : Nat → ClassId} {dI : Nat → Nat → Nat} {H : Heap} {locs : List Loc} {ls : Array Slot} (x0 : Int32) (x1 : Int32) (ou0 : Int32) (hF : F_X7_has x0 x1 = ou0) (hC : CallFix p m c cX7_has 2 s args wsX7_has RX7) (hN : NW s) (hK : va_K (dC, dI) vwCl [] s) (hP : va_P (dC, dI) vwCl wd_X7_has H) (hE : ∀ (ls : Array Slot) (pc : Nat), narrow .boolean (.int ou0) = .int ou0 → decode cX7_has pc = .ok (.ireturn, 1) → W p l e rm_X7_has s m args below meth c H locs 0 0 Q (F0 m pc ls [.int ou0])) (hl : lv_has ls 2 [(0, .int x0), (1, .int x1)]) : W p l e rm_X7_has s m args below meth c H locs 0 0 Q (F0 m 0 ls []) := by
  obtain ⟨hx, hb, hml, hown, hts⟩ := id hC
  unfold F_X7_has at hF
  refine lv_iload_n hx hb dX7_has_0 rfl (lv_at hl 0 rfl) ?_
  refine lv_iload_n hx hb dX7_has_1 rfl (lv_at hl 1 rfl) ?_
  refine lv_ishr hx hb dX7_has_2 ?_
  refine lv_iconst (v := (1 : Int32)) hx hb dX7_has_3 (by decide) ?_
  refine lv_iand hx hb dX7_has_4 ?_
  refine lv_iconst (v := (1 : Int32)) hx hb dX7_has_5 (by decide) ?_
  refine lv_icmp_ne (tgt := 13) hx hb dX7_has_6 (by decide) (fun g_1 => ?_) (fun g_1 => ?_)
  · replace hF := ite_f g_1 hF
    refine lv_iconst (v := (0 : Int32)) hx hb dX7_has_13 (by decide) ?_
    obtain rfl := hF; exact hE _ _ (zk_n (Or.inl rfl)) dX7_has_14
  · replace hF := ite_t g_1 hF
    refine lv_iconst (v := (1 : Int32)) hx hb dX7_has_9 (by decide) ?_
    refine lv_goto (tgt := 14) hx hb dX7_has_10 (by decide) ?_
    obtain rfl := hF; exact hE _ _ (zk_n (Or.inr rfl)) dX7_has_14
set_option maxRecDepth 100000 in
set_option maxHeartbeats 4000000 in
theorem c_X7_has (l : Launch) (dC : Nat → ClassId) (dI : Nat → Nat → Nat) (x0 : Int32) (x1 : Int32) (o : Int32) (hF : F_X7_has x0 x1 = o) : Met l yX7_has wsX7_has rm_X7_has (va_Pc [.int x0, .int x1] (PcR dC dI wd_X7_has [])) (vp_Si (fun r => r = o)) 0 0 (fun _ => False) := by
  refine Met.ofW (cc := cX7_has) (maxL := 2) (ret := (some .boolean)) (by decide) rfl ?_
  intro p e s m args below meth c s₁ B hml hv
  obtain ⟨rfl, hP, hK, hN⟩ := hv
  have hl := lv_entry ([.int x0, .int x1]) (n := 2) (Nat.le_of_ble_eq_true rfl)
  rw [lg_entry_eq]
  generalize (lg_sl ([.int x0, .int x1]) ++ List.replicate (2 - (lg_sl ([.int x0, .int x1])).length) Slot.unset).toArray = ls at hl ⊢
  exact b_X7_has x0 x1 o hF ⟨B.exec, B.bytes, hml, findClass_of_methodNamed B.named, atoms_spec (ws := wsX7_has) B.pre⟩ hN hK hP (fun ls pc hn hd => W.zret B.exec B.bytes B.returns hn (fun t ht hW => ⟨_, rfl, rfl, ht⟩) (fun q h => by cases h) hd B.notSynchronized) hl
theorem inn_X7_copyRow_X7 : ∀ w ∈ wsX70, w ∈ wsX7_copyRow := fun _ h => List.mem_cons_of_mem _ (List.mem_append_right _ h)
abbrev wd_X7_copyRow (h0 h_w h_word h_ahead h_behind h_restM h_restN h_powerM h_powerN h_row : Nat) (c_w : ClassId) (v_known : Int32) (v_kept : Int32) (v_size : Int32) (v_high : Int32) (v_behindMany : Int32) (v_ends : Int32) (v_lead : Int32) (v_round : Int32) (v_worthM : Int64) (v_worthN : Int64) (v_w : (Nat → Int32)) : va_W := [(h0, .inr (7, [.ref h_w, .int v_known, .int v_kept, .ref h_word, .int v_size, .ref h_ahead, .int v_high, .ref h_behind, .int v_behindMany, .ref h_restM, .ref h_restN, .ref h_powerM, .ref h_powerN, .int v_ends, .int v_lead, .int v_round, .ref h_row, .long v_worthM, .long v_worthN])), (h_w, .inl (c_w, 110, .inl v_w))]
abbrev rm_X7_copyRow : Room := { frames := 0, cells := 0, slots := 0, locals := 0 }
def F_X7_copyRow_2 (x1 : Int32) (x2 : Int32) : Nat → Int32 → (Nat → Int32) → Option ((Nat → Int32))
  | 0, _, _ => none
  | fu + 1, x3, v_w => (if (10 : Int32) ≤ x3 then (some v_w) else (ck (x1 + x3) 110 (ck (x2 + x3) 110 (F_X7_copyRow_2 x1 x2 fu (x3 + (1 : Int32)) (upd v_w (x2 + x3).toNatClampNeg (v_w (x1 + x3).toNatClampNeg))))))
def F_X7_copyRow (x1 : Int32) (x2 : Int32) (v_w : (Nat → Int32)) : Option ((Nat → Int32)) := (F_X7_copyRow_2  x1 x2 128 (0 : Int32) v_w)
set_option maxRecDepth 100000 in
set_option maxHeartbeats 4000000 in
theorem b_X7_copyRow {p : Program} {l : Launch} {e : Env} {s : State} {m : MethodId} {args : Array Value} {below : List Frame} {meth : Method} {c : Code} {Q : State → Prop} {dC : Nat → ClassId} {dI : Nat → Nat → Nat} {H : Heap} {locs : List Loc} {ls : Array Slot} {A : Nat → Prop} (h0 h_w h_word h_ahead h_behind h_restM h_restN h_powerM h_powerN h_row : Nat) (c_w : ClassId) (v_known : Int32) (v_kept : Int32) (v_size : Int32) (v_high : Int32) (v_behindMany : Int32) (v_ends : Int32) (v_lead : Int32) (v_round : Int32) (v_worthM : Int64) (v_worthN : Int64) (v_w : (Nat → Int32)) (x1 : Int32) (x2 : Int32) (ou0 : (Nat → Int32)) (hF : F_X7_copyRow x1 x2 v_w = some ou0) (hC : CallFix p m c cX7_copyRow 4 s args wsX7_copyRow RX7) (hN : NW s) (hK : va_K (dC, dI) vwCl [(c_w, .int)] s) (hP : va_P (dC, dI) vwCl (wd_X7_copyRow h0 h_w h_word h_ahead h_behind h_restM h_restN h_powerM h_powerN h_row c_w v_known v_kept v_size v_high v_behindMany v_ends v_lead v_round v_worthM v_worthN v_w) H) (hA : ∀ q, s.heap.size ≤ q → A q) (hD : va_D A (wd_X7_copyRow h0 h_w h_word h_ahead h_behind h_restM h_restN h_powerM h_powerN h_row c_w v_known v_kept v_size v_high v_behindMany v_ends v_lead v_round v_worthM v_worthN v_w)) (hS : va_S A s.heap H locs) (hE : ∀ (H : Heap) (locs : List Loc) (ls : Array Slot) (pc : Nat), va_P (dC, dI) vwCl (wd_X7_copyRow h0 h_w h_word h_ahead h_behind h_restM h_restN h_powerM h_powerN h_row c_w v_known v_kept v_size v_high v_behindMany v_ends v_lead v_round v_worthM v_worthN ou0) H → va_S A s.heap H locs → decode cX7_copyRow pc = .ok (.return_, 1) → W p l e rm_X7_copyRow s m args below meth c H locs 0 0 Q (F0 m pc ls [])) (hl : lv_has ls 4 [(0, .ref h0), (1, .int x1), (2, .int x2)]) : W p l e rm_X7_copyRow s m args below meth c H locs 0 0 Q (F0 m 0 ls []) := by
  obtain ⟨hx, hb, hml, hown, hts⟩ := id hC
  have hD0 := hD
  unfold F_X7_copyRow at hF
  have k_2 : ∀ (fu_2 : Nat) (x3 : Int32) (v_w : (Nat → Int32)), F_X7_copyRow_2  x1 x2 fu_2 x3 v_w = some ou0 → ∀ (H : Heap) (locs : List Loc), va_P (dC, dI) vwCl (wd_X7_copyRow h0 h_w h_word h_ahead h_behind h_restM h_restN h_powerM h_powerN h_row c_w v_known v_kept v_size v_high v_behindMany v_ends v_lead v_round v_worthM v_worthN v_w) H → va_S A s.heap H locs → ∀ ls : Array Slot, lv_has ls 4 [(0, .ref h0), (1, .int x1), (2, .int x2), (3, .int x3)] → W p l e rm_X7_copyRow s m args below meth c H locs 0 0 Q (F0 m 2 ls []) := by
    intro fu_2
    induction fu_2 with
    | zero => intro x3 v_w hF; rw [F_X7_copyRow_2] at hF; cases hF
    | succ fu_2 ih =>
      intro x3 v_w hF H locs hP hS ls hl
      rw [F_X7_copyRow_2] at hF
      have ih_2 := ih
      have hD : va_D A (wd_X7_copyRow h0 h_w h_word h_ahead h_behind h_restM h_restN h_powerM h_powerN h_row c_w v_known v_kept v_size v_high v_behindMany v_ends v_lead v_round v_worthM v_worthN v_w) := hD0.re rfl
      refine lv_iload_n hx hb dX7_copyRow_2 rfl (lv_at hl 3 rfl) ?_
      refine lv_bipush (v := (10 : Int32)) hx hb dX7_copyRow_3 (by decide) ?_
      refine lv_icmp_ge (tgt := 30) hx hb dX7_copyRow_5 (by decide) (fun g_1 => ?_) (fun g_1 => ?_)
      · replace hF := ite_t g_1 hF
        obtain rfl := Option.some.inj hF; exact hE _ _ _ _ hP hS dX7_copyRow_30
      · replace hF := ite_f g_1 hF
        refine lv_aload_n hx hb dX7_copyRow_8 rfl (lv_at hl 0 rfl) ?_
        refine va_get (D := (dC, dI)) (ci := 7) (v := .ref h_w) (C := RX7) (T := TX7) (N := 19) hx hb hts inn_X7_copyRow_X7 hown hK hP 0 rfl rfl 0 (by decide) (hts (.fieldLink RX7 7 "RingBasesModel" "w" "[I") (List.mem_of_getElem? (i := 1) rfl)) (fun _ h9 => h9) rfl dX7_copyRow_9 ?_
        refine lv_iload_n hx hb dX7_copyRow_12 rfl (lv_at hl 2 rfl) ?_
        refine lv_iload_n hx hb dX7_copyRow_13 rfl (lv_at hl 3 rfl) ?_
        refine lv_iadd hx hb dX7_copyRow_14 ?_
        refine lv_aload_n hx hb dX7_copyRow_15 rfl (lv_at hl 0 rfl) ?_
        refine va_get (D := (dC, dI)) (ci := 7) (v := .ref h_w) (C := RX7) (T := TX7) (N := 19) hx hb hts inn_X7_copyRow_X7 hown hK hP 0 rfl rfl 0 (by decide) (hts (.fieldLink RX7 7 "RingBasesModel" "w" "[I") (List.mem_of_getElem? (i := 1) rfl)) (fun _ h9 => h9) rfl dX7_copyRow_16 ?_
        refine lv_iload_n hx hb dX7_copyRow_19 rfl (lv_at hl 1 rfl) ?_
        refine lv_iload_n hx hb dX7_copyRow_20 rfl (lv_at hl 3 rfl) ?_
        refine lv_iadd hx hb dX7_copyRow_21 ?_
        obtain ⟨i_2, hF⟩ := ck_s hF
        refine va_iald hx hb hK hP 1 0 rfl rfl i_2 dX7_copyRow_22 ?_
        obtain ⟨i_3, hF⟩ := ck_s hF
        refine va_iast hx hb hK hP hD hS 1 0 rfl rfl i_3 dX7_copyRow_23 (fun H locs hP hD hS => ?_)
        have hP : va_P (dC, dI) vwCl (wd_X7_copyRow h0 h_w h_word h_ahead h_behind h_restM h_restN h_powerM h_powerN h_row c_w v_known v_kept v_size v_high v_behindMany v_ends v_lead v_round v_worthM v_worthN (upd v_w (x2 + x3).toNatClampNeg (v_w (x1 + x3).toNatClampNeg))) H := hP
        have hD : va_D A (wd_X7_copyRow h0 h_w h_word h_ahead h_behind h_restM h_restN h_powerM h_powerN h_row c_w v_known v_kept v_size v_high v_behindMany v_ends v_lead v_round v_worthM v_worthN (upd v_w (x2 + x3).toNatClampNeg (v_w (x1 + x3).toNatClampNeg))) := hD
        refine lv_iinc (v := (x3 + (1 : Int32))) (lv' := [(3, .int (x3 + (1 : Int32))), (0, .ref h0), (1, .int x1), (2, .int x2)]) hx hb dX7_copyRow_24 hl (k := 3) rfl rfl (by decide) rfl (fun ls hl => ?_)
        refine lv_goto (tgt := 2) hx hb dX7_copyRow_27 (by decide) ?_
        exact ih (x3 + (1 : Int32)) (upd v_w (x2 + x3).toNatClampNeg (v_w (x1 + x3).toNatClampNeg)) hF H locs hP hS ls (lv_sub hl [1, 2, 3, 0] rfl)
  refine lv_iconst (v := (0 : Int32)) hx hb dX7_copyRow_0 (by decide) ?_
  refine lv_istore_n (lv' := [(3, .int (0 : Int32)), (0, .ref h0), (1, .int x1), (2, .int x2)]) hx hb dX7_copyRow_1 rfl hl (by decide) rfl (fun ls hl => ?_)
  exact k_2 _ (0 : Int32) v_w hF H locs hP hS ls (lv_sub hl [1, 2, 3, 0] rfl)
set_option maxRecDepth 100000 in
set_option maxHeartbeats 4000000 in
theorem c_X7_copyRow (l : Launch) (dC : Nat → ClassId) (dI : Nat → Nat → Nat) (sz : Nat) (h0 h_w h_word h_ahead h_behind h_restM h_restN h_powerM h_powerN h_row : Nat) (c_w : ClassId) (v_known : Int32) (v_kept : Int32) (v_size : Int32) (v_high : Int32) (v_behindMany : Int32) (v_ends : Int32) (v_lead : Int32) (v_round : Int32) (v_worthM : Int64) (v_worthN : Int64) (v_w : (Nat → Int32)) (x1 : Int32) (x2 : Int32) (o : (Nat → Int32)) (hF : F_X7_copyRow x1 x2 v_w = some o) : Met l yX7_copyRow wsX7_copyRow rm_X7_copyRow (va_Pc [.ref h0, .int x1, .int x2] (PcW dC dI sz (wd_X7_copyRow h0 h_w h_word h_ahead h_behind h_restM h_restN h_powerM h_powerN h_row c_w v_known v_kept v_size v_high v_behindMany v_ends v_lead v_round v_worthM v_worthN v_w) [(c_w, .int)])) (va_Qv (fun (_ : Unit) => True) (fun _ t => va_P (dC, dI) vwCl (wd_X7_copyRow h0 h_w h_word h_ahead h_behind h_restM h_restN h_powerM h_powerN h_row c_w v_known v_kept v_size v_high v_behindMany v_ends v_lead v_round v_worthM v_worthN o) t.heap) (va_A (wd_X7_copyRow h0 h_w h_word h_ahead h_behind h_restM h_restN h_powerM h_powerN h_row c_w v_known v_kept v_size v_high v_behindMany v_ends v_lead v_round v_worthM v_worthN v_w) sz)) 0 0 (va_A (wd_X7_copyRow h0 h_w h_word h_ahead h_behind h_restM h_restN h_powerM h_powerN h_row c_w v_known v_kept v_size v_high v_behindMany v_ends v_lead v_round v_worthM v_worthN v_w) sz) := by
  refine Met.ofW (cc := cX7_copyRow) (maxL := 4) (ret := none) (by decide) rfl ?_
  intro p e s m args below meth c s₁ B hml hv
  obtain ⟨rfl, hsz, hP, hK, hD0, hN⟩ := hv
  subst hsz
  have hl := lv_entry ([.ref h0, .int x1, .int x2]) (n := 4) (Nat.le_of_ble_eq_true rfl)
  rw [lg_entry_eq]
  generalize (lg_sl ([.ref h0, .int x1, .int x2]) ++ List.replicate (4 - (lg_sl ([.ref h0, .int x1, .int x2])).length) Slot.unset).toArray = ls at hl ⊢
  exact b_X7_copyRow h0 h_w h_word h_ahead h_behind h_restM h_restN h_powerM h_powerN h_row c_w v_known v_kept v_size v_high v_behindMany v_ends v_lead v_round v_worthM v_worthN v_w x1 x2 o hF ⟨B.exec, B.bytes, hml, findClass_of_methodNamed B.named, atoms_spec (ws := wsX7_copyRow) B.pre⟩ hN hK hP (fun q h => Or.inr h) (hD0.self (sz := s.heap.size)) va_S.rf (fun H locs ls pc hP hS hd => W.vret B.exec B.bytes B.returns (fun t ht hW => ⟨⟨(), rfl, trivial, by show va_P (dC, dI) vwCl _ t.heap; rw [ht]; exact hP⟩, hS.F ht⟩) hS.2.2 hd B.notSynchronized) hl
theorem inn_X7_remember_X7 : ∀ w ∈ wsX70, w ∈ wsX7_remember := fun _ h => List.mem_cons_of_mem _ (List.mem_append_right _ h)
abbrev wd_X7_remember (h0 h_w h_word h_ahead h_behind h_restM h_restN h_powerM h_powerN h_row : Nat) (c_w : ClassId) (v_known : Int32) (v_kept : Int32) (v_size : Int32) (v_high : Int32) (v_behindMany : Int32) (v_ends : Int32) (v_lead : Int32) (v_round : Int32) (v_worthM : Int64) (v_worthN : Int64) (v_w : (Nat → Int32)) : va_W := [(h0, .inr (7, [.ref h_w, .int v_known, .int v_kept, .ref h_word, .int v_size, .ref h_ahead, .int v_high, .ref h_behind, .int v_behindMany, .ref h_restM, .ref h_restN, .ref h_powerM, .ref h_powerN, .int v_ends, .int v_lead, .int v_round, .ref h_row, .long v_worthM, .long v_worthN])), (h_w, .inl (c_w, 110, .inl v_w))]
abbrev rm_X7_remember : Room := { frames := 1, cells := 0, slots := 0, locals := 23 }
def F_X7_remember_27 (v_known : Int32) (v_w : (Nat → Int32)) : Option (Int32 × (Nat → Int32)) := (if (8 : Int32) ≤ v_known then (some ((8 : Int32), v_w)) else (some ((v_known + (1 : Int32)), v_w)))
def F_X7_remember_3 : Nat → Int32 → Int32 → (Nat → Int32) → Option (Int32 × (Nat → Int32))
  | 0, _, _, _ => none
  | fu + 1, x1, v_known, v_w => (if x1 ≤ 0 then (F_X7_remember_27   v_known v_w) else ((F_X7_copyRow ((10 : Int32) * (x1 - (1 : Int32))) ((10 : Int32) * x1) v_w).bind fun o_3 => (F_X7_remember_3  fu (x1 + (-1 : Int32)) v_known o_3)))
def F_X7_remember (v_known : Int32) (v_w : (Nat → Int32)) : Option (Int32 × (Nat → Int32)) := (F_X7_remember_3   128 (8 : Int32) v_known v_w)
set_option maxRecDepth 100000 in
set_option maxHeartbeats 4000000 in
theorem b_X7_remember {p : Program} {l : Launch} {e : Env} {s : State} {m : MethodId} {args : Array Value} {below : List Frame} {meth : Method} {c : Code} {Q : State → Prop} {dC : Nat → ClassId} {dI : Nat → Nat → Nat} {H : Heap} {locs : List Loc} {ls : Array Slot} {A : Nat → Prop} (h0 h_w h_word h_ahead h_behind h_restM h_restN h_powerM h_powerN h_row : Nat) (c_w : ClassId) (v_known : Int32) (v_kept : Int32) (v_size : Int32) (v_high : Int32) (v_behindMany : Int32) (v_ends : Int32) (v_lead : Int32) (v_round : Int32) (v_worthM : Int64) (v_worthN : Int64) (v_w : (Nat → Int32)) (ou0 : Int32) (ou1 : (Nat → Int32)) (hF : F_X7_remember v_known v_w = some (ou0, ou1)) (hC : CallFix p m c cX7_remember 2 s args wsX7_remember RX7) (hN : NW s) (hK : va_K (dC, dI) vwCl [(c_w, .int)] s) (hP : va_P (dC, dI) vwCl (wd_X7_remember h0 h_w h_word h_ahead h_behind h_restM h_restN h_powerM h_powerN h_row c_w v_known v_kept v_size v_high v_behindMany v_ends v_lead v_round v_worthM v_worthN v_w) H) (hA : ∀ q, s.heap.size ≤ q → A q) (hD : va_D A (wd_X7_remember h0 h_w h_word h_ahead h_behind h_restM h_restN h_powerM h_powerN h_row c_w v_known v_kept v_size v_high v_behindMany v_ends v_lead v_round v_worthM v_worthN v_w)) (hS : va_S A s.heap H locs) (hE : ∀ (H : Heap) (locs : List Loc) (ls : Array Slot) (pc : Nat), va_P (dC, dI) vwCl (wd_X7_remember h0 h_w h_word h_ahead h_behind h_restM h_restN h_powerM h_powerN h_row c_w ou0 v_kept v_size v_high v_behindMany v_ends v_lead v_round v_worthM v_worthN ou1) H → va_S A s.heap H locs → decode cX7_remember pc = .ok (.return_, 1) → W p l e rm_X7_remember s m args below meth c H locs 0 0 Q (F0 m pc ls [])) (hl : lv_has ls 2 [(0, .ref h0)]) : W p l e rm_X7_remember s m args below meth c H locs 0 0 Q (F0 m 0 ls []) := by
  obtain ⟨hx, hb, hml, hown, hts⟩ := id hC
  have hD0 := hD
  unfold F_X7_remember at hF
  have k_3 : ∀ (fu_3 : Nat) (x1 : Int32) (v_known : Int32) (v_w : (Nat → Int32)), F_X7_remember_3   fu_3 x1 v_known v_w = some (ou0, ou1) → ∀ (H : Heap) (locs : List Loc), va_P (dC, dI) vwCl (wd_X7_remember h0 h_w h_word h_ahead h_behind h_restM h_restN h_powerM h_powerN h_row c_w v_known v_kept v_size v_high v_behindMany v_ends v_lead v_round v_worthM v_worthN v_w) H → va_S A s.heap H locs → ∀ ls : Array Slot, lv_has ls 2 [(0, .ref h0), (1, .int x1)] → W p l e rm_X7_remember s m args below meth c H locs 0 0 Q (F0 m 3 ls []) := by
    intro fu_3
    induction fu_3 with
    | zero => intro x1 v_known v_w hF; rw [F_X7_remember_3] at hF; cases hF
    | succ fu_3 ih =>
      intro x1 v_known v_w hF H locs hP hS ls hl
      rw [F_X7_remember_3] at hF
      have ih_3 := ih
      have hD : va_D A (wd_X7_remember h0 h_w h_word h_ahead h_behind h_restM h_restN h_powerM h_powerN h_row c_w v_known v_kept v_size v_high v_behindMany v_ends v_lead v_round v_worthM v_worthN v_w) := hD0.re rfl
      have k_27 : ∀ (v_known : Int32) (v_w : (Nat → Int32)), F_X7_remember_27   v_known v_w = some (ou0, ou1) → ∀ (H : Heap) (locs : List Loc), va_P (dC, dI) vwCl (wd_X7_remember h0 h_w h_word h_ahead h_behind h_restM h_restN h_powerM h_powerN h_row c_w v_known v_kept v_size v_high v_behindMany v_ends v_lead v_round v_worthM v_worthN v_w) H → va_S A s.heap H locs → ∀ ls : Array Slot, lv_has ls 2 [(0, .ref h0)] → W p l e rm_X7_remember s m args below meth c H locs 0 0 Q (F0 m 27 ls []) := by
        intro v_known v_w hF H locs hP hS ls hl
        rw [F_X7_remember_27] at hF
        have hD : va_D A (wd_X7_remember h0 h_w h_word h_ahead h_behind h_restM h_restN h_powerM h_powerN h_row c_w v_known v_kept v_size v_high v_behindMany v_ends v_lead v_round v_worthM v_worthN v_w) := hD0.re rfl
        refine lv_aload_n hx hb dX7_remember_27 rfl (lv_at hl 0 rfl) ?_
        refine lv_aload_n hx hb dX7_remember_28 rfl (lv_at hl 0 rfl) ?_
        refine va_get (D := (dC, dI)) (ci := 7) (v := .int v_known) (C := RX7) (T := TX7) (N := 19) hx hb hts inn_X7_remember_X7 hown hK hP 0 rfl rfl 1 (by decide) (hts (.fieldLink RX7 42 "RingBasesModel" "known" "I") (List.mem_of_getElem? (i := 1) rfl)) (fun _ h9 => h9) rfl dX7_remember_29 ?_
        refine lv_bipush (v := (8 : Int32)) hx hb dX7_remember_32 (by decide) ?_
        refine lv_icmp_ge (tgt := 46) hx hb dX7_remember_34 (by decide) (fun g_1 => ?_) (fun g_1 => ?_)
        · replace hF := ite_t g_1 hF
          refine lv_bipush (v := (8 : Int32)) hx hb dX7_remember_46 (by decide) ?_
          refine va_put (D := (dC, dI)) (ty := .int) (ci := 7) (v := .int (8 : Int32)) (C := RX7) (T := TX7) (N := 19) hx hb hts inn_X7_remember_X7 tyX7 tyX7_ok nmX7 hown hK hP hD hS 0 rfl rfl 1 (by decide) (hts (.fieldLink RX7 42 "RingBasesModel" "known" "I") (List.mem_of_getElem? (i := 1) rfl)) (fun _ h9 => h9) rfl (by decide +kernel) rfl rfl (Nat.le_of_ble_eq_true rfl) dX7_remember_48 (fun H locs hP hD hS => ?_)
          have hP : va_P (dC, dI) vwCl (wd_X7_remember h0 h_w h_word h_ahead h_behind h_restM h_restN h_powerM h_powerN h_row c_w (8 : Int32) v_kept v_size v_high v_behindMany v_ends v_lead v_round v_worthM v_worthN v_w) H := hP
          have hD : va_D A (wd_X7_remember h0 h_w h_word h_ahead h_behind h_restM h_restN h_powerM h_powerN h_row c_w (8 : Int32) v_kept v_size v_high v_behindMany v_ends v_lead v_round v_worthM v_worthN v_w) := hD
          obtain ⟨rfl, rfl⟩ := oks2 hF; exact hE _ _ _ _ hP hS dX7_remember_51
        · replace hF := ite_f g_1 hF
          refine lv_aload_n hx hb dX7_remember_37 rfl (lv_at hl 0 rfl) ?_
          refine va_get (D := (dC, dI)) (ci := 7) (v := .int v_known) (C := RX7) (T := TX7) (N := 19) hx hb hts inn_X7_remember_X7 hown hK hP 0 rfl rfl 1 (by decide) (hts (.fieldLink RX7 42 "RingBasesModel" "known" "I") (List.mem_of_getElem? (i := 1) rfl)) (fun _ h9 => h9) rfl dX7_remember_38 ?_
          refine lv_iconst (v := (1 : Int32)) hx hb dX7_remember_41 (by decide) ?_
          refine lv_iadd hx hb dX7_remember_42 ?_
          refine lv_goto (tgt := 48) hx hb dX7_remember_43 (by decide) ?_
          refine va_put (D := (dC, dI)) (ty := .int) (ci := 7) (v := .int (v_known + (1 : Int32))) (C := RX7) (T := TX7) (N := 19) hx hb hts inn_X7_remember_X7 tyX7 tyX7_ok nmX7 hown hK hP hD hS 0 rfl rfl 1 (by decide) (hts (.fieldLink RX7 42 "RingBasesModel" "known" "I") (List.mem_of_getElem? (i := 1) rfl)) (fun _ h9 => h9) rfl (by decide +kernel) rfl rfl (Nat.le_of_ble_eq_true rfl) dX7_remember_48 (fun H locs hP hD hS => ?_)
          have hP : va_P (dC, dI) vwCl (wd_X7_remember h0 h_w h_word h_ahead h_behind h_restM h_restN h_powerM h_powerN h_row c_w (v_known + (1 : Int32)) v_kept v_size v_high v_behindMany v_ends v_lead v_round v_worthM v_worthN v_w) H := hP
          have hD : va_D A (wd_X7_remember h0 h_w h_word h_ahead h_behind h_restM h_restN h_powerM h_powerN h_row c_w (v_known + (1 : Int32)) v_kept v_size v_high v_behindMany v_ends v_lead v_round v_worthM v_worthN v_w) := hD
          obtain ⟨rfl, rfl⟩ := oks2 hF; exact hE _ _ _ _ hP hS dX7_remember_51
      refine lv_iload_n hx hb dX7_remember_3 rfl (lv_at hl 1 rfl) ?_
      refine lv_if_le (tgt := 27) hx hb dX7_remember_4 (by decide) (fun g_2 => ?_) (fun g_2 => ?_)
      · replace hF := ite_t g_2 hF
        exact k_27 v_known v_w hF H locs hP hS ls (lv_sub hl [0] rfl)
      · replace hF := ite_f g_2 hF
        refine lv_aload_n hx hb dX7_remember_7 rfl (lv_at hl 0 rfl) ?_
        refine lv_bipush (v := (10 : Int32)) hx hb dX7_remember_8 (by decide) ?_
        refine lv_iload_n hx hb dX7_remember_10 rfl (lv_at hl 1 rfl) ?_
        refine lv_iconst (v := (1 : Int32)) hx hb dX7_remember_11 (by decide) ?_
        refine lv_isub hx hb dX7_remember_12 ?_
        refine lv_imul hx hb dX7_remember_13 ?_
        refine lv_bipush (v := (10 : Int32)) hx hb dX7_remember_14 (by decide) ?_
        refine lv_iload_n hx hb dX7_remember_16 rfl (lv_at hl 1 rfl) ?_
        refine lv_imul hx hb dX7_remember_17 ?_
        obtain ⟨o_3, hc_o_3, hF⟩ := bd_s hF
        refine wrVv (wc' := (wd_X7_copyRow h0 h_w h_word h_ahead h_behind h_restM h_restN h_powerM h_powerN h_row c_w v_known v_kept v_size v_high v_behindMany v_ends v_lead v_round v_worthM v_worthN o_3)) (As := [.int ((10 : Int32) * (x1 - (1 : Int32))), .int ((10 : Int32) * x1)]) (rest := []) (b := h0) hC (c_X7_copyRow l dC dI H.size h0 h_w h_word h_ahead h_behind h_restM h_restN h_powerM h_powerN h_row c_w v_known v_kept v_size v_high v_behindMany v_ends v_lead v_round v_worthM v_worthN v_w ((10 : Int32) * (x1 - (1 : Int32))) ((10 : Int32) * x1) o_3 hc_o_3) (cwV 2 hts gX7_remember_X7_copyRow rfl rfl rfl (by decide +kernel) ⟨Nat.le_of_ble_eq_true rfl, Nat.le_of_ble_eq_true rfl⟩) hN (hK.sub (tys' := [(c_w, .int)]) [0] rfl) hP hD hS hA [0, 1] rfl rfl rfl rfl 0 7 rfl rfl rfl rfl hl.1 (Nat.le_of_ble_eq_true rfl) dX7_remember_18 ⟨Nat.zero_le _, Nat.zero_le _⟩ (fun H locs hP hS => ?_)
        have hP : va_P (dC, dI) vwCl (wd_X7_remember h0 h_w h_word h_ahead h_behind h_restM h_restN h_powerM h_powerN h_row c_w v_known v_kept v_size v_high v_behindMany v_ends v_lead v_round v_worthM v_worthN o_3) H := hP
        have hD : va_D A (wd_X7_remember h0 h_w h_word h_ahead h_behind h_restM h_restN h_powerM h_powerN h_row c_w v_known v_kept v_size v_high v_behindMany v_ends v_lead v_round v_worthM v_worthN o_3) := va_D.re hD rfl
        refine lv_iinc (v := (x1 + (-1 : Int32))) (lv' := [(1, .int (x1 + (-1 : Int32))), (0, .ref h0)]) hx hb dX7_remember_21 hl (k := 1) rfl rfl (by decide) rfl (fun ls hl => ?_)
        refine lv_goto (tgt := 3) hx hb dX7_remember_24 (by decide) ?_
        exact ih (x1 + (-1 : Int32)) v_known o_3 hF H locs hP hS ls (lv_sub hl [1, 0] rfl)
  refine lv_bipush (v := (8 : Int32)) hx hb dX7_remember_0 (by decide) ?_
  refine lv_istore_n (lv' := [(1, .int (8 : Int32)), (0, .ref h0)]) hx hb dX7_remember_2 rfl hl (by decide) rfl (fun ls hl => ?_)
  exact k_3 _ (8 : Int32) v_known v_w hF H locs hP hS ls (lv_sub hl [1, 0] rfl)
set_option maxRecDepth 100000 in
set_option maxHeartbeats 4000000 in
theorem c_X7_remember (l : Launch) (dC : Nat → ClassId) (dI : Nat → Nat → Nat) (sz : Nat) (h0 h_w h_word h_ahead h_behind h_restM h_restN h_powerM h_powerN h_row : Nat) (c_w : ClassId) (v_known : Int32) (v_kept : Int32) (v_size : Int32) (v_high : Int32) (v_behindMany : Int32) (v_ends : Int32) (v_lead : Int32) (v_round : Int32) (v_worthM : Int64) (v_worthN : Int64) (v_w : (Nat → Int32)) (o : Int32 × (Nat → Int32)) (hF : F_X7_remember v_known v_w = some o) : Met l yX7_remember wsX7_remember rm_X7_remember (va_Pc [.ref h0] (PcW dC dI sz (wd_X7_remember h0 h_w h_word h_ahead h_behind h_restM h_restN h_powerM h_powerN h_row c_w v_known v_kept v_size v_high v_behindMany v_ends v_lead v_round v_worthM v_worthN v_w) [(c_w, .int)])) (va_Qv (fun (_ : Unit) => True) (fun _ t => va_P (dC, dI) vwCl (wd_X7_remember h0 h_w h_word h_ahead h_behind h_restM h_restN h_powerM h_powerN h_row c_w o.1 v_kept v_size v_high v_behindMany v_ends v_lead v_round v_worthM v_worthN o.2) t.heap) (va_A (wd_X7_remember h0 h_w h_word h_ahead h_behind h_restM h_restN h_powerM h_powerN h_row c_w v_known v_kept v_size v_high v_behindMany v_ends v_lead v_round v_worthM v_worthN v_w) sz)) 0 0 (va_A (wd_X7_remember h0 h_w h_word h_ahead h_behind h_restM h_restN h_powerM h_powerN h_row c_w v_known v_kept v_size v_high v_behindMany v_ends v_lead v_round v_worthM v_worthN v_w) sz) := by
  refine Met.ofW (cc := cX7_remember) (maxL := 2) (ret := none) (by decide) rfl ?_
  intro p e s m args below meth c s₁ B hml hv
  obtain ⟨rfl, hsz, hP, hK, hD0, hN⟩ := hv
  subst hsz
  have hl := lv_entry ([.ref h0]) (n := 2) (Nat.le_of_ble_eq_true rfl)
  rw [lg_entry_eq]
  generalize (lg_sl ([.ref h0]) ++ List.replicate (2 - (lg_sl ([.ref h0])).length) Slot.unset).toArray = ls at hl ⊢
  exact b_X7_remember h0 h_w h_word h_ahead h_behind h_restM h_restN h_powerM h_powerN h_row c_w v_known v_kept v_size v_high v_behindMany v_ends v_lead v_round v_worthM v_worthN v_w o.1 o.2 hF ⟨B.exec, B.bytes, hml, findClass_of_methodNamed B.named, atoms_spec (ws := wsX7_remember) B.pre⟩ hN hK hP (fun q h => Or.inr h) (hD0.self (sz := s.heap.size)) va_S.rf (fun H locs ls pc hP hS hd => W.vret B.exec B.bytes B.returns (fun t ht hW => ⟨⟨(), rfl, trivial, by show va_P (dC, dI) vwCl _ t.heap; rw [ht]; exact hP⟩, hS.F ht⟩) hS.2.2 hd B.notSynchronized) hl
theorem inn_X7_inside_X7 : ∀ w ∈ wsX70, w ∈ wsX7_inside := fun _ h => List.mem_cons_of_mem _ (List.mem_append_right _ h)
abbrev wd_X7_inside (h0 h_w h_word h_ahead h_behind h_restM h_restN h_powerM h_powerN h_row : Nat) (c_w : ClassId) (v_known : Int32) (v_kept : Int32) (v_size : Int32) (v_high : Int32) (v_behindMany : Int32) (v_ends : Int32) (v_lead : Int32) (v_round : Int32) (v_worthM : Int64) (v_worthN : Int64) (v_w : (Nat → Int32)) : va_W := [(h0, .inr (7, [.ref h_w, .int v_known, .int v_kept, .ref h_word, .int v_size, .ref h_ahead, .int v_high, .ref h_behind, .int v_behindMany, .ref h_restM, .ref h_restN, .ref h_powerM, .ref h_powerN, .int v_ends, .int v_lead, .int v_round, .ref h_row, .long v_worthM, .long v_worthN])), (h_w, .inl (c_w, 110, .inl v_w))]
abbrev rm_X7_inside : Room := { frames := 0, cells := 0, slots := 0, locals := 0 }
def F_X7_inside (v_w : (Nat → Int32)) : Int64 := (((v_w (0 : Int32).toNatClampNeg).toInt64 * (v_w (0 : Int32).toNatClampNeg).toInt64) + ((4 : Int64) * (v_w (1 : Int32).toNatClampNeg).toInt64))
set_option maxRecDepth 100000 in
set_option maxHeartbeats 4000000 in
theorem b_X7_inside {p : Program} {l : Launch} {e : Env} {s : State} {m : MethodId} {args : Array Value} {below : List Frame} {meth : Method} {c : Code} {Q : State → Prop} {dC : Nat → ClassId} {dI : Nat → Nat → Nat} {H : Heap} {locs : List Loc} {ls : Array Slot} (h0 h_w h_word h_ahead h_behind h_restM h_restN h_powerM h_powerN h_row : Nat) (c_w : ClassId) (v_known : Int32) (v_kept : Int32) (v_size : Int32) (v_high : Int32) (v_behindMany : Int32) (v_ends : Int32) (v_lead : Int32) (v_round : Int32) (v_worthM : Int64) (v_worthN : Int64) (v_w : (Nat → Int32)) (ou0 : Int64) (hF : F_X7_inside v_w = ou0) (hC : CallFix p m c cX7_inside 1 s args wsX7_inside RX7) (hN : NW s) (hK : va_K (dC, dI) vwCl [(c_w, .int)] s) (hP : va_P (dC, dI) vwCl (wd_X7_inside h0 h_w h_word h_ahead h_behind h_restM h_restN h_powerM h_powerN h_row c_w v_known v_kept v_size v_high v_behindMany v_ends v_lead v_round v_worthM v_worthN v_w) H) (hE : ∀ (ls : Array Slot) (pc : Nat), decode cX7_inside pc = .ok (.lreturn, 1) → W p l e rm_X7_inside s m args below meth c H locs 0 0 Q (F0 m pc ls [.long ou0])) (hl : lv_has ls 1 [(0, .ref h0)]) : W p l e rm_X7_inside s m args below meth c H locs 0 0 Q (F0 m 0 ls []) := by
  obtain ⟨hx, hb, hml, hown, hts⟩ := id hC
  unfold F_X7_inside at hF
  refine lv_aload_n hx hb dX7_inside_0 rfl (lv_at hl 0 rfl) ?_
  refine va_get (D := (dC, dI)) (ci := 7) (v := .ref h_w) (C := RX7) (T := TX7) (N := 19) hx hb hts inn_X7_inside_X7 hown hK hP 0 rfl rfl 0 (by decide) (hts (.fieldLink RX7 7 "RingBasesModel" "w" "[I") (List.mem_of_getElem? (i := 1) rfl)) (fun _ h9 => h9) rfl dX7_inside_1 ?_
  refine lv_iconst (v := (0 : Int32)) hx hb dX7_inside_4 (by decide) ?_
  refine va_iald hx hb hK hP 1 0 rfl rfl (by unfold vp_in; decide) dX7_inside_5 ?_
  refine lv_i2l hx hb dX7_inside_6 rfl ?_
  refine lv_aload_n hx hb dX7_inside_7 rfl (lv_at hl 0 rfl) ?_
  refine va_get (D := (dC, dI)) (ci := 7) (v := .ref h_w) (C := RX7) (T := TX7) (N := 19) hx hb hts inn_X7_inside_X7 hown hK hP 0 rfl rfl 0 (by decide) (hts (.fieldLink RX7 7 "RingBasesModel" "w" "[I") (List.mem_of_getElem? (i := 1) rfl)) (fun _ h9 => h9) rfl dX7_inside_8 ?_
  refine lv_iconst (v := (0 : Int32)) hx hb dX7_inside_11 (by decide) ?_
  refine va_iald hx hb hK hP 1 0 rfl rfl (by unfold vp_in; decide) dX7_inside_12 ?_
  refine lv_i2l hx hb dX7_inside_13 rfl ?_
  refine lv_lmul hx hb dX7_inside_14 ?_
  refine lv_ldc2 (v := (4 : Int64)) hx hb hown (hts (.constantLong RX7 46 (4)) (List.mem_of_getElem? (i := 2) rfl)) dX7_inside_15 ?_
  refine lv_aload_n hx hb dX7_inside_18 rfl (lv_at hl 0 rfl) ?_
  refine va_get (D := (dC, dI)) (ci := 7) (v := .ref h_w) (C := RX7) (T := TX7) (N := 19) hx hb hts inn_X7_inside_X7 hown hK hP 0 rfl rfl 0 (by decide) (hts (.fieldLink RX7 7 "RingBasesModel" "w" "[I") (List.mem_of_getElem? (i := 1) rfl)) (fun _ h9 => h9) rfl dX7_inside_19 ?_
  refine lv_iconst (v := (1 : Int32)) hx hb dX7_inside_22 (by decide) ?_
  refine va_iald hx hb hK hP 1 0 rfl rfl (by unfold vp_in; decide) dX7_inside_23 ?_
  refine lv_i2l hx hb dX7_inside_24 rfl ?_
  refine lv_lmul hx hb dX7_inside_25 ?_
  refine lv_ladd hx hb dX7_inside_26 ?_
  obtain rfl := hF; exact hE _ _ dX7_inside_27
set_option maxRecDepth 100000 in
set_option maxHeartbeats 4000000 in
theorem c_X7_inside (l : Launch) (dC : Nat → ClassId) (dI : Nat → Nat → Nat) (h0 h_w h_word h_ahead h_behind h_restM h_restN h_powerM h_powerN h_row : Nat) (c_w : ClassId) (v_known : Int32) (v_kept : Int32) (v_size : Int32) (v_high : Int32) (v_behindMany : Int32) (v_ends : Int32) (v_lead : Int32) (v_round : Int32) (v_worthM : Int64) (v_worthN : Int64) (v_w : (Nat → Int32)) (o : Int64) (hF : F_X7_inside v_w = o) : Met l yX7_inside wsX7_inside rm_X7_inside (va_Pc [.ref h0] (PcR dC dI (wd_X7_inside h0 h_w h_word h_ahead h_behind h_restM h_restN h_powerM h_powerN h_row c_w v_known v_kept v_size v_high v_behindMany v_ends v_lead v_round v_worthM v_worthN v_w) [(c_w, .int)])) (vp_Sl (fun r => r = o)) 0 0 (fun _ => False) := by
  refine Met.ofW (cc := cX7_inside) (maxL := 1) (ret := (some .long)) (by decide) rfl ?_
  intro p e s m args below meth c s₁ B hml hv
  obtain ⟨rfl, hP, hK, hN⟩ := hv
  have hl := lv_entry ([.ref h0]) (n := 1) (Nat.le_of_ble_eq_true rfl)
  rw [lg_entry_eq]
  generalize (lg_sl ([.ref h0]) ++ List.replicate (1 - (lg_sl ([.ref h0])).length) Slot.unset).toArray = ls at hl ⊢
  exact b_X7_inside h0 h_w h_word h_ahead h_behind h_restM h_restN h_powerM h_powerN h_row c_w v_known v_kept v_size v_high v_behindMany v_ends v_lead v_round v_worthM v_worthN v_w o hF ⟨B.exec, B.bytes, hml, findClass_of_methodNamed B.named, atoms_spec (ws := wsX7_inside) B.pre⟩ hN hK hP (fun ls pc hd => W.lret B.exec B.bytes B.returns (fun t ht hW => ⟨_, rfl, rfl, ht⟩) (fun q h => by cases h) hd B.notSynchronized) hl
abbrev wd_X7_signOne : va_W := []
abbrev rm_X7_signOne : Room := { frames := 0, cells := 0, slots := 0, locals := 0 }
def F_X7_signOne (x0 : Int64) : Int32 := (if (lg_cmp x0 (0 : Int64)) ≤ 0 then (if 0 ≤ (lg_cmp x0 (0 : Int64)) then (0 : Int32) else (-1 : Int32)) else (1 : Int32))
set_option maxRecDepth 100000 in
set_option maxHeartbeats 4000000 in
theorem b_X7_signOne {p : Program} {l : Launch} {e : Env} {s : State} {m : MethodId} {args : Array Value} {below : List Frame} {meth : Method} {c : Code} {Q : State → Prop} {dC : Nat → ClassId} {dI : Nat → Nat → Nat} {H : Heap} {locs : List Loc} {ls : Array Slot} (x0 : Int64) (ou0 : Int32) (hF : F_X7_signOne x0 = ou0) (hC : CallFix p m c cX7_signOne 2 s args wsX7_signOne RX7) (hN : NW s) (hK : va_K (dC, dI) vwCl [] s) (hP : va_P (dC, dI) vwCl wd_X7_signOne H) (hE : ∀ (ls : Array Slot) (pc : Nat), decode cX7_signOne pc = .ok (.ireturn, 1) → W p l e rm_X7_signOne s m args below meth c H locs 0 0 Q (F0 m pc ls [.int ou0])) (hl : lv_has ls 2 [(0, .long x0)]) : W p l e rm_X7_signOne s m args below meth c H locs 0 0 Q (F0 m 0 ls []) := by
  obtain ⟨hx, hb, hml, hown, hts⟩ := id hC
  unfold F_X7_signOne at hF
  refine lv_lload_n hx hb dX7_signOne_0 rfl (lv_at hl 0 rfl) ?_
  refine lv_lconst (v := (0 : Int64)) hx hb dX7_signOne_1 (by decide) ?_
  refine W.lcmp hx hb dX7_signOne_2 ?_
  refine lv_if_le (tgt := 10) hx hb dX7_signOne_3 (by decide) (fun g_1 => ?_) (fun g_1 => ?_)
  · replace hF := ite_t g_1 hF
    refine lv_lload_n hx hb dX7_signOne_10 rfl (lv_at hl 0 rfl) ?_
    refine lv_lconst (v := (0 : Int64)) hx hb dX7_signOne_11 (by decide) ?_
    refine W.lcmp hx hb dX7_signOne_12 ?_
    refine lv_if_ge (tgt := 20) hx hb dX7_signOne_13 (by decide) (fun g_2 => ?_) (fun g_2 => ?_)
    · replace hF := ite_t g_2 hF
      refine lv_iconst (v := (0 : Int32)) hx hb dX7_signOne_20 (by decide) ?_
      obtain rfl := hF; exact hE _ _ dX7_signOne_21
    · replace hF := ite_f g_2 hF
      refine lv_iconst (v := (-1 : Int32)) hx hb dX7_signOne_16 (by decide) ?_
      refine lv_goto (tgt := 21) hx hb dX7_signOne_17 (by decide) ?_
      obtain rfl := hF; exact hE _ _ dX7_signOne_21
  · replace hF := ite_f g_1 hF
    refine lv_iconst (v := (1 : Int32)) hx hb dX7_signOne_6 (by decide) ?_
    refine lv_goto (tgt := 21) hx hb dX7_signOne_7 (by decide) ?_
    obtain rfl := hF; exact hE _ _ dX7_signOne_21
set_option maxRecDepth 100000 in
set_option maxHeartbeats 4000000 in
theorem c_X7_signOne (l : Launch) (dC : Nat → ClassId) (dI : Nat → Nat → Nat) (x0 : Int64) (o : Int32) (hF : F_X7_signOne x0 = o) : Met l yX7_signOne wsX7_signOne rm_X7_signOne (va_Pc [.long x0] (PcR dC dI wd_X7_signOne [])) (vp_Si (fun r => r = o)) 0 0 (fun _ => False) := by
  refine Met.ofW (cc := cX7_signOne) (maxL := 2) (ret := (some .int)) (by decide) rfl ?_
  intro p e s m args below meth c s₁ B hml hv
  obtain ⟨rfl, hP, hK, hN⟩ := hv
  have hl := lv_entry ([.long x0]) (n := 2) (Nat.le_of_ble_eq_true rfl)
  rw [lg_entry_eq]
  generalize (lg_sl ([.long x0]) ++ List.replicate (2 - (lg_sl ([.long x0])).length) Slot.unset).toArray = ls at hl ⊢
  exact b_X7_signOne x0 o hF ⟨B.exec, B.bytes, hml, findClass_of_methodNamed B.named, atoms_spec (ws := wsX7_signOne) B.pre⟩ hN hK hP (fun ls pc hd => W.iret B.exec B.bytes B.returns (fun t ht hW => ⟨_, rfl, rfl, ht⟩) (fun q h => by cases h) hd B.notSynchronized) hl
theorem inn_X7_signOf_X7 : ∀ w ∈ wsX70, w ∈ wsX7_signOf := fun _ h => List.mem_cons_of_mem _ (List.mem_append_right _ h)
abbrev wd_X7_signOf (h0 h_w h_word h_ahead h_behind h_restM h_restN h_powerM h_powerN h_row : Nat) (c_w : ClassId) (v_known : Int32) (v_kept : Int32) (v_size : Int32) (v_high : Int32) (v_behindMany : Int32) (v_ends : Int32) (v_lead : Int32) (v_round : Int32) (v_worthM : Int64) (v_worthN : Int64) (v_w : (Nat → Int32)) : va_W := [(h0, .inr (7, [.ref h_w, .int v_known, .int v_kept, .ref h_word, .int v_size, .ref h_ahead, .int v_high, .ref h_behind, .int v_behindMany, .ref h_restM, .ref h_restN, .ref h_powerM, .ref h_powerN, .int v_ends, .int v_lead, .int v_round, .ref h_row, .long v_worthM, .long v_worthN])), (h_w, .inl (c_w, 110, .inl v_w))]
abbrev rm_X7_signOf : Room := { frames := 1, cells := 0, slots := 0, locals := 21 }
def F_X7_signOf (x1 : Int64) (x3 : Int64) (v_w : (Nat → Int32)) : Int32 := (if ((F_X7_signOne (((2 : Int64) * x1) + (x3 * (v_w (0 : Int32).toNatClampNeg).toInt64))) * (F_X7_signOne x3)) < 0 then (if (lg_cmp ((x3 * x3) * (F_X7_inside v_w)) ((((2 : Int64) * x1) + (x3 * (v_w (0 : Int32).toNatClampNeg).toInt64)) * (((2 : Int64) * x1) + (x3 * (v_w (0 : Int32).toNatClampNeg).toInt64)))) ≤ 0 then (if (0 : Int32) = 0 then (F_X7_signOne (((2 : Int64) * x1) + (x3 * (v_w (0 : Int32).toNatClampNeg).toInt64))) else (F_X7_signOne x3)) else (if (1 : Int32) = 0 then (F_X7_signOne (((2 : Int64) * x1) + (x3 * (v_w (0 : Int32).toNatClampNeg).toInt64))) else (F_X7_signOne x3))) else (if (lg_cmp x3 (0 : Int64)) = 0 then (F_X7_signOne (((2 : Int64) * x1) + (x3 * (v_w (0 : Int32).toNatClampNeg).toInt64))) else (F_X7_signOne x3)))
set_option maxRecDepth 100000 in
set_option maxHeartbeats 4000000 in
theorem b_X7_signOf {p : Program} {l : Launch} {e : Env} {s : State} {m : MethodId} {args : Array Value} {below : List Frame} {meth : Method} {c : Code} {Q : State → Prop} {dC : Nat → ClassId} {dI : Nat → Nat → Nat} {H : Heap} {locs : List Loc} {ls : Array Slot} (h0 h_w h_word h_ahead h_behind h_restM h_restN h_powerM h_powerN h_row : Nat) (c_w : ClassId) (v_known : Int32) (v_kept : Int32) (v_size : Int32) (v_high : Int32) (v_behindMany : Int32) (v_ends : Int32) (v_lead : Int32) (v_round : Int32) (v_worthM : Int64) (v_worthN : Int64) (v_w : (Nat → Int32)) (x1 : Int64) (x3 : Int64) (ou0 : Int32) (hF : F_X7_signOf x1 x3 v_w = ou0) (hC : CallFix p m c cX7_signOf 8 s args wsX7_signOf RX7) (hN : NW s) (hK : va_K (dC, dI) vwCl [(c_w, .int)] s) (hP : va_P (dC, dI) vwCl (wd_X7_signOf h0 h_w h_word h_ahead h_behind h_restM h_restN h_powerM h_powerN h_row c_w v_known v_kept v_size v_high v_behindMany v_ends v_lead v_round v_worthM v_worthN v_w) H) (hE : ∀ (ls : Array Slot) (pc : Nat), decode cX7_signOf pc = .ok (.ireturn, 1) → W p l e rm_X7_signOf s m args below meth c H locs 0 0 Q (F0 m pc ls [.int ou0])) (hl : lv_has ls 8 [(0, .ref h0), (1, .long x1), (3, .long x3)]) : W p l e rm_X7_signOf s m args below meth c H locs 0 0 Q (F0 m 0 ls []) := by
  obtain ⟨hx, hb, hml, hown, hts⟩ := id hC
  unfold F_X7_signOf at hF
  refine lv_ldc2 (v := (2 : Int64)) hx hb hown (hts (.constantLong RX7 48 (2)) (List.mem_of_getElem? (i := 1) rfl)) dX7_signOf_0 ?_
  refine lv_lload_n hx hb dX7_signOf_3 rfl (lv_at hl 1 rfl) ?_
  refine lv_lmul hx hb dX7_signOf_4 ?_
  refine lv_lload_n hx hb dX7_signOf_5 rfl (lv_at hl 2 rfl) ?_
  refine lv_aload_n hx hb dX7_signOf_6 rfl (lv_at hl 0 rfl) ?_
  refine va_get (D := (dC, dI)) (ci := 7) (v := .ref h_w) (C := RX7) (T := TX7) (N := 19) hx hb hts inn_X7_signOf_X7 hown hK hP 0 rfl rfl 0 (by decide) (hts (.fieldLink RX7 7 "RingBasesModel" "w" "[I") (List.mem_of_getElem? (i := 2) rfl)) (fun _ h9 => h9) rfl dX7_signOf_7 ?_
  refine lv_iconst (v := (0 : Int32)) hx hb dX7_signOf_10 (by decide) ?_
  refine va_iald hx hb hK hP 1 0 rfl rfl (by unfold vp_in; decide) dX7_signOf_11 ?_
  refine lv_i2l hx hb dX7_signOf_12 rfl ?_
  refine lv_lmul hx hb dX7_signOf_13 ?_
  refine lv_ladd hx hb dX7_signOf_14 ?_
  refine lv_lstore (lv' := [(5, .long (((2 : Int64) * x1) + (x3 * (v_w (0 : Int32).toNatClampNeg).toInt64))), (0, .ref h0), (1, .long x1), (3, .long x3)]) hx hb dX7_signOf_15 hl (by decide) rfl (fun ls hl => ?_)
  refine lv_lload hx hb dX7_signOf_17 (lv_at hl 0 rfl) ?_
  refine rdSi (As := [.long (((2 : Int64) * x1) + (x3 * (v_w (0 : Int32).toNatClampNeg).toInt64))]) (rest := []) hC (c_X7_signOne l dC dI  (((2 : Int64) * x1) + (x3 * (v_w (0 : Int32).toNatClampNeg).toInt64)) (F_X7_signOne (((2 : Int64) * x1) + (x3 * (v_w (0 : Int32).toNatClampNeg).toInt64))) rfl) (va_cwS 1 hts gX7_signOf_X7_signOne rfl rfl rfl (by decide +kernel) ⟨Nat.le_of_ble_eq_true rfl, Nat.le_of_ble_eq_true rfl⟩) hN (hK.sub (tys' := []) [] rfl) (hP.sub (ws' := wd_X7_signOne) [] rfl) rfl rfl hl.1 (Nat.le_of_ble_eq_true rfl) dX7_signOf_19 ⟨Nat.zero_le _, Nat.zero_le _⟩ ?_
  refine lv_lload_n hx hb dX7_signOf_22 rfl (lv_at hl 3 rfl) ?_
  refine rdSi (As := [.long x3]) (rest := [.int (F_X7_signOne (((2 : Int64) * x1) + (x3 * (v_w (0 : Int32).toNatClampNeg).toInt64)))]) hC (c_X7_signOne l dC dI  x3 (F_X7_signOne x3) rfl) (va_cwS 1 hts gX7_signOf_X7_signOne rfl rfl rfl (by decide +kernel) ⟨Nat.le_of_ble_eq_true rfl, Nat.le_of_ble_eq_true rfl⟩) hN (hK.sub (tys' := []) [] rfl) (hP.sub (ws' := wd_X7_signOne) [] rfl) rfl rfl hl.1 (Nat.le_of_ble_eq_true rfl) dX7_signOf_23 ⟨Nat.zero_le _, Nat.zero_le _⟩ ?_
  refine lv_imul hx hb dX7_signOf_26 ?_
  refine lv_if_lt (tgt := 49) hx hb dX7_signOf_27 (by decide) (fun g_1 => ?_) (fun g_1 => ?_)
  · replace hF := ite_t g_1 hF
    refine lv_lload_n hx hb dX7_signOf_49 rfl (lv_at hl 3 rfl) ?_
    refine lv_lload_n hx hb dX7_signOf_50 rfl (lv_at hl 3 rfl) ?_
    refine lv_lmul hx hb dX7_signOf_51 ?_
    refine lv_aload_n hx hb dX7_signOf_52 rfl (lv_at hl 1 rfl) ?_
    refine rdVl (As := []) (rest := [.long (x3 * x3)]) (b := h0) hC (c_X7_inside l dC dI h0 h_w h_word h_ahead h_behind h_restM h_restN h_powerM h_powerN h_row c_w v_known v_kept v_size v_high v_behindMany v_ends v_lead v_round v_worthM v_worthN v_w  (F_X7_inside v_w) rfl) (cwV 0 hts gX7_signOf_X7_inside rfl rfl rfl (by decide +kernel) ⟨Nat.le_of_ble_eq_true rfl, Nat.le_of_ble_eq_true rfl⟩) hN (hK.sub (tys' := [(c_w, .int)]) [0] rfl) (hP.sub (ws' := (wd_X7_inside h0 h_w h_word h_ahead h_behind h_restM h_restN h_powerM h_powerN h_row c_w v_known v_kept v_size v_high v_behindMany v_ends v_lead v_round v_worthM v_worthN v_w)) [0, 1] rfl) 0 7 rfl rfl rfl rfl hl.1 (Nat.le_of_ble_eq_true rfl) dX7_signOf_53 ⟨Nat.zero_le _, Nat.zero_le _⟩ ?_
    refine lv_lmul hx hb dX7_signOf_56 ?_
    refine lv_lload hx hb dX7_signOf_57 (lv_at hl 0 rfl) ?_
    refine lv_lload hx hb dX7_signOf_59 (lv_at hl 0 rfl) ?_
    refine lv_lmul hx hb dX7_signOf_61 ?_
    refine W.lcmp hx hb dX7_signOf_62 ?_
    refine lv_if_le (tgt := 70) hx hb dX7_signOf_63 (by decide) (fun g_2 => ?_) (fun g_2 => ?_)
    · replace hF := ite_t g_2 hF
      refine lv_iconst (v := (0 : Int32)) hx hb dX7_signOf_70 (by decide) ?_
      refine lv_istore (lv' := [(7, .int (0 : Int32)), (5, .long (((2 : Int64) * x1) + (x3 * (v_w (0 : Int32).toNatClampNeg).toInt64))), (0, .ref h0), (1, .long x1), (3, .long x3)]) hx hb dX7_signOf_71 hl (by decide) rfl (fun ls hl => ?_)
      refine lv_iload hx hb dX7_signOf_73 (lv_at hl 0 rfl) ?_
      refine lv_if_eq (tgt := 85) hx hb dX7_signOf_75 (by decide) (fun g_3 => ?_) (fun g_3 => ?_)
      · replace hF := ite_t g_3 hF
        refine lv_lload hx hb dX7_signOf_85 (lv_at hl 1 rfl) ?_
        refine rdSi (As := [.long (((2 : Int64) * x1) + (x3 * (v_w (0 : Int32).toNatClampNeg).toInt64))]) (rest := []) hC (c_X7_signOne l dC dI  (((2 : Int64) * x1) + (x3 * (v_w (0 : Int32).toNatClampNeg).toInt64)) (F_X7_signOne (((2 : Int64) * x1) + (x3 * (v_w (0 : Int32).toNatClampNeg).toInt64))) rfl) (va_cwS 1 hts gX7_signOf_X7_signOne rfl rfl rfl (by decide +kernel) ⟨Nat.le_of_ble_eq_true rfl, Nat.le_of_ble_eq_true rfl⟩) hN (hK.sub (tys' := []) [] rfl) (hP.sub (ws' := wd_X7_signOne) [] rfl) rfl rfl hl.1 (Nat.le_of_ble_eq_true rfl) dX7_signOf_87 ⟨Nat.zero_le _, Nat.zero_le _⟩ ?_
        obtain rfl := hF; exact hE _ _ dX7_signOf_90
      · replace hF := ite_f g_3 hF
        refine lv_lload_n hx hb dX7_signOf_78 rfl (lv_at hl 4 rfl) ?_
        refine rdSi (As := [.long x3]) (rest := []) hC (c_X7_signOne l dC dI  x3 (F_X7_signOne x3) rfl) (va_cwS 1 hts gX7_signOf_X7_signOne rfl rfl rfl (by decide +kernel) ⟨Nat.le_of_ble_eq_true rfl, Nat.le_of_ble_eq_true rfl⟩) hN (hK.sub (tys' := []) [] rfl) (hP.sub (ws' := wd_X7_signOne) [] rfl) rfl rfl hl.1 (Nat.le_of_ble_eq_true rfl) dX7_signOf_79 ⟨Nat.zero_le _, Nat.zero_le _⟩ ?_
        refine lv_goto (tgt := 90) hx hb dX7_signOf_82 (by decide) ?_
        obtain rfl := hF; exact hE _ _ dX7_signOf_90
    · replace hF := ite_f g_2 hF
      refine lv_iconst (v := (1 : Int32)) hx hb dX7_signOf_66 (by decide) ?_
      refine lv_goto (tgt := 71) hx hb dX7_signOf_67 (by decide) ?_
      refine lv_istore (lv' := [(7, .int (1 : Int32)), (5, .long (((2 : Int64) * x1) + (x3 * (v_w (0 : Int32).toNatClampNeg).toInt64))), (0, .ref h0), (1, .long x1), (3, .long x3)]) hx hb dX7_signOf_71 hl (by decide) rfl (fun ls hl => ?_)
      refine lv_iload hx hb dX7_signOf_73 (lv_at hl 0 rfl) ?_
      refine lv_if_eq (tgt := 85) hx hb dX7_signOf_75 (by decide) (fun g_4 => ?_) (fun g_4 => ?_)
      · replace hF := ite_t g_4 hF
        refine lv_lload hx hb dX7_signOf_85 (lv_at hl 1 rfl) ?_
        refine rdSi (As := [.long (((2 : Int64) * x1) + (x3 * (v_w (0 : Int32).toNatClampNeg).toInt64))]) (rest := []) hC (c_X7_signOne l dC dI  (((2 : Int64) * x1) + (x3 * (v_w (0 : Int32).toNatClampNeg).toInt64)) (F_X7_signOne (((2 : Int64) * x1) + (x3 * (v_w (0 : Int32).toNatClampNeg).toInt64))) rfl) (va_cwS 1 hts gX7_signOf_X7_signOne rfl rfl rfl (by decide +kernel) ⟨Nat.le_of_ble_eq_true rfl, Nat.le_of_ble_eq_true rfl⟩) hN (hK.sub (tys' := []) [] rfl) (hP.sub (ws' := wd_X7_signOne) [] rfl) rfl rfl hl.1 (Nat.le_of_ble_eq_true rfl) dX7_signOf_87 ⟨Nat.zero_le _, Nat.zero_le _⟩ ?_
        obtain rfl := hF; exact hE _ _ dX7_signOf_90
      · replace hF := ite_f g_4 hF
        refine lv_lload_n hx hb dX7_signOf_78 rfl (lv_at hl 4 rfl) ?_
        refine rdSi (As := [.long x3]) (rest := []) hC (c_X7_signOne l dC dI  x3 (F_X7_signOne x3) rfl) (va_cwS 1 hts gX7_signOf_X7_signOne rfl rfl rfl (by decide +kernel) ⟨Nat.le_of_ble_eq_true rfl, Nat.le_of_ble_eq_true rfl⟩) hN (hK.sub (tys' := []) [] rfl) (hP.sub (ws' := wd_X7_signOne) [] rfl) rfl rfl hl.1 (Nat.le_of_ble_eq_true rfl) dX7_signOf_79 ⟨Nat.zero_le _, Nat.zero_le _⟩ ?_
        refine lv_goto (tgt := 90) hx hb dX7_signOf_82 (by decide) ?_
        obtain rfl := hF; exact hE _ _ dX7_signOf_90
  · replace hF := ite_f g_1 hF
    refine lv_lload_n hx hb dX7_signOf_30 rfl (lv_at hl 3 rfl) ?_
    refine lv_lconst (v := (0 : Int64)) hx hb dX7_signOf_31 (by decide) ?_
    refine W.lcmp hx hb dX7_signOf_32 ?_
    refine lv_if_ne (tgt := 44) hx hb dX7_signOf_33 (by decide) (fun g_5 => ?_) (fun g_5 => ?_)
    · replace hF := ite_f g_5 hF
      refine lv_lload_n hx hb dX7_signOf_44 rfl (lv_at hl 3 rfl) ?_
      refine rdSi (As := [.long x3]) (rest := []) hC (c_X7_signOne l dC dI  x3 (F_X7_signOne x3) rfl) (va_cwS 1 hts gX7_signOf_X7_signOne rfl rfl rfl (by decide +kernel) ⟨Nat.le_of_ble_eq_true rfl, Nat.le_of_ble_eq_true rfl⟩) hN (hK.sub (tys' := []) [] rfl) (hP.sub (ws' := wd_X7_signOne) [] rfl) rfl rfl hl.1 (Nat.le_of_ble_eq_true rfl) dX7_signOf_45 ⟨Nat.zero_le _, Nat.zero_le _⟩ ?_
      obtain rfl := hF; exact hE _ _ dX7_signOf_48
    · replace hF := ite_t g_5 hF
      refine lv_lload hx hb dX7_signOf_36 (lv_at hl 0 rfl) ?_
      refine rdSi (As := [.long (((2 : Int64) * x1) + (x3 * (v_w (0 : Int32).toNatClampNeg).toInt64))]) (rest := []) hC (c_X7_signOne l dC dI  (((2 : Int64) * x1) + (x3 * (v_w (0 : Int32).toNatClampNeg).toInt64)) (F_X7_signOne (((2 : Int64) * x1) + (x3 * (v_w (0 : Int32).toNatClampNeg).toInt64))) rfl) (va_cwS 1 hts gX7_signOf_X7_signOne rfl rfl rfl (by decide +kernel) ⟨Nat.le_of_ble_eq_true rfl, Nat.le_of_ble_eq_true rfl⟩) hN (hK.sub (tys' := []) [] rfl) (hP.sub (ws' := wd_X7_signOne) [] rfl) rfl rfl hl.1 (Nat.le_of_ble_eq_true rfl) dX7_signOf_38 ⟨Nat.zero_le _, Nat.zero_le _⟩ ?_
      refine lv_goto (tgt := 48) hx hb dX7_signOf_41 (by decide) ?_
      obtain rfl := hF; exact hE _ _ dX7_signOf_48
set_option maxRecDepth 100000 in
set_option maxHeartbeats 4000000 in
theorem c_X7_signOf (l : Launch) (dC : Nat → ClassId) (dI : Nat → Nat → Nat) (h0 h_w h_word h_ahead h_behind h_restM h_restN h_powerM h_powerN h_row : Nat) (c_w : ClassId) (v_known : Int32) (v_kept : Int32) (v_size : Int32) (v_high : Int32) (v_behindMany : Int32) (v_ends : Int32) (v_lead : Int32) (v_round : Int32) (v_worthM : Int64) (v_worthN : Int64) (v_w : (Nat → Int32)) (x1 : Int64) (x3 : Int64) (o : Int32) (hF : F_X7_signOf x1 x3 v_w = o) : Met l yX7_signOf wsX7_signOf rm_X7_signOf (va_Pc [.ref h0, .long x1, .long x3] (PcR dC dI (wd_X7_signOf h0 h_w h_word h_ahead h_behind h_restM h_restN h_powerM h_powerN h_row c_w v_known v_kept v_size v_high v_behindMany v_ends v_lead v_round v_worthM v_worthN v_w) [(c_w, .int)])) (vp_Si (fun r => r = o)) 0 0 (fun _ => False) := by
  refine Met.ofW (cc := cX7_signOf) (maxL := 8) (ret := (some .int)) (by decide) rfl ?_
  intro p e s m args below meth c s₁ B hml hv
  obtain ⟨rfl, hP, hK, hN⟩ := hv
  have hl := lv_entry ([.ref h0, .long x1, .long x3]) (n := 8) (Nat.le_of_ble_eq_true rfl)
  rw [lg_entry_eq]
  generalize (lg_sl ([.ref h0, .long x1, .long x3]) ++ List.replicate (8 - (lg_sl ([.ref h0, .long x1, .long x3])).length) Slot.unset).toArray = ls at hl ⊢
  exact b_X7_signOf h0 h_w h_word h_ahead h_behind h_restM h_restN h_powerM h_powerN h_row c_w v_known v_kept v_size v_high v_behindMany v_ends v_lead v_round v_worthM v_worthN v_w x1 x3 o hF ⟨B.exec, B.bytes, hml, findClass_of_methodNamed B.named, atoms_spec (ws := wsX7_signOf) B.pre⟩ hN hK hP (fun ls pc hd => W.iret B.exec B.bytes B.returns (fun t ht hW => ⟨_, rfl, rfl, ht⟩) (fun q h => by cases h) hd B.notSynchronized) hl
abbrev wd_X7_rootOf : va_W := []
abbrev rm_X7_rootOf : Room := { frames := 0, cells := 0, slots := 0, locals := 0 }
def F_X7_rootOf_6 (x0 : Int64) : Nat → Int64 → Int32 → Option (Int64)
  | 0, _, _ => none
  | fu + 1, x2, x4 => (if x4 < 0 then (some x2) else (if 0 < (lg_cmp ((x2 + ((1 : Int64) <<< (x4.toInt64 &&& 63))) * (x2 + ((1 : Int64) <<< (x4.toInt64 &&& 63)))) x0) then (F_X7_rootOf_6 x0 fu x2 (x4 + (-1 : Int32))) else (F_X7_rootOf_6 x0 fu (x2 + ((1 : Int64) <<< (x4.toInt64 &&& 63))) (x4 + (-1 : Int32)))))
def F_X7_rootOf (x0 : Int64) : Option (Int64) := (F_X7_rootOf_6  x0 128 (0 : Int64) (30 : Int32))
set_option maxRecDepth 100000 in
set_option maxHeartbeats 4000000 in
theorem b_X7_rootOf {p : Program} {l : Launch} {e : Env} {s : State} {m : MethodId} {args : Array Value} {below : List Frame} {meth : Method} {c : Code} {Q : State → Prop} {dC : Nat → ClassId} {dI : Nat → Nat → Nat} {H : Heap} {locs : List Loc} {ls : Array Slot} (x0 : Int64) (ou0 : Int64) (hF : F_X7_rootOf x0 = some ou0) (hC : CallFix p m c cX7_rootOf 7 s args wsX7_rootOf RX7) (hN : NW s) (hK : va_K (dC, dI) vwCl [] s) (hP : va_P (dC, dI) vwCl wd_X7_rootOf H) (hE : ∀ (ls : Array Slot) (pc : Nat), decode cX7_rootOf pc = .ok (.lreturn, 1) → W p l e rm_X7_rootOf s m args below meth c H locs 0 0 Q (F0 m pc ls [.long ou0])) (hl : lv_has ls 7 [(0, .long x0)]) : W p l e rm_X7_rootOf s m args below meth c H locs 0 0 Q (F0 m 0 ls []) := by
  obtain ⟨hx, hb, hml, hown, hts⟩ := id hC
  unfold F_X7_rootOf at hF
  have k_6 : ∀ (fu_6 : Nat) (x2 : Int64) (x4 : Int32), F_X7_rootOf_6  x0 fu_6 x2 x4 = some ou0 → ∀ ls : Array Slot, lv_has ls 7 [(0, .long x0), (2, .long x2), (4, .int x4)] → W p l e rm_X7_rootOf s m args below meth c H locs 0 0 Q (F0 m 6 ls []) := by
    intro fu_6
    induction fu_6 with
    | zero => intro x2 x4 hF; rw [F_X7_rootOf_6] at hF; cases hF
    | succ fu_6 ih =>
      intro x2 x4 hF ls hl
      rw [F_X7_rootOf_6] at hF
      have ih_6 := ih
      refine lv_iload hx hb dX7_rootOf_6 (lv_at hl 2 rfl) ?_
      refine lv_if_lt (tgt := 42) hx hb dX7_rootOf_8 (by decide) (fun g_1 => ?_) (fun g_1 => ?_)
      · replace hF := ite_t g_1 hF
        refine lv_lload_n hx hb dX7_rootOf_42 rfl (lv_at hl 1 rfl) ?_
        obtain rfl := Option.some.inj hF; exact hE _ _ dX7_rootOf_43
      · replace hF := ite_f g_1 hF
        refine lv_lload_n hx hb dX7_rootOf_11 rfl (lv_at hl 1 rfl) ?_
        refine lv_lconst (v := (1 : Int64)) hx hb dX7_rootOf_12 (by decide) ?_
        refine lv_iload hx hb dX7_rootOf_13 (lv_at hl 2 rfl) ?_
        refine lv_lshl hx hb dX7_rootOf_15 rfl ?_
        refine lv_ladd hx hb dX7_rootOf_16 ?_
        refine lv_lstore (lv' := [(5, .long (x2 + ((1 : Int64) <<< (x4.toInt64 &&& 63)))), (0, .long x0), (2, .long x2), (4, .int x4)]) hx hb dX7_rootOf_17 hl (by decide) rfl (fun ls hl => ?_)
        refine lv_lload hx hb dX7_rootOf_19 (lv_at hl 0 rfl) ?_
        refine lv_lload hx hb dX7_rootOf_21 (lv_at hl 0 rfl) ?_
        refine lv_lmul hx hb dX7_rootOf_23 ?_
        refine lv_lload_n hx hb dX7_rootOf_24 rfl (lv_at hl 1 rfl) ?_
        refine W.lcmp hx hb dX7_rootOf_25 ?_
        refine lv_if_gt (tgt := 34) hx hb dX7_rootOf_26 (by decide) (fun g_2 => ?_) (fun g_2 => ?_)
        · replace hF := ite_t g_2 hF
          refine lv_lload_n hx hb dX7_rootOf_34 rfl (lv_at hl 2 rfl) ?_
          refine lv_lstore_n (lv' := [(2, .long x2), (5, .long (x2 + ((1 : Int64) <<< (x4.toInt64 &&& 63)))), (0, .long x0), (4, .int x4)]) hx hb dX7_rootOf_35 rfl hl (by decide) rfl (fun ls hl => ?_)
          refine lv_iinc (v := (x4 + (-1 : Int32))) (lv' := [(4, .int (x4 + (-1 : Int32))), (2, .long x2), (5, .long (x2 + ((1 : Int64) <<< (x4.toInt64 &&& 63)))), (0, .long x0)]) hx hb dX7_rootOf_36 hl (k := 3) rfl rfl (by decide) rfl (fun ls hl => ?_)
          refine lv_goto (tgt := 6) hx hb dX7_rootOf_39 (by decide) ?_
          exact ih x2 (x4 + (-1 : Int32)) hF ls (lv_sub hl [3, 1, 0] rfl)
        · replace hF := ite_f g_2 hF
          refine lv_lload hx hb dX7_rootOf_29 (lv_at hl 0 rfl) ?_
          refine lv_goto (tgt := 35) hx hb dX7_rootOf_31 (by decide) ?_
          refine lv_lstore_n (lv' := [(2, .long (x2 + ((1 : Int64) <<< (x4.toInt64 &&& 63)))), (5, .long (x2 + ((1 : Int64) <<< (x4.toInt64 &&& 63)))), (0, .long x0), (4, .int x4)]) hx hb dX7_rootOf_35 rfl hl (by decide) rfl (fun ls hl => ?_)
          refine lv_iinc (v := (x4 + (-1 : Int32))) (lv' := [(4, .int (x4 + (-1 : Int32))), (2, .long (x2 + ((1 : Int64) <<< (x4.toInt64 &&& 63)))), (5, .long (x2 + ((1 : Int64) <<< (x4.toInt64 &&& 63)))), (0, .long x0)]) hx hb dX7_rootOf_36 hl (k := 3) rfl rfl (by decide) rfl (fun ls hl => ?_)
          refine lv_goto (tgt := 6) hx hb dX7_rootOf_39 (by decide) ?_
          exact ih (x2 + ((1 : Int64) <<< (x4.toInt64 &&& 63))) (x4 + (-1 : Int32)) hF ls (lv_sub hl [3, 1, 0] rfl)
  refine lv_lconst (v := (0 : Int64)) hx hb dX7_rootOf_0 (by decide) ?_
  refine lv_lstore_n (lv' := [(2, .long (0 : Int64)), (0, .long x0)]) hx hb dX7_rootOf_1 rfl hl (by decide) rfl (fun ls hl => ?_)
  refine lv_bipush (v := (30 : Int32)) hx hb dX7_rootOf_2 (by decide) ?_
  refine lv_istore (lv' := [(4, .int (30 : Int32)), (2, .long (0 : Int64)), (0, .long x0)]) hx hb dX7_rootOf_4 hl (by decide) rfl (fun ls hl => ?_)
  exact k_6 _ (0 : Int64) (30 : Int32) hF ls (lv_sub hl [2, 1, 0] rfl)
set_option maxRecDepth 100000 in
set_option maxHeartbeats 4000000 in
theorem c_X7_rootOf (l : Launch) (dC : Nat → ClassId) (dI : Nat → Nat → Nat) (x0 : Int64) (o : Int64) (hF : F_X7_rootOf x0 = some o) : Met l yX7_rootOf wsX7_rootOf rm_X7_rootOf (va_Pc [.long x0] (PcR dC dI wd_X7_rootOf [])) (vp_Sl (fun r => r = o)) 0 0 (fun _ => False) := by
  refine Met.ofW (cc := cX7_rootOf) (maxL := 7) (ret := (some .long)) (by decide) rfl ?_
  intro p e s m args below meth c s₁ B hml hv
  obtain ⟨rfl, hP, hK, hN⟩ := hv
  have hl := lv_entry ([.long x0]) (n := 7) (Nat.le_of_ble_eq_true rfl)
  rw [lg_entry_eq]
  generalize (lg_sl ([.long x0]) ++ List.replicate (7 - (lg_sl ([.long x0])).length) Slot.unset).toArray = ls at hl ⊢
  exact b_X7_rootOf x0 o hF ⟨B.exec, B.bytes, hml, findClass_of_methodNamed B.named, atoms_spec (ws := wsX7_rootOf) B.pre⟩ hN hK hP (fun ls pc hd => W.lret B.exec B.bytes B.returns (fun t ht hW => ⟨_, rfl, rfl, ht⟩) (fun q h => by cases h) hd B.notSynchronized) hl
abbrev wd_X7_halfDown : va_W := []
abbrev rm_X7_halfDown : Room := { frames := 0, cells := 0, slots := 0, locals := 0 }
def F_X7_halfDown (x0 : Int64) : Int64 := (if 0 ≤ (lg_cmp x0 (0 : Int64)) then (x0 / (2 : Int64)) else (if (lg_cmp (x0 - x0 / (2 : Int64) * (2 : Int64)) (0 : Int64)) = 0 then (x0 / (2 : Int64)) else ((x0 / (2 : Int64)) - (1 : Int64))))
set_option maxRecDepth 100000 in
set_option maxHeartbeats 4000000 in
theorem b_X7_halfDown {p : Program} {l : Launch} {e : Env} {s : State} {m : MethodId} {args : Array Value} {below : List Frame} {meth : Method} {c : Code} {Q : State → Prop} {dC : Nat → ClassId} {dI : Nat → Nat → Nat} {H : Heap} {locs : List Loc} {ls : Array Slot} (x0 : Int64) (ou0 : Int64) (hF : F_X7_halfDown x0 = ou0) (hC : CallFix p m c cX7_halfDown 2 s args wsX7_halfDown RX7) (hN : NW s) (hK : va_K (dC, dI) vwCl [] s) (hP : va_P (dC, dI) vwCl wd_X7_halfDown H) (hE : ∀ (ls : Array Slot) (pc : Nat), decode cX7_halfDown pc = .ok (.lreturn, 1) → W p l e rm_X7_halfDown s m args below meth c H locs 0 0 Q (F0 m pc ls [.long ou0])) (hl : lv_has ls 2 [(0, .long x0)]) : W p l e rm_X7_halfDown s m args below meth c H locs 0 0 Q (F0 m 0 ls []) := by
  obtain ⟨hx, hb, hml, hown, hts⟩ := id hC
  unfold F_X7_halfDown at hF
  refine lv_lload_n hx hb dX7_halfDown_0 rfl (lv_at hl 0 rfl) ?_
  refine lv_lconst (v := (0 : Int64)) hx hb dX7_halfDown_1 (by decide) ?_
  refine W.lcmp hx hb dX7_halfDown_2 ?_
  refine lv_if_ge (tgt := 26) hx hb dX7_halfDown_3 (by decide) (fun g_1 => ?_) (fun g_1 => ?_)
  · replace hF := ite_t g_1 hF
    refine lv_lload_n hx hb dX7_halfDown_26 rfl (lv_at hl 0 rfl) ?_
    refine lv_ldc2 (v := (2 : Int64)) hx hb hown (hts (.constantLong RX7 48 (2)) (List.mem_of_getElem? (i := 1) rfl)) dX7_halfDown_27 ?_
    refine lv_ldiv hx hb dX7_halfDown_30 (by decide) ?_
    obtain rfl := hF; exact hE _ _ dX7_halfDown_31
  · replace hF := ite_f g_1 hF
    refine lv_lload_n hx hb dX7_halfDown_6 rfl (lv_at hl 0 rfl) ?_
    refine lv_ldc2 (v := (2 : Int64)) hx hb hown (hts (.constantLong RX7 48 (2)) (List.mem_of_getElem? (i := 1) rfl)) dX7_halfDown_7 ?_
    refine lv_lrem hx hb dX7_halfDown_10 (by decide) ?_
    refine lv_lconst (v := (0 : Int64)) hx hb dX7_halfDown_11 (by decide) ?_
    refine W.lcmp hx hb dX7_halfDown_12 ?_
    refine lv_if_eq (tgt := 26) hx hb dX7_halfDown_13 (by decide) (fun g_2 => ?_) (fun g_2 => ?_)
    · replace hF := ite_t g_2 hF
      refine lv_lload_n hx hb dX7_halfDown_26 rfl (lv_at hl 0 rfl) ?_
      refine lv_ldc2 (v := (2 : Int64)) hx hb hown (hts (.constantLong RX7 48 (2)) (List.mem_of_getElem? (i := 1) rfl)) dX7_halfDown_27 ?_
      refine lv_ldiv hx hb dX7_halfDown_30 (by decide) ?_
      obtain rfl := hF; exact hE _ _ dX7_halfDown_31
    · replace hF := ite_f g_2 hF
      refine lv_lload_n hx hb dX7_halfDown_16 rfl (lv_at hl 0 rfl) ?_
      refine lv_ldc2 (v := (2 : Int64)) hx hb hown (hts (.constantLong RX7 48 (2)) (List.mem_of_getElem? (i := 1) rfl)) dX7_halfDown_17 ?_
      refine lv_ldiv hx hb dX7_halfDown_20 (by decide) ?_
      refine lv_lconst (v := (1 : Int64)) hx hb dX7_halfDown_21 (by decide) ?_
      refine lv_lsub hx hb dX7_halfDown_22 ?_
      refine lv_goto (tgt := 31) hx hb dX7_halfDown_23 (by decide) ?_
      obtain rfl := hF; exact hE _ _ dX7_halfDown_31
set_option maxRecDepth 100000 in
set_option maxHeartbeats 4000000 in
theorem c_X7_halfDown (l : Launch) (dC : Nat → ClassId) (dI : Nat → Nat → Nat) (x0 : Int64) (o : Int64) (hF : F_X7_halfDown x0 = o) : Met l yX7_halfDown wsX7_halfDown rm_X7_halfDown (va_Pc [.long x0] (PcR dC dI wd_X7_halfDown [])) (vp_Sl (fun r => r = o)) 0 0 (fun _ => False) := by
  refine Met.ofW (cc := cX7_halfDown) (maxL := 2) (ret := (some .long)) (by decide) rfl ?_
  intro p e s m args below meth c s₁ B hml hv
  obtain ⟨rfl, hP, hK, hN⟩ := hv
  have hl := lv_entry ([.long x0]) (n := 2) (Nat.le_of_ble_eq_true rfl)
  rw [lg_entry_eq]
  generalize (lg_sl ([.long x0]) ++ List.replicate (2 - (lg_sl ([.long x0])).length) Slot.unset).toArray = ls at hl ⊢
  exact b_X7_halfDown x0 o hF ⟨B.exec, B.bytes, hml, findClass_of_methodNamed B.named, atoms_spec (ws := wsX7_halfDown) B.pre⟩ hN hK hP (fun ls pc hd => W.lret B.exec B.bytes B.returns (fun t ht hW => ⟨_, rfl, rfl, ht⟩) (fun q h => by cases h) hd B.notSynchronized) hl
theorem inn_X7_wholeOf_X7 : ∀ w ∈ wsX70, w ∈ wsX7_wholeOf := fun _ h => List.mem_cons_of_mem _ (List.mem_append_right _ h)
abbrev wd_X7_wholeOf (h0 h_w h_word h_ahead h_behind h_restM h_restN h_powerM h_powerN h_row : Nat) (c_w : ClassId) (v_known : Int32) (v_kept : Int32) (v_size : Int32) (v_high : Int32) (v_behindMany : Int32) (v_ends : Int32) (v_lead : Int32) (v_round : Int32) (v_worthM : Int64) (v_worthN : Int64) (v_w : (Nat → Int32)) : va_W := [(h0, .inr (7, [.ref h_w, .int v_known, .int v_kept, .ref h_word, .int v_size, .ref h_ahead, .int v_high, .ref h_behind, .int v_behindMany, .ref h_restM, .ref h_restN, .ref h_powerM, .ref h_powerN, .int v_ends, .int v_lead, .int v_round, .ref h_row, .long v_worthM, .long v_worthN])), (h_w, .inl (c_w, 110, .inl v_w))]
abbrev rm_X7_wholeOf : Room := { frames := 1, cells := 0, slots := 0, locals := 26 }
def F_X7_wholeOf_29 (x1 : Int64) (x3 : Int64) (v_w : (Nat → Int32)) (s0 : Int64) : Option (Int64) := (some (F_X7_halfDown ((((2 : Int64) * x1) + (x3 * (v_w (0 : Int32).toNatClampNeg).toInt64)) + s0)))
def F_X7_wholeOf (x1 : Int64) (x3 : Int64) (v_w : (Nat → Int32)) : Option (Int64) := ((F_X7_rootOf ((x3 * x3) * (F_X7_inside v_w))).bind fun o_1 => (if (lg_cmp x3 (0 : Int64)) < 0 then (F_X7_wholeOf_29  x1 x3 v_w ((-o_1) - (1 : Int64))) else (F_X7_wholeOf_29  x1 x3 v_w o_1)))
set_option maxRecDepth 100000 in
set_option maxHeartbeats 4000000 in
theorem b_X7_wholeOf {p : Program} {l : Launch} {e : Env} {s : State} {m : MethodId} {args : Array Value} {below : List Frame} {meth : Method} {c : Code} {Q : State → Prop} {dC : Nat → ClassId} {dI : Nat → Nat → Nat} {H : Heap} {locs : List Loc} {ls : Array Slot} (h0 h_w h_word h_ahead h_behind h_restM h_restN h_powerM h_powerN h_row : Nat) (c_w : ClassId) (v_known : Int32) (v_kept : Int32) (v_size : Int32) (v_high : Int32) (v_behindMany : Int32) (v_ends : Int32) (v_lead : Int32) (v_round : Int32) (v_worthM : Int64) (v_worthN : Int64) (v_w : (Nat → Int32)) (x1 : Int64) (x3 : Int64) (ou0 : Int64) (hF : F_X7_wholeOf x1 x3 v_w = some ou0) (hC : CallFix p m c cX7_wholeOf 9 s args wsX7_wholeOf RX7) (hN : NW s) (hK : va_K (dC, dI) vwCl [(c_w, .int)] s) (hP : va_P (dC, dI) vwCl (wd_X7_wholeOf h0 h_w h_word h_ahead h_behind h_restM h_restN h_powerM h_powerN h_row c_w v_known v_kept v_size v_high v_behindMany v_ends v_lead v_round v_worthM v_worthN v_w) H) (hE : ∀ (ls : Array Slot) (pc : Nat), decode cX7_wholeOf pc = .ok (.lreturn, 1) → W p l e rm_X7_wholeOf s m args below meth c H locs 0 0 Q (F0 m pc ls [.long ou0])) (hl : lv_has ls 9 [(0, .ref h0), (1, .long x1), (3, .long x3)]) : W p l e rm_X7_wholeOf s m args below meth c H locs 0 0 Q (F0 m 0 ls []) := by
  obtain ⟨hx, hb, hml, hown, hts⟩ := id hC
  unfold F_X7_wholeOf at hF
  have k_29 : ∀ (s0 : Int64), F_X7_wholeOf_29  x1 x3 v_w s0 = some ou0 → ∀ ls : Array Slot, lv_has ls 9 [(0, .ref h0), (1, .long x1), (3, .long x3)] → W p l e rm_X7_wholeOf s m args below meth c H locs 0 0 Q (F0 m 29 ls [.long s0]) := by
    intro s0 hF ls hl
    rw [F_X7_wholeOf_29] at hF
    refine lv_lstore (lv' := [(7, .long s0), (0, .ref h0), (1, .long x1), (3, .long x3)]) hx hb dX7_wholeOf_29 hl (by decide) rfl (fun ls hl => ?_)
    refine lv_ldc2 (v := (2 : Int64)) hx hb hown (hts (.constantLong RX7 48 (2)) (List.mem_of_getElem? (i := 1) rfl)) dX7_wholeOf_31 ?_
    refine lv_lload_n hx hb dX7_wholeOf_34 rfl (lv_at hl 2 rfl) ?_
    refine lv_lmul hx hb dX7_wholeOf_35 ?_
    refine lv_lload_n hx hb dX7_wholeOf_36 rfl (lv_at hl 3 rfl) ?_
    refine lv_aload_n hx hb dX7_wholeOf_37 rfl (lv_at hl 1 rfl) ?_
    refine va_get (D := (dC, dI)) (ci := 7) (v := .ref h_w) (C := RX7) (T := TX7) (N := 19) hx hb hts inn_X7_wholeOf_X7 hown hK hP 0 rfl rfl 0 (by decide) (hts (.fieldLink RX7 7 "RingBasesModel" "w" "[I") (List.mem_of_getElem? (i := 2) rfl)) (fun _ h9 => h9) rfl dX7_wholeOf_38 ?_
    refine lv_iconst (v := (0 : Int32)) hx hb dX7_wholeOf_41 (by decide) ?_
    refine va_iald hx hb hK hP 1 0 rfl rfl (by unfold vp_in; decide) dX7_wholeOf_42 ?_
    refine lv_i2l hx hb dX7_wholeOf_43 rfl ?_
    refine lv_lmul hx hb dX7_wholeOf_44 ?_
    refine lv_ladd hx hb dX7_wholeOf_45 ?_
    refine lv_lload hx hb dX7_wholeOf_46 (lv_at hl 0 rfl) ?_
    refine lv_ladd hx hb dX7_wholeOf_48 ?_
    refine rdSl (As := [.long ((((2 : Int64) * x1) + (x3 * (v_w (0 : Int32).toNatClampNeg).toInt64)) + s0)]) (rest := []) hC (c_X7_halfDown l dC dI  ((((2 : Int64) * x1) + (x3 * (v_w (0 : Int32).toNatClampNeg).toInt64)) + s0) (F_X7_halfDown ((((2 : Int64) * x1) + (x3 * (v_w (0 : Int32).toNatClampNeg).toInt64)) + s0)) rfl) (va_cwS 1 hts gX7_wholeOf_X7_halfDown rfl rfl rfl (by decide +kernel) ⟨Nat.le_of_ble_eq_true rfl, Nat.le_of_ble_eq_true rfl⟩) hN (hK.sub (tys' := []) [] rfl) (hP.sub (ws' := wd_X7_halfDown) [] rfl) rfl rfl hl.1 (Nat.le_of_ble_eq_true rfl) dX7_wholeOf_49 ⟨Nat.zero_le _, Nat.zero_le _⟩ ?_
    obtain rfl := Option.some.inj hF; exact hE _ _ dX7_wholeOf_52
  refine lv_lload_n hx hb dX7_wholeOf_0 rfl (lv_at hl 2 rfl) ?_
  refine lv_lload_n hx hb dX7_wholeOf_1 rfl (lv_at hl 2 rfl) ?_
  refine lv_lmul hx hb dX7_wholeOf_2 ?_
  refine lv_aload_n hx hb dX7_wholeOf_3 rfl (lv_at hl 0 rfl) ?_
  refine rdVl (As := []) (rest := [.long (x3 * x3)]) (b := h0) hC (c_X7_inside l dC dI h0 h_w h_word h_ahead h_behind h_restM h_restN h_powerM h_powerN h_row c_w v_known v_kept v_size v_high v_behindMany v_ends v_lead v_round v_worthM v_worthN v_w  (F_X7_inside v_w) rfl) (cwV 0 hts gX7_wholeOf_X7_inside rfl rfl rfl (by decide +kernel) ⟨Nat.le_of_ble_eq_true rfl, Nat.le_of_ble_eq_true rfl⟩) hN (hK.sub (tys' := [(c_w, .int)]) [0] rfl) (hP.sub (ws' := (wd_X7_inside h0 h_w h_word h_ahead h_behind h_restM h_restN h_powerM h_powerN h_row c_w v_known v_kept v_size v_high v_behindMany v_ends v_lead v_round v_worthM v_worthN v_w)) [0, 1] rfl) 0 7 rfl rfl rfl rfl hl.1 (Nat.le_of_ble_eq_true rfl) dX7_wholeOf_4 ⟨Nat.zero_le _, Nat.zero_le _⟩ ?_
  refine lv_lmul hx hb dX7_wholeOf_7 ?_
  obtain ⟨o_1, hc_o_1, hF⟩ := bd_s hF
  refine rdSl (As := [.long ((x3 * x3) * (F_X7_inside v_w))]) (rest := []) hC (c_X7_rootOf l dC dI  ((x3 * x3) * (F_X7_inside v_w)) o_1 hc_o_1) (va_cwS 1 hts gX7_wholeOf_X7_rootOf rfl rfl rfl (by decide +kernel) ⟨Nat.le_of_ble_eq_true rfl, Nat.le_of_ble_eq_true rfl⟩) hN (hK.sub (tys' := []) [] rfl) (hP.sub (ws' := wd_X7_rootOf) [] rfl) rfl rfl hl.1 (Nat.le_of_ble_eq_true rfl) dX7_wholeOf_8 ⟨Nat.zero_le _, Nat.zero_le _⟩ ?_
  refine lv_lstore (lv' := [(5, .long o_1), (0, .ref h0), (1, .long x1), (3, .long x3)]) hx hb dX7_wholeOf_11 hl (by decide) rfl (fun ls hl => ?_)
  refine lv_lload_n hx hb dX7_wholeOf_13 rfl (lv_at hl 3 rfl) ?_
  refine lv_lconst (v := (0 : Int64)) hx hb dX7_wholeOf_14 (by decide) ?_
  refine W.lcmp hx hb dX7_wholeOf_15 ?_
  refine lv_if_lt (tgt := 24) hx hb dX7_wholeOf_16 (by decide) (fun g_2 => ?_) (fun g_2 => ?_)
  · replace hF := ite_t g_2 hF
    refine lv_lload hx hb dX7_wholeOf_24 (lv_at hl 0 rfl) ?_
    refine lv_lneg hx hb dX7_wholeOf_26 ?_
    refine lv_lconst (v := (1 : Int64)) hx hb dX7_wholeOf_27 (by decide) ?_
    refine lv_lsub hx hb dX7_wholeOf_28 ?_
    exact k_29 ((-o_1) - (1 : Int64)) hF ls (lv_sub hl [1, 2, 3] rfl)
  · replace hF := ite_f g_2 hF
    refine lv_lload hx hb dX7_wholeOf_19 (lv_at hl 0 rfl) ?_
    refine lv_goto (tgt := 29) hx hb dX7_wholeOf_21 (by decide) ?_
    exact k_29 o_1 hF ls (lv_sub hl [1, 2, 3] rfl)
set_option maxRecDepth 100000 in
set_option maxHeartbeats 4000000 in
theorem c_X7_wholeOf (l : Launch) (dC : Nat → ClassId) (dI : Nat → Nat → Nat) (h0 h_w h_word h_ahead h_behind h_restM h_restN h_powerM h_powerN h_row : Nat) (c_w : ClassId) (v_known : Int32) (v_kept : Int32) (v_size : Int32) (v_high : Int32) (v_behindMany : Int32) (v_ends : Int32) (v_lead : Int32) (v_round : Int32) (v_worthM : Int64) (v_worthN : Int64) (v_w : (Nat → Int32)) (x1 : Int64) (x3 : Int64) (o : Int64) (hF : F_X7_wholeOf x1 x3 v_w = some o) : Met l yX7_wholeOf wsX7_wholeOf rm_X7_wholeOf (va_Pc [.ref h0, .long x1, .long x3] (PcR dC dI (wd_X7_wholeOf h0 h_w h_word h_ahead h_behind h_restM h_restN h_powerM h_powerN h_row c_w v_known v_kept v_size v_high v_behindMany v_ends v_lead v_round v_worthM v_worthN v_w) [(c_w, .int)])) (vp_Sl (fun r => r = o)) 0 0 (fun _ => False) := by
  refine Met.ofW (cc := cX7_wholeOf) (maxL := 9) (ret := (some .long)) (by decide) rfl ?_
  intro p e s m args below meth c s₁ B hml hv
  obtain ⟨rfl, hP, hK, hN⟩ := hv
  have hl := lv_entry ([.ref h0, .long x1, .long x3]) (n := 9) (Nat.le_of_ble_eq_true rfl)
  rw [lg_entry_eq]
  generalize (lg_sl ([.ref h0, .long x1, .long x3]) ++ List.replicate (9 - (lg_sl ([.ref h0, .long x1, .long x3])).length) Slot.unset).toArray = ls at hl ⊢
  exact b_X7_wholeOf h0 h_w h_word h_ahead h_behind h_restM h_restN h_powerM h_powerN h_row c_w v_known v_kept v_size v_high v_behindMany v_ends v_lead v_round v_worthM v_worthN v_w x1 x3 o hF ⟨B.exec, B.bytes, hml, findClass_of_methodNamed B.named, atoms_spec (ws := wsX7_wholeOf) B.pre⟩ hN hK hP (fun ls pc hd => W.lret B.exec B.bytes B.returns (fun t ht hW => ⟨_, rfl, rfl, ht⟩) (fun q h => by cases h) hd B.notSynchronized) hl
theorem inn_X7_top_X7 : ∀ w ∈ wsX70, w ∈ wsX7_top := fun _ h => List.mem_cons_of_mem _ (List.mem_append_right _ h)
abbrev wd_X7_top (h0 h_w h_word h_ahead h_behind h_restM h_restN h_powerM h_powerN h_row : Nat) (c_w : ClassId) (v_known : Int32) (v_kept : Int32) (v_size : Int32) (v_high : Int32) (v_behindMany : Int32) (v_ends : Int32) (v_lead : Int32) (v_round : Int32) (v_worthM : Int64) (v_worthN : Int64) (v_w : (Nat → Int32)) : va_W := [(h0, .inr (7, [.ref h_w, .int v_known, .int v_kept, .ref h_word, .int v_size, .ref h_ahead, .int v_high, .ref h_behind, .int v_behindMany, .ref h_restM, .ref h_restN, .ref h_powerM, .ref h_powerN, .int v_ends, .int v_lead, .int v_round, .ref h_row, .long v_worthM, .long v_worthN])), (h_w, .inl (c_w, 110, .inl v_w))]
abbrev rm_X7_top : Room := { frames := 0, cells := 0, slots := 0, locals := 0 }
def F_X7_top (v_w : (Nat → Int32)) : Int32 := (if (v_w (1 : Int32).toNatClampNeg) ≤ 0 then ((v_w (0 : Int32).toNatClampNeg) - (1 : Int32)) else (v_w (0 : Int32).toNatClampNeg))
set_option maxRecDepth 100000 in
set_option maxHeartbeats 4000000 in
theorem b_X7_top {p : Program} {l : Launch} {e : Env} {s : State} {m : MethodId} {args : Array Value} {below : List Frame} {meth : Method} {c : Code} {Q : State → Prop} {dC : Nat → ClassId} {dI : Nat → Nat → Nat} {H : Heap} {locs : List Loc} {ls : Array Slot} (h0 h_w h_word h_ahead h_behind h_restM h_restN h_powerM h_powerN h_row : Nat) (c_w : ClassId) (v_known : Int32) (v_kept : Int32) (v_size : Int32) (v_high : Int32) (v_behindMany : Int32) (v_ends : Int32) (v_lead : Int32) (v_round : Int32) (v_worthM : Int64) (v_worthN : Int64) (v_w : (Nat → Int32)) (ou0 : Int32) (hF : F_X7_top v_w = ou0) (hC : CallFix p m c cX7_top 1 s args wsX7_top RX7) (hN : NW s) (hK : va_K (dC, dI) vwCl [(c_w, .int)] s) (hP : va_P (dC, dI) vwCl (wd_X7_top h0 h_w h_word h_ahead h_behind h_restM h_restN h_powerM h_powerN h_row c_w v_known v_kept v_size v_high v_behindMany v_ends v_lead v_round v_worthM v_worthN v_w) H) (hE : ∀ (ls : Array Slot) (pc : Nat), decode cX7_top pc = .ok (.ireturn, 1) → W p l e rm_X7_top s m args below meth c H locs 0 0 Q (F0 m pc ls [.int ou0])) (hl : lv_has ls 1 [(0, .ref h0)]) : W p l e rm_X7_top s m args below meth c H locs 0 0 Q (F0 m 0 ls []) := by
  obtain ⟨hx, hb, hml, hown, hts⟩ := id hC
  unfold F_X7_top at hF
  refine lv_aload_n hx hb dX7_top_0 rfl (lv_at hl 0 rfl) ?_
  refine va_get (D := (dC, dI)) (ci := 7) (v := .ref h_w) (C := RX7) (T := TX7) (N := 19) hx hb hts inn_X7_top_X7 hown hK hP 0 rfl rfl 0 (by decide) (hts (.fieldLink RX7 7 "RingBasesModel" "w" "[I") (List.mem_of_getElem? (i := 1) rfl)) (fun _ h9 => h9) rfl dX7_top_1 ?_
  refine lv_iconst (v := (1 : Int32)) hx hb dX7_top_4 (by decide) ?_
  refine va_iald hx hb hK hP 1 0 rfl rfl (by unfold vp_in; decide) dX7_top_5 ?_
  refine lv_if_le (tgt := 18) hx hb dX7_top_6 (by decide) (fun g_1 => ?_) (fun g_1 => ?_)
  · replace hF := ite_t g_1 hF
    refine lv_aload_n hx hb dX7_top_18 rfl (lv_at hl 0 rfl) ?_
    refine va_get (D := (dC, dI)) (ci := 7) (v := .ref h_w) (C := RX7) (T := TX7) (N := 19) hx hb hts inn_X7_top_X7 hown hK hP 0 rfl rfl 0 (by decide) (hts (.fieldLink RX7 7 "RingBasesModel" "w" "[I") (List.mem_of_getElem? (i := 1) rfl)) (fun _ h9 => h9) rfl dX7_top_19 ?_
    refine lv_iconst (v := (0 : Int32)) hx hb dX7_top_22 (by decide) ?_
    refine va_iald hx hb hK hP 1 0 rfl rfl (by unfold vp_in; decide) dX7_top_23 ?_
    refine lv_iconst (v := (1 : Int32)) hx hb dX7_top_24 (by decide) ?_
    refine lv_isub hx hb dX7_top_25 ?_
    obtain rfl := hF; exact hE _ _ dX7_top_26
  · replace hF := ite_f g_1 hF
    refine lv_aload_n hx hb dX7_top_9 rfl (lv_at hl 0 rfl) ?_
    refine va_get (D := (dC, dI)) (ci := 7) (v := .ref h_w) (C := RX7) (T := TX7) (N := 19) hx hb hts inn_X7_top_X7 hown hK hP 0 rfl rfl 0 (by decide) (hts (.fieldLink RX7 7 "RingBasesModel" "w" "[I") (List.mem_of_getElem? (i := 1) rfl)) (fun _ h9 => h9) rfl dX7_top_10 ?_
    refine lv_iconst (v := (0 : Int32)) hx hb dX7_top_13 (by decide) ?_
    refine va_iald hx hb hK hP 1 0 rfl rfl (by unfold vp_in; decide) dX7_top_14 ?_
    refine lv_goto (tgt := 26) hx hb dX7_top_15 (by decide) ?_
    obtain rfl := hF; exact hE _ _ dX7_top_26
set_option maxRecDepth 100000 in
set_option maxHeartbeats 4000000 in
theorem c_X7_top (l : Launch) (dC : Nat → ClassId) (dI : Nat → Nat → Nat) (h0 h_w h_word h_ahead h_behind h_restM h_restN h_powerM h_powerN h_row : Nat) (c_w : ClassId) (v_known : Int32) (v_kept : Int32) (v_size : Int32) (v_high : Int32) (v_behindMany : Int32) (v_ends : Int32) (v_lead : Int32) (v_round : Int32) (v_worthM : Int64) (v_worthN : Int64) (v_w : (Nat → Int32)) (o : Int32) (hF : F_X7_top v_w = o) : Met l yX7_top wsX7_top rm_X7_top (va_Pc [.ref h0] (PcR dC dI (wd_X7_top h0 h_w h_word h_ahead h_behind h_restM h_restN h_powerM h_powerN h_row c_w v_known v_kept v_size v_high v_behindMany v_ends v_lead v_round v_worthM v_worthN v_w) [(c_w, .int)])) (vp_Si (fun r => r = o)) 0 0 (fun _ => False) := by
  refine Met.ofW (cc := cX7_top) (maxL := 1) (ret := (some .int)) (by decide) rfl ?_
  intro p e s m args below meth c s₁ B hml hv
  obtain ⟨rfl, hP, hK, hN⟩ := hv
  have hl := lv_entry ([.ref h0]) (n := 1) (Nat.le_of_ble_eq_true rfl)
  rw [lg_entry_eq]
  generalize (lg_sl ([.ref h0]) ++ List.replicate (1 - (lg_sl ([.ref h0])).length) Slot.unset).toArray = ls at hl ⊢
  exact b_X7_top h0 h_w h_word h_ahead h_behind h_restM h_restN h_powerM h_powerN h_row c_w v_known v_kept v_size v_high v_behindMany v_ends v_lead v_round v_worthM v_worthN v_w o hF ⟨B.exec, B.bytes, hml, findClass_of_methodNamed B.named, atoms_spec (ws := wsX7_top) B.pre⟩ hN hK hP (fun ls pc hd => W.iret B.exec B.bytes B.returns (fun t ht hW => ⟨_, rfl, rfl, ht⟩) (fun q h => by cases h) hd B.notSynchronized) hl
theorem inn_X7_layPowers_X7 : ∀ w ∈ wsX70, w ∈ wsX7_layPowers := fun _ h => List.mem_cons_of_mem _ (List.mem_append_right _ h)
abbrev wd_X7_layPowers (h0 h_w h_word h_ahead h_behind h_restM h_restN h_powerM h_powerN h_row : Nat) (c_w c_powerM c_powerN : ClassId) (v_known : Int32) (v_kept : Int32) (v_size : Int32) (v_high : Int32) (v_behindMany : Int32) (v_ends : Int32) (v_lead : Int32) (v_round : Int32) (v_worthM : Int64) (v_worthN : Int64) (v_w : (Nat → Int32)) (v_powerM : (Nat → Int64)) (v_powerN : (Nat → Int64)) : va_W := [(h0, .inr (7, [.ref h_w, .int v_known, .int v_kept, .ref h_word, .int v_size, .ref h_ahead, .int v_high, .ref h_behind, .int v_behindMany, .ref h_restM, .ref h_restN, .ref h_powerM, .ref h_powerN, .int v_ends, .int v_lead, .int v_round, .ref h_row, .long v_worthM, .long v_worthN])), (h_w, .inl (c_w, 110, .inl v_w)), (h_powerM, .inl (c_powerM, 64, .inr (.inl v_powerM))), (h_powerN, .inl (c_powerN, 64, .inr (.inl v_powerN)))]
abbrev rm_X7_layPowers : Room := { frames := 2, cells := 0, slots := 0, locals := 48 }
def F_X7_layPowers_22 (x1 : Int64) (x3 : Int64) (v_w : (Nat → Int32)) : Nat → Int32 → Int32 → (Nat → Int64) → (Nat → Int64) → Option (Int32 × (Nat → Int64) × (Nat → Int64))
  | 0, _, _, _, _ => none
  | fu + 1, x5, v_high, v_powerM, v_powerN => (if x5 < 0 then (some (v_high, v_powerM, v_powerN)) else (if (60 : Int32) ≤ v_high then (some (v_high, v_powerM, v_powerN)) else (ck (v_high + (1 : Int32)) 64 (ck ((v_high + (1 : Int32)) + (1 : Int32)) 64 (F_X7_layPowers_22 x1 x3 v_w fu (F_X7_signOf (x1 - ((vp_updL v_powerM ((v_high + (1 : Int32)) + (1 : Int32)).toNatClampNeg ((v_powerN (v_high + (1 : Int32)).toNatClampNeg) * (v_w (1 : Int32).toNatClampNeg).toInt64)) ((v_high + (1 : Int32)) + (1 : Int32)).toNatClampNeg)) (x3 - ((vp_updL v_powerN ((v_high + (1 : Int32)) + (1 : Int32)).toNatClampNeg (((vp_updL v_powerM ((v_high + (1 : Int32)) + (1 : Int32)).toNatClampNeg ((v_powerN (v_high + (1 : Int32)).toNatClampNeg) * (v_w (1 : Int32).toNatClampNeg).toInt64)) (v_high + (1 : Int32)).toNatClampNeg) + ((v_powerN (v_high + (1 : Int32)).toNatClampNeg) * (v_w (0 : Int32).toNatClampNeg).toInt64))) ((v_high + (1 : Int32)) + (1 : Int32)).toNatClampNeg)) v_w) (v_high + (1 : Int32)) (vp_updL v_powerM ((v_high + (1 : Int32)) + (1 : Int32)).toNatClampNeg ((v_powerN (v_high + (1 : Int32)).toNatClampNeg) * (v_w (1 : Int32).toNatClampNeg).toInt64)) (vp_updL v_powerN ((v_high + (1 : Int32)) + (1 : Int32)).toNatClampNeg (((vp_updL v_powerM ((v_high + (1 : Int32)) + (1 : Int32)).toNatClampNeg ((v_powerN (v_high + (1 : Int32)).toNatClampNeg) * (v_w (1 : Int32).toNatClampNeg).toInt64)) (v_high + (1 : Int32)).toNatClampNeg) + ((v_powerN (v_high + (1 : Int32)).toNatClampNeg) * (v_w (0 : Int32).toNatClampNeg).toInt64))))))))
def F_X7_layPowers (x1 : Int64) (x3 : Int64) (v_w : (Nat → Int32)) (v_powerM : (Nat → Int64)) (v_powerN : (Nat → Int64)) : Option (Int32 × (Nat → Int64) × (Nat → Int64)) := (F_X7_layPowers_22  x1 x3 v_w 128 (0 : Int32) (-1 : Int32) (vp_updL v_powerM (0 : Int32).toNatClampNeg (1 : Int64)) (vp_updL v_powerN (0 : Int32).toNatClampNeg (0 : Int64)))
set_option maxRecDepth 100000 in
set_option maxHeartbeats 4000000 in
theorem b_X7_layPowers {p : Program} {l : Launch} {e : Env} {s : State} {m : MethodId} {args : Array Value} {below : List Frame} {meth : Method} {c : Code} {Q : State → Prop} {dC : Nat → ClassId} {dI : Nat → Nat → Nat} {H : Heap} {locs : List Loc} {ls : Array Slot} {A : Nat → Prop} (h0 h_w h_word h_ahead h_behind h_restM h_restN h_powerM h_powerN h_row : Nat) (c_w c_powerM c_powerN : ClassId) (v_known : Int32) (v_kept : Int32) (v_size : Int32) (v_high : Int32) (v_behindMany : Int32) (v_ends : Int32) (v_lead : Int32) (v_round : Int32) (v_worthM : Int64) (v_worthN : Int64) (v_w : (Nat → Int32)) (v_powerM : (Nat → Int64)) (v_powerN : (Nat → Int64)) (x1 : Int64) (x3 : Int64) (ou0 : Int32) (ou1 : (Nat → Int64)) (ou2 : (Nat → Int64)) (hF : F_X7_layPowers x1 x3 v_w v_powerM v_powerN = some (ou0, ou1, ou2)) (hC : CallFix p m c cX7_layPowers 6 s args wsX7_layPowers RX7) (hN : NW s) (hK : va_K (dC, dI) vwCl [(c_w, .int), (c_powerM, .long), (c_powerN, .long)] s) (hP : va_P (dC, dI) vwCl (wd_X7_layPowers h0 h_w h_word h_ahead h_behind h_restM h_restN h_powerM h_powerN h_row c_w c_powerM c_powerN v_known v_kept v_size v_high v_behindMany v_ends v_lead v_round v_worthM v_worthN v_w v_powerM v_powerN) H) (hA : ∀ q, s.heap.size ≤ q → A q) (hD : va_D A (wd_X7_layPowers h0 h_w h_word h_ahead h_behind h_restM h_restN h_powerM h_powerN h_row c_w c_powerM c_powerN v_known v_kept v_size v_high v_behindMany v_ends v_lead v_round v_worthM v_worthN v_w v_powerM v_powerN)) (hS : va_S A s.heap H locs) (hE : ∀ (H : Heap) (locs : List Loc) (ls : Array Slot) (pc : Nat), va_P (dC, dI) vwCl (wd_X7_layPowers h0 h_w h_word h_ahead h_behind h_restM h_restN h_powerM h_powerN h_row c_w c_powerM c_powerN v_known v_kept v_size ou0 v_behindMany v_ends v_lead v_round v_worthM v_worthN v_w ou1 ou2) H → va_S A s.heap H locs → decode cX7_layPowers pc = .ok (.return_, 1) → W p l e rm_X7_layPowers s m args below meth c H locs 0 0 Q (F0 m pc ls [])) (hl : lv_has ls 6 [(0, .ref h0), (1, .long x1), (3, .long x3)]) : W p l e rm_X7_layPowers s m args below meth c H locs 0 0 Q (F0 m 0 ls []) := by
  obtain ⟨hx, hb, hml, hown, hts⟩ := id hC
  have hD0 := hD
  unfold F_X7_layPowers at hF
  have k_22 : ∀ (fu_22 : Nat) (x5 : Int32) (v_high : Int32) (v_powerM : (Nat → Int64)) (v_powerN : (Nat → Int64)), F_X7_layPowers_22  x1 x3 v_w fu_22 x5 v_high v_powerM v_powerN = some (ou0, ou1, ou2) → ∀ (H : Heap) (locs : List Loc), va_P (dC, dI) vwCl (wd_X7_layPowers h0 h_w h_word h_ahead h_behind h_restM h_restN h_powerM h_powerN h_row c_w c_powerM c_powerN v_known v_kept v_size v_high v_behindMany v_ends v_lead v_round v_worthM v_worthN v_w v_powerM v_powerN) H → va_S A s.heap H locs → ∀ ls : Array Slot, lv_has ls 6 [(0, .ref h0), (1, .long x1), (3, .long x3), (5, .int x5)] → W p l e rm_X7_layPowers s m args below meth c H locs 0 0 Q (F0 m 22 ls []) := by
    intro fu_22
    induction fu_22 with
    | zero => intro x5 v_high v_powerM v_powerN hF; rw [F_X7_layPowers_22] at hF; cases hF
    | succ fu_22 ih =>
      intro x5 v_high v_powerM v_powerN hF H locs hP hS ls hl
      rw [F_X7_layPowers_22] at hF
      have ih_22 := ih
      have hD : va_D A (wd_X7_layPowers h0 h_w h_word h_ahead h_behind h_restM h_restN h_powerM h_powerN h_row c_w c_powerM c_powerN v_known v_kept v_size v_high v_behindMany v_ends v_lead v_round v_worthM v_worthN v_w v_powerM v_powerN) := hD0.re rfl
      refine lv_iload hx hb dX7_layPowers_22 (lv_at hl 3 rfl) ?_
      refine lv_if_lt (tgt := 147) hx hb dX7_layPowers_24 (by decide) (fun g_1 => ?_) (fun g_1 => ?_)
      · replace hF := ite_t g_1 hF
        obtain ⟨rfl, rfl, rfl⟩ := oks3 hF; exact hE _ _ _ _ hP hS dX7_layPowers_147
      · replace hF := ite_f g_1 hF
        refine lv_aload_n hx hb dX7_layPowers_27 rfl (lv_at hl 0 rfl) ?_
        refine va_get (D := (dC, dI)) (ci := 7) (v := .int v_high) (C := RX7) (T := TX7) (N := 19) hx hb hts inn_X7_layPowers_X7 hown hK hP 0 rfl rfl 6 (by decide) (hts (.fieldLink RX7 65 "RingBasesModel" "high" "I") (List.mem_of_getElem? (i := 3) rfl)) (fun _ h9 => h9) rfl dX7_layPowers_28 ?_
        refine lv_bipush (v := (60 : Int32)) hx hb dX7_layPowers_31 (by decide) ?_
        refine lv_icmp_ge (tgt := 147) hx hb dX7_layPowers_33 (by decide) (fun g_2 => ?_) (fun g_2 => ?_)
        · replace hF := ite_t g_2 hF
          obtain ⟨rfl, rfl, rfl⟩ := oks3 hF; exact hE _ _ _ _ hP hS dX7_layPowers_147
        · replace hF := ite_f g_2 hF
          refine lv_aload_n hx hb dX7_layPowers_36 rfl (lv_at hl 0 rfl) ?_
          refine lv_dup hx hb dX7_layPowers_37 rfl ?_
          refine va_get (D := (dC, dI)) (ci := 7) (v := .int v_high) (C := RX7) (T := TX7) (N := 19) hx hb hts inn_X7_layPowers_X7 hown hK hP 0 rfl rfl 6 (by decide) (hts (.fieldLink RX7 65 "RingBasesModel" "high" "I") (List.mem_of_getElem? (i := 3) rfl)) (fun _ h9 => h9) rfl dX7_layPowers_38 ?_
          refine lv_iconst (v := (1 : Int32)) hx hb dX7_layPowers_41 (by decide) ?_
          refine lv_iadd hx hb dX7_layPowers_42 ?_
          refine va_put (D := (dC, dI)) (ty := .int) (ci := 7) (v := .int (v_high + (1 : Int32))) (C := RX7) (T := TX7) (N := 19) hx hb hts inn_X7_layPowers_X7 tyX7 tyX7_ok nmX7 hown hK hP hD hS 0 rfl rfl 6 (by decide) (hts (.fieldLink RX7 65 "RingBasesModel" "high" "I") (List.mem_of_getElem? (i := 3) rfl)) (fun _ h9 => h9) rfl (by decide +kernel) rfl rfl (Nat.le_of_ble_eq_true rfl) dX7_layPowers_43 (fun H locs hP hD hS => ?_)
          have hP : va_P (dC, dI) vwCl (wd_X7_layPowers h0 h_w h_word h_ahead h_behind h_restM h_restN h_powerM h_powerN h_row c_w c_powerM c_powerN v_known v_kept v_size (v_high + (1 : Int32)) v_behindMany v_ends v_lead v_round v_worthM v_worthN v_w v_powerM v_powerN) H := hP
          have hD : va_D A (wd_X7_layPowers h0 h_w h_word h_ahead h_behind h_restM h_restN h_powerM h_powerN h_row c_w c_powerM c_powerN v_known v_kept v_size (v_high + (1 : Int32)) v_behindMany v_ends v_lead v_round v_worthM v_worthN v_w v_powerM v_powerN) := hD
          refine lv_aload_n hx hb dX7_layPowers_46 rfl (lv_at hl 0 rfl) ?_
          refine va_get (D := (dC, dI)) (ci := 7) (v := .ref h_powerM) (C := RX7) (T := TX7) (N := 19) hx hb hts inn_X7_layPowers_X7 hown hK hP 0 rfl rfl 11 (by decide) (hts (.fieldLink RX7 29 "RingBasesModel" "powerM" "[J") (List.mem_of_getElem? (i := 1) rfl)) (fun _ h9 => h9) rfl dX7_layPowers_47 ?_
          refine lv_aload_n hx hb dX7_layPowers_50 rfl (lv_at hl 0 rfl) ?_
          refine va_get (D := (dC, dI)) (ci := 7) (v := .int (v_high + (1 : Int32))) (C := RX7) (T := TX7) (N := 19) hx hb hts inn_X7_layPowers_X7 hown hK hP 0 rfl rfl 6 (by decide) (hts (.fieldLink RX7 65 "RingBasesModel" "high" "I") (List.mem_of_getElem? (i := 3) rfl)) (fun _ h9 => h9) rfl dX7_layPowers_51 ?_
          refine lv_iconst (v := (1 : Int32)) hx hb dX7_layPowers_54 (by decide) ?_
          refine lv_iadd hx hb dX7_layPowers_55 ?_
          refine lv_aload_n hx hb dX7_layPowers_56 rfl (lv_at hl 0 rfl) ?_
          refine va_get (D := (dC, dI)) (ci := 7) (v := .ref h_powerN) (C := RX7) (T := TX7) (N := 19) hx hb hts inn_X7_layPowers_X7 hown hK hP 0 rfl rfl 12 (by decide) (hts (.fieldLink RX7 32 "RingBasesModel" "powerN" "[J") (List.mem_of_getElem? (i := 2) rfl)) (fun _ h9 => h9) rfl dX7_layPowers_57 ?_
          refine lv_aload_n hx hb dX7_layPowers_60 rfl (lv_at hl 0 rfl) ?_
          refine va_get (D := (dC, dI)) (ci := 7) (v := .int (v_high + (1 : Int32))) (C := RX7) (T := TX7) (N := 19) hx hb hts inn_X7_layPowers_X7 hown hK hP 0 rfl rfl 6 (by decide) (hts (.fieldLink RX7 65 "RingBasesModel" "high" "I") (List.mem_of_getElem? (i := 3) rfl)) (fun _ h9 => h9) rfl dX7_layPowers_61 ?_
          obtain ⟨i_3, hF⟩ := ck_s hF
          refine va_lald hx hb hK hP 3 2 rfl rfl i_3 dX7_layPowers_64 ?_
          refine lv_aload_n hx hb dX7_layPowers_65 rfl (lv_at hl 0 rfl) ?_
          refine va_get (D := (dC, dI)) (ci := 7) (v := .ref h_w) (C := RX7) (T := TX7) (N := 19) hx hb hts inn_X7_layPowers_X7 hown hK hP 0 rfl rfl 0 (by decide) (hts (.fieldLink RX7 7 "RingBasesModel" "w" "[I") (List.mem_of_getElem? (i := 4) rfl)) (fun _ h9 => h9) rfl dX7_layPowers_66 ?_
          refine lv_iconst (v := (1 : Int32)) hx hb dX7_layPowers_69 (by decide) ?_
          refine va_iald hx hb hK hP 1 0 rfl rfl (by unfold vp_in; decide) dX7_layPowers_70 ?_
          refine lv_i2l hx hb dX7_layPowers_71 rfl ?_
          refine lv_lmul hx hb dX7_layPowers_72 ?_
          obtain ⟨i_4, hF⟩ := ck_s hF
          refine va_last hx hb hK hP hD hS 2 1 rfl rfl i_4 dX7_layPowers_73 (fun H locs hP hD hS => ?_)
          have hP : va_P (dC, dI) vwCl (wd_X7_layPowers h0 h_w h_word h_ahead h_behind h_restM h_restN h_powerM h_powerN h_row c_w c_powerM c_powerN v_known v_kept v_size (v_high + (1 : Int32)) v_behindMany v_ends v_lead v_round v_worthM v_worthN v_w (vp_updL v_powerM ((v_high + (1 : Int32)) + (1 : Int32)).toNatClampNeg ((v_powerN (v_high + (1 : Int32)).toNatClampNeg) * (v_w (1 : Int32).toNatClampNeg).toInt64)) v_powerN) H := hP
          have hD : va_D A (wd_X7_layPowers h0 h_w h_word h_ahead h_behind h_restM h_restN h_powerM h_powerN h_row c_w c_powerM c_powerN v_known v_kept v_size (v_high + (1 : Int32)) v_behindMany v_ends v_lead v_round v_worthM v_worthN v_w (vp_updL v_powerM ((v_high + (1 : Int32)) + (1 : Int32)).toNatClampNeg ((v_powerN (v_high + (1 : Int32)).toNatClampNeg) * (v_w (1 : Int32).toNatClampNeg).toInt64)) v_powerN) := hD
          refine lv_aload_n hx hb dX7_layPowers_74 rfl (lv_at hl 0 rfl) ?_
          refine va_get (D := (dC, dI)) (ci := 7) (v := .ref h_powerN) (C := RX7) (T := TX7) (N := 19) hx hb hts inn_X7_layPowers_X7 hown hK hP 0 rfl rfl 12 (by decide) (hts (.fieldLink RX7 32 "RingBasesModel" "powerN" "[J") (List.mem_of_getElem? (i := 2) rfl)) (fun _ h9 => h9) rfl dX7_layPowers_75 ?_
          refine lv_aload_n hx hb dX7_layPowers_78 rfl (lv_at hl 0 rfl) ?_
          refine va_get (D := (dC, dI)) (ci := 7) (v := .int (v_high + (1 : Int32))) (C := RX7) (T := TX7) (N := 19) hx hb hts inn_X7_layPowers_X7 hown hK hP 0 rfl rfl 6 (by decide) (hts (.fieldLink RX7 65 "RingBasesModel" "high" "I") (List.mem_of_getElem? (i := 3) rfl)) (fun _ h9 => h9) rfl dX7_layPowers_79 ?_
          refine lv_iconst (v := (1 : Int32)) hx hb dX7_layPowers_82 (by decide) ?_
          refine lv_iadd hx hb dX7_layPowers_83 ?_
          refine lv_aload_n hx hb dX7_layPowers_84 rfl (lv_at hl 0 rfl) ?_
          refine va_get (D := (dC, dI)) (ci := 7) (v := .ref h_powerM) (C := RX7) (T := TX7) (N := 19) hx hb hts inn_X7_layPowers_X7 hown hK hP 0 rfl rfl 11 (by decide) (hts (.fieldLink RX7 29 "RingBasesModel" "powerM" "[J") (List.mem_of_getElem? (i := 1) rfl)) (fun _ h9 => h9) rfl dX7_layPowers_85 ?_
          refine lv_aload_n hx hb dX7_layPowers_88 rfl (lv_at hl 0 rfl) ?_
          refine va_get (D := (dC, dI)) (ci := 7) (v := .int (v_high + (1 : Int32))) (C := RX7) (T := TX7) (N := 19) hx hb hts inn_X7_layPowers_X7 hown hK hP 0 rfl rfl 6 (by decide) (hts (.fieldLink RX7 65 "RingBasesModel" "high" "I") (List.mem_of_getElem? (i := 3) rfl)) (fun _ h9 => h9) rfl dX7_layPowers_89 ?_
          refine va_lald hx hb hK hP 2 1 rfl rfl i_3 dX7_layPowers_92 ?_
          refine lv_aload_n hx hb dX7_layPowers_93 rfl (lv_at hl 0 rfl) ?_
          refine va_get (D := (dC, dI)) (ci := 7) (v := .ref h_powerN) (C := RX7) (T := TX7) (N := 19) hx hb hts inn_X7_layPowers_X7 hown hK hP 0 rfl rfl 12 (by decide) (hts (.fieldLink RX7 32 "RingBasesModel" "powerN" "[J") (List.mem_of_getElem? (i := 2) rfl)) (fun _ h9 => h9) rfl dX7_layPowers_94 ?_
          refine lv_aload_n hx hb dX7_layPowers_97 rfl (lv_at hl 0 rfl) ?_
          refine va_get (D := (dC, dI)) (ci := 7) (v := .int (v_high + (1 : Int32))) (C := RX7) (T := TX7) (N := 19) hx hb hts inn_X7_layPowers_X7 hown hK hP 0 rfl rfl 6 (by decide) (hts (.fieldLink RX7 65 "RingBasesModel" "high" "I") (List.mem_of_getElem? (i := 3) rfl)) (fun _ h9 => h9) rfl dX7_layPowers_98 ?_
          refine va_lald hx hb hK hP 3 2 rfl rfl i_3 dX7_layPowers_101 ?_
          refine lv_aload_n hx hb dX7_layPowers_102 rfl (lv_at hl 0 rfl) ?_
          refine va_get (D := (dC, dI)) (ci := 7) (v := .ref h_w) (C := RX7) (T := TX7) (N := 19) hx hb hts inn_X7_layPowers_X7 hown hK hP 0 rfl rfl 0 (by decide) (hts (.fieldLink RX7 7 "RingBasesModel" "w" "[I") (List.mem_of_getElem? (i := 4) rfl)) (fun _ h9 => h9) rfl dX7_layPowers_103 ?_
          refine lv_iconst (v := (0 : Int32)) hx hb dX7_layPowers_106 (by decide) ?_
          refine va_iald hx hb hK hP 1 0 rfl rfl (by unfold vp_in; decide) dX7_layPowers_107 ?_
          refine lv_i2l hx hb dX7_layPowers_108 rfl ?_
          refine lv_lmul hx hb dX7_layPowers_109 ?_
          refine lv_ladd hx hb dX7_layPowers_110 ?_
          refine va_last hx hb hK hP hD hS 3 2 rfl rfl i_4 dX7_layPowers_111 (fun H locs hP hD hS => ?_)
          have hP : va_P (dC, dI) vwCl (wd_X7_layPowers h0 h_w h_word h_ahead h_behind h_restM h_restN h_powerM h_powerN h_row c_w c_powerM c_powerN v_known v_kept v_size (v_high + (1 : Int32)) v_behindMany v_ends v_lead v_round v_worthM v_worthN v_w (vp_updL v_powerM ((v_high + (1 : Int32)) + (1 : Int32)).toNatClampNeg ((v_powerN (v_high + (1 : Int32)).toNatClampNeg) * (v_w (1 : Int32).toNatClampNeg).toInt64)) (vp_updL v_powerN ((v_high + (1 : Int32)) + (1 : Int32)).toNatClampNeg (((vp_updL v_powerM ((v_high + (1 : Int32)) + (1 : Int32)).toNatClampNeg ((v_powerN (v_high + (1 : Int32)).toNatClampNeg) * (v_w (1 : Int32).toNatClampNeg).toInt64)) (v_high + (1 : Int32)).toNatClampNeg) + ((v_powerN (v_high + (1 : Int32)).toNatClampNeg) * (v_w (0 : Int32).toNatClampNeg).toInt64)))) H := hP
          have hD : va_D A (wd_X7_layPowers h0 h_w h_word h_ahead h_behind h_restM h_restN h_powerM h_powerN h_row c_w c_powerM c_powerN v_known v_kept v_size (v_high + (1 : Int32)) v_behindMany v_ends v_lead v_round v_worthM v_worthN v_w (vp_updL v_powerM ((v_high + (1 : Int32)) + (1 : Int32)).toNatClampNeg ((v_powerN (v_high + (1 : Int32)).toNatClampNeg) * (v_w (1 : Int32).toNatClampNeg).toInt64)) (vp_updL v_powerN ((v_high + (1 : Int32)) + (1 : Int32)).toNatClampNeg (((vp_updL v_powerM ((v_high + (1 : Int32)) + (1 : Int32)).toNatClampNeg ((v_powerN (v_high + (1 : Int32)).toNatClampNeg) * (v_w (1 : Int32).toNatClampNeg).toInt64)) (v_high + (1 : Int32)).toNatClampNeg) + ((v_powerN (v_high + (1 : Int32)).toNatClampNeg) * (v_w (0 : Int32).toNatClampNeg).toInt64)))) := hD
          refine lv_aload_n hx hb dX7_layPowers_112 rfl (lv_at hl 0 rfl) ?_
          refine lv_lload_n hx hb dX7_layPowers_113 rfl (lv_at hl 1 rfl) ?_
          refine lv_aload_n hx hb dX7_layPowers_114 rfl (lv_at hl 0 rfl) ?_
          refine va_get (D := (dC, dI)) (ci := 7) (v := .ref h_powerM) (C := RX7) (T := TX7) (N := 19) hx hb hts inn_X7_layPowers_X7 hown hK hP 0 rfl rfl 11 (by decide) (hts (.fieldLink RX7 29 "RingBasesModel" "powerM" "[J") (List.mem_of_getElem? (i := 1) rfl)) (fun _ h9 => h9) rfl dX7_layPowers_115 ?_
          refine lv_aload_n hx hb dX7_layPowers_118 rfl (lv_at hl 0 rfl) ?_
          refine va_get (D := (dC, dI)) (ci := 7) (v := .int (v_high + (1 : Int32))) (C := RX7) (T := TX7) (N := 19) hx hb hts inn_X7_layPowers_X7 hown hK hP 0 rfl rfl 6 (by decide) (hts (.fieldLink RX7 65 "RingBasesModel" "high" "I") (List.mem_of_getElem? (i := 3) rfl)) (fun _ h9 => h9) rfl dX7_layPowers_119 ?_
          refine lv_iconst (v := (1 : Int32)) hx hb dX7_layPowers_122 (by decide) ?_
          refine lv_iadd hx hb dX7_layPowers_123 ?_
          refine va_lald hx hb hK hP 2 1 rfl rfl i_4 dX7_layPowers_124 ?_
          refine lv_lsub hx hb dX7_layPowers_125 ?_
          refine lv_lload_n hx hb dX7_layPowers_126 rfl (lv_at hl 2 rfl) ?_
          refine lv_aload_n hx hb dX7_layPowers_127 rfl (lv_at hl 0 rfl) ?_
          refine va_get (D := (dC, dI)) (ci := 7) (v := .ref h_powerN) (C := RX7) (T := TX7) (N := 19) hx hb hts inn_X7_layPowers_X7 hown hK hP 0 rfl rfl 12 (by decide) (hts (.fieldLink RX7 32 "RingBasesModel" "powerN" "[J") (List.mem_of_getElem? (i := 2) rfl)) (fun _ h9 => h9) rfl dX7_layPowers_128 ?_
          refine lv_aload_n hx hb dX7_layPowers_131 rfl (lv_at hl 0 rfl) ?_
          refine va_get (D := (dC, dI)) (ci := 7) (v := .int (v_high + (1 : Int32))) (C := RX7) (T := TX7) (N := 19) hx hb hts inn_X7_layPowers_X7 hown hK hP 0 rfl rfl 6 (by decide) (hts (.fieldLink RX7 65 "RingBasesModel" "high" "I") (List.mem_of_getElem? (i := 3) rfl)) (fun _ h9 => h9) rfl dX7_layPowers_132 ?_
          refine lv_iconst (v := (1 : Int32)) hx hb dX7_layPowers_135 (by decide) ?_
          refine lv_iadd hx hb dX7_layPowers_136 ?_
          refine va_lald hx hb hK hP 3 2 rfl rfl i_4 dX7_layPowers_137 ?_
          refine lv_lsub hx hb dX7_layPowers_138 ?_
          refine rdVi (As := [.long (x1 - ((vp_updL v_powerM ((v_high + (1 : Int32)) + (1 : Int32)).toNatClampNeg ((v_powerN (v_high + (1 : Int32)).toNatClampNeg) * (v_w (1 : Int32).toNatClampNeg).toInt64)) ((v_high + (1 : Int32)) + (1 : Int32)).toNatClampNeg)), .long (x3 - ((vp_updL v_powerN ((v_high + (1 : Int32)) + (1 : Int32)).toNatClampNeg (((vp_updL v_powerM ((v_high + (1 : Int32)) + (1 : Int32)).toNatClampNeg ((v_powerN (v_high + (1 : Int32)).toNatClampNeg) * (v_w (1 : Int32).toNatClampNeg).toInt64)) (v_high + (1 : Int32)).toNatClampNeg) + ((v_powerN (v_high + (1 : Int32)).toNatClampNeg) * (v_w (0 : Int32).toNatClampNeg).toInt64))) ((v_high + (1 : Int32)) + (1 : Int32)).toNatClampNeg))]) (rest := []) (b := h0) hC (c_X7_signOf l dC dI h0 h_w h_word h_ahead h_behind h_restM h_restN h_powerM h_powerN h_row c_w v_known v_kept v_size (v_high + (1 : Int32)) v_behindMany v_ends v_lead v_round v_worthM v_worthN v_w (x1 - ((vp_updL v_powerM ((v_high + (1 : Int32)) + (1 : Int32)).toNatClampNeg ((v_powerN (v_high + (1 : Int32)).toNatClampNeg) * (v_w (1 : Int32).toNatClampNeg).toInt64)) ((v_high + (1 : Int32)) + (1 : Int32)).toNatClampNeg)) (x3 - ((vp_updL v_powerN ((v_high + (1 : Int32)) + (1 : Int32)).toNatClampNeg (((vp_updL v_powerM ((v_high + (1 : Int32)) + (1 : Int32)).toNatClampNeg ((v_powerN (v_high + (1 : Int32)).toNatClampNeg) * (v_w (1 : Int32).toNatClampNeg).toInt64)) (v_high + (1 : Int32)).toNatClampNeg) + ((v_powerN (v_high + (1 : Int32)).toNatClampNeg) * (v_w (0 : Int32).toNatClampNeg).toInt64))) ((v_high + (1 : Int32)) + (1 : Int32)).toNatClampNeg)) (F_X7_signOf (x1 - ((vp_updL v_powerM ((v_high + (1 : Int32)) + (1 : Int32)).toNatClampNeg ((v_powerN (v_high + (1 : Int32)).toNatClampNeg) * (v_w (1 : Int32).toNatClampNeg).toInt64)) ((v_high + (1 : Int32)) + (1 : Int32)).toNatClampNeg)) (x3 - ((vp_updL v_powerN ((v_high + (1 : Int32)) + (1 : Int32)).toNatClampNeg (((vp_updL v_powerM ((v_high + (1 : Int32)) + (1 : Int32)).toNatClampNeg ((v_powerN (v_high + (1 : Int32)).toNatClampNeg) * (v_w (1 : Int32).toNatClampNeg).toInt64)) (v_high + (1 : Int32)).toNatClampNeg) + ((v_powerN (v_high + (1 : Int32)).toNatClampNeg) * (v_w (0 : Int32).toNatClampNeg).toInt64))) ((v_high + (1 : Int32)) + (1 : Int32)).toNatClampNeg)) v_w) rfl) (cwV 2 hts gX7_layPowers_X7_signOf rfl rfl rfl (by decide +kernel) ⟨Nat.le_of_ble_eq_true rfl, Nat.le_of_ble_eq_true rfl⟩) hN (hK.sub (tys' := [(c_w, .int)]) [0] rfl) (hP.sub (ws' := (wd_X7_signOf h0 h_w h_word h_ahead h_behind h_restM h_restN h_powerM h_powerN h_row c_w v_known v_kept v_size (v_high + (1 : Int32)) v_behindMany v_ends v_lead v_round v_worthM v_worthN v_w)) [0, 1] rfl) 0 7 rfl rfl rfl rfl hl.1 (Nat.le_of_ble_eq_true rfl) dX7_layPowers_139 ⟨Nat.zero_le _, Nat.zero_le _⟩ ?_
          refine lv_istore (lv' := [(5, .int (F_X7_signOf (x1 - ((vp_updL v_powerM ((v_high + (1 : Int32)) + (1 : Int32)).toNatClampNeg ((v_powerN (v_high + (1 : Int32)).toNatClampNeg) * (v_w (1 : Int32).toNatClampNeg).toInt64)) ((v_high + (1 : Int32)) + (1 : Int32)).toNatClampNeg)) (x3 - ((vp_updL v_powerN ((v_high + (1 : Int32)) + (1 : Int32)).toNatClampNeg (((vp_updL v_powerM ((v_high + (1 : Int32)) + (1 : Int32)).toNatClampNeg ((v_powerN (v_high + (1 : Int32)).toNatClampNeg) * (v_w (1 : Int32).toNatClampNeg).toInt64)) (v_high + (1 : Int32)).toNatClampNeg) + ((v_powerN (v_high + (1 : Int32)).toNatClampNeg) * (v_w (0 : Int32).toNatClampNeg).toInt64))) ((v_high + (1 : Int32)) + (1 : Int32)).toNatClampNeg)) v_w)), (0, .ref h0), (1, .long x1), (3, .long x3)]) hx hb dX7_layPowers_142 hl (by decide) rfl (fun ls hl => ?_)
          refine lv_goto (tgt := 22) hx hb dX7_layPowers_144 (by decide) ?_
          exact ih (F_X7_signOf (x1 - ((vp_updL v_powerM ((v_high + (1 : Int32)) + (1 : Int32)).toNatClampNeg ((v_powerN (v_high + (1 : Int32)).toNatClampNeg) * (v_w (1 : Int32).toNatClampNeg).toInt64)) ((v_high + (1 : Int32)) + (1 : Int32)).toNatClampNeg)) (x3 - ((vp_updL v_powerN ((v_high + (1 : Int32)) + (1 : Int32)).toNatClampNeg (((vp_updL v_powerM ((v_high + (1 : Int32)) + (1 : Int32)).toNatClampNeg ((v_powerN (v_high + (1 : Int32)).toNatClampNeg) * (v_w (1 : Int32).toNatClampNeg).toInt64)) (v_high + (1 : Int32)).toNatClampNeg) + ((v_powerN (v_high + (1 : Int32)).toNatClampNeg) * (v_w (0 : Int32).toNatClampNeg).toInt64))) ((v_high + (1 : Int32)) + (1 : Int32)).toNatClampNeg)) v_w) (v_high + (1 : Int32)) (vp_updL v_powerM ((v_high + (1 : Int32)) + (1 : Int32)).toNatClampNeg ((v_powerN (v_high + (1 : Int32)).toNatClampNeg) * (v_w (1 : Int32).toNatClampNeg).toInt64)) (vp_updL v_powerN ((v_high + (1 : Int32)) + (1 : Int32)).toNatClampNeg (((vp_updL v_powerM ((v_high + (1 : Int32)) + (1 : Int32)).toNatClampNeg ((v_powerN (v_high + (1 : Int32)).toNatClampNeg) * (v_w (1 : Int32).toNatClampNeg).toInt64)) (v_high + (1 : Int32)).toNatClampNeg) + ((v_powerN (v_high + (1 : Int32)).toNatClampNeg) * (v_w (0 : Int32).toNatClampNeg).toInt64))) hF H locs hP hS ls (lv_sub hl [1, 2, 3, 0] rfl)
  refine lv_aload_n hx hb dX7_layPowers_0 rfl (lv_at hl 0 rfl) ?_
  refine va_get (D := (dC, dI)) (ci := 7) (v := .ref h_powerM) (C := RX7) (T := TX7) (N := 19) hx hb hts inn_X7_layPowers_X7 hown hK hP 0 rfl rfl 11 (by decide) (hts (.fieldLink RX7 29 "RingBasesModel" "powerM" "[J") (List.mem_of_getElem? (i := 1) rfl)) (fun _ h9 => h9) rfl dX7_layPowers_1 ?_
  refine lv_iconst (v := (0 : Int32)) hx hb dX7_layPowers_4 (by decide) ?_
  refine lv_lconst (v := (1 : Int64)) hx hb dX7_layPowers_5 (by decide) ?_
  refine va_last hx hb hK hP hD hS 2 1 rfl rfl (by unfold vp_in; decide) dX7_layPowers_6 (fun H locs hP hD hS => ?_)
  have hP : va_P (dC, dI) vwCl (wd_X7_layPowers h0 h_w h_word h_ahead h_behind h_restM h_restN h_powerM h_powerN h_row c_w c_powerM c_powerN v_known v_kept v_size v_high v_behindMany v_ends v_lead v_round v_worthM v_worthN v_w (vp_updL v_powerM (0 : Int32).toNatClampNeg (1 : Int64)) v_powerN) H := hP
  have hD : va_D A (wd_X7_layPowers h0 h_w h_word h_ahead h_behind h_restM h_restN h_powerM h_powerN h_row c_w c_powerM c_powerN v_known v_kept v_size v_high v_behindMany v_ends v_lead v_round v_worthM v_worthN v_w (vp_updL v_powerM (0 : Int32).toNatClampNeg (1 : Int64)) v_powerN) := hD
  refine lv_aload_n hx hb dX7_layPowers_7 rfl (lv_at hl 0 rfl) ?_
  refine va_get (D := (dC, dI)) (ci := 7) (v := .ref h_powerN) (C := RX7) (T := TX7) (N := 19) hx hb hts inn_X7_layPowers_X7 hown hK hP 0 rfl rfl 12 (by decide) (hts (.fieldLink RX7 32 "RingBasesModel" "powerN" "[J") (List.mem_of_getElem? (i := 2) rfl)) (fun _ h9 => h9) rfl dX7_layPowers_8 ?_
  refine lv_iconst (v := (0 : Int32)) hx hb dX7_layPowers_11 (by decide) ?_
  refine lv_lconst (v := (0 : Int64)) hx hb dX7_layPowers_12 (by decide) ?_
  refine va_last hx hb hK hP hD hS 3 2 rfl rfl (by unfold vp_in; decide) dX7_layPowers_13 (fun H locs hP hD hS => ?_)
  have hP : va_P (dC, dI) vwCl (wd_X7_layPowers h0 h_w h_word h_ahead h_behind h_restM h_restN h_powerM h_powerN h_row c_w c_powerM c_powerN v_known v_kept v_size v_high v_behindMany v_ends v_lead v_round v_worthM v_worthN v_w (vp_updL v_powerM (0 : Int32).toNatClampNeg (1 : Int64)) (vp_updL v_powerN (0 : Int32).toNatClampNeg (0 : Int64))) H := hP
  have hD : va_D A (wd_X7_layPowers h0 h_w h_word h_ahead h_behind h_restM h_restN h_powerM h_powerN h_row c_w c_powerM c_powerN v_known v_kept v_size v_high v_behindMany v_ends v_lead v_round v_worthM v_worthN v_w (vp_updL v_powerM (0 : Int32).toNatClampNeg (1 : Int64)) (vp_updL v_powerN (0 : Int32).toNatClampNeg (0 : Int64))) := hD
  refine lv_aload_n hx hb dX7_layPowers_14 rfl (lv_at hl 0 rfl) ?_
  refine lv_iconst (v := (-1 : Int32)) hx hb dX7_layPowers_15 (by decide) ?_
  refine va_put (D := (dC, dI)) (ty := .int) (ci := 7) (v := .int (-1 : Int32)) (C := RX7) (T := TX7) (N := 19) hx hb hts inn_X7_layPowers_X7 tyX7 tyX7_ok nmX7 hown hK hP hD hS 0 rfl rfl 6 (by decide) (hts (.fieldLink RX7 65 "RingBasesModel" "high" "I") (List.mem_of_getElem? (i := 3) rfl)) (fun _ h9 => h9) rfl (by decide +kernel) rfl rfl (Nat.le_of_ble_eq_true rfl) dX7_layPowers_16 (fun H locs hP hD hS => ?_)
  have hP : va_P (dC, dI) vwCl (wd_X7_layPowers h0 h_w h_word h_ahead h_behind h_restM h_restN h_powerM h_powerN h_row c_w c_powerM c_powerN v_known v_kept v_size (-1 : Int32) v_behindMany v_ends v_lead v_round v_worthM v_worthN v_w (vp_updL v_powerM (0 : Int32).toNatClampNeg (1 : Int64)) (vp_updL v_powerN (0 : Int32).toNatClampNeg (0 : Int64))) H := hP
  have hD : va_D A (wd_X7_layPowers h0 h_w h_word h_ahead h_behind h_restM h_restN h_powerM h_powerN h_row c_w c_powerM c_powerN v_known v_kept v_size (-1 : Int32) v_behindMany v_ends v_lead v_round v_worthM v_worthN v_w (vp_updL v_powerM (0 : Int32).toNatClampNeg (1 : Int64)) (vp_updL v_powerN (0 : Int32).toNatClampNeg (0 : Int64))) := hD
  refine lv_iconst (v := (0 : Int32)) hx hb dX7_layPowers_19 (by decide) ?_
  refine lv_istore (lv' := [(5, .int (0 : Int32)), (0, .ref h0), (1, .long x1), (3, .long x3)]) hx hb dX7_layPowers_20 hl (by decide) rfl (fun ls hl => ?_)
  exact k_22 _ (0 : Int32) (-1 : Int32) (vp_updL v_powerM (0 : Int32).toNatClampNeg (1 : Int64)) (vp_updL v_powerN (0 : Int32).toNatClampNeg (0 : Int64)) hF H locs hP hS ls (lv_sub hl [1, 2, 3, 0] rfl)
set_option maxRecDepth 100000 in
set_option maxHeartbeats 4000000 in
theorem c_X7_layPowers (l : Launch) (dC : Nat → ClassId) (dI : Nat → Nat → Nat) (sz : Nat) (h0 h_w h_word h_ahead h_behind h_restM h_restN h_powerM h_powerN h_row : Nat) (c_w c_powerM c_powerN : ClassId) (v_known : Int32) (v_kept : Int32) (v_size : Int32) (v_high : Int32) (v_behindMany : Int32) (v_ends : Int32) (v_lead : Int32) (v_round : Int32) (v_worthM : Int64) (v_worthN : Int64) (v_w : (Nat → Int32)) (v_powerM : (Nat → Int64)) (v_powerN : (Nat → Int64)) (x1 : Int64) (x3 : Int64) (o : Int32 × (Nat → Int64) × (Nat → Int64)) (hF : F_X7_layPowers x1 x3 v_w v_powerM v_powerN = some o) : Met l yX7_layPowers wsX7_layPowers rm_X7_layPowers (va_Pc [.ref h0, .long x1, .long x3] (PcW dC dI sz (wd_X7_layPowers h0 h_w h_word h_ahead h_behind h_restM h_restN h_powerM h_powerN h_row c_w c_powerM c_powerN v_known v_kept v_size v_high v_behindMany v_ends v_lead v_round v_worthM v_worthN v_w v_powerM v_powerN) [(c_w, .int), (c_powerM, .long), (c_powerN, .long)])) (va_Qv (fun (_ : Unit) => True) (fun _ t => va_P (dC, dI) vwCl (wd_X7_layPowers h0 h_w h_word h_ahead h_behind h_restM h_restN h_powerM h_powerN h_row c_w c_powerM c_powerN v_known v_kept v_size o.1 v_behindMany v_ends v_lead v_round v_worthM v_worthN v_w o.2.1 o.2.2) t.heap) (va_A (wd_X7_layPowers h0 h_w h_word h_ahead h_behind h_restM h_restN h_powerM h_powerN h_row c_w c_powerM c_powerN v_known v_kept v_size v_high v_behindMany v_ends v_lead v_round v_worthM v_worthN v_w v_powerM v_powerN) sz)) 0 0 (va_A (wd_X7_layPowers h0 h_w h_word h_ahead h_behind h_restM h_restN h_powerM h_powerN h_row c_w c_powerM c_powerN v_known v_kept v_size v_high v_behindMany v_ends v_lead v_round v_worthM v_worthN v_w v_powerM v_powerN) sz) := by
  refine Met.ofW (cc := cX7_layPowers) (maxL := 6) (ret := none) (by decide) rfl ?_
  intro p e s m args below meth c s₁ B hml hv
  obtain ⟨rfl, hsz, hP, hK, hD0, hN⟩ := hv
  subst hsz
  have hl := lv_entry ([.ref h0, .long x1, .long x3]) (n := 6) (Nat.le_of_ble_eq_true rfl)
  rw [lg_entry_eq]
  generalize (lg_sl ([.ref h0, .long x1, .long x3]) ++ List.replicate (6 - (lg_sl ([.ref h0, .long x1, .long x3])).length) Slot.unset).toArray = ls at hl ⊢
  exact b_X7_layPowers h0 h_w h_word h_ahead h_behind h_restM h_restN h_powerM h_powerN h_row c_w c_powerM c_powerN v_known v_kept v_size v_high v_behindMany v_ends v_lead v_round v_worthM v_worthN v_w v_powerM v_powerN x1 x3 o.1 o.2.1 o.2.2 hF ⟨B.exec, B.bytes, hml, findClass_of_methodNamed B.named, atoms_spec (ws := wsX7_layPowers) B.pre⟩ hN hK hP (fun q h => Or.inr h) (hD0.self (sz := s.heap.size)) va_S.rf (fun H locs ls pc hP hS hd => W.vret B.exec B.bytes B.returns (fun t ht hW => ⟨⟨(), rfl, trivial, by show va_P (dC, dI) vwCl _ t.heap; rw [ht]; exact hP⟩, hS.F ht⟩) hS.2.2 hd B.notSynchronized) hl
theorem inn_X7_wasAhead_X7 : ∀ w ∈ wsX70, w ∈ wsX7_wasAhead := fun _ h => List.mem_cons_of_mem _ (List.mem_append_right _ h)
abbrev wd_X7_wasAhead (h0 h_w h_word h_ahead h_behind h_restM h_restN h_powerM h_powerN h_row : Nat) (c_restM c_restN : ClassId) (v_known : Int32) (v_kept : Int32) (v_size : Int32) (v_high : Int32) (v_behindMany : Int32) (v_ends : Int32) (v_lead : Int32) (v_round : Int32) (v_worthM : Int64) (v_worthN : Int64) (v_restM : (Nat → Int64)) (v_restN : (Nat → Int64)) : va_W := [(h0, .inr (7, [.ref h_w, .int v_known, .int v_kept, .ref h_word, .int v_size, .ref h_ahead, .int v_high, .ref h_behind, .int v_behindMany, .ref h_restM, .ref h_restN, .ref h_powerM, .ref h_powerN, .int v_ends, .int v_lead, .int v_round, .ref h_row, .long v_worthM, .long v_worthN])), (h_restM, .inl (c_restM, 41, .inr (.inl v_restM))), (h_restN, .inl (c_restN, 41, .inr (.inl v_restN)))]
abbrev rm_X7_wasAhead : Room := { frames := 0, cells := 0, slots := 0, locals := 0 }
def F_X7_wasAhead_39 (x1 : Int32) (x2 : Int32) (v_lead : Int32) (v_round : Int32) : Option (Int32 × Int32 × Int32) := (some ((1 : Int32), x2, (x1 - x2)))
def F_X7_wasAhead_2 (x1 : Int32) (v_restM : (Nat → Int64)) (v_restN : (Nat → Int64)) : Nat → Int32 → Int32 → Int32 → Option (Int32 × Int32 × Int32)
  | 0, _, _, _ => none
  | fu + 1, x2, v_lead, v_round => (if x1 ≤ x2 then (some ((0 : Int32), v_lead, v_round)) else (ck x2 41 (ck x1 41 (if (lg_cmp (v_restM x2.toNatClampNeg) (v_restM x1.toNatClampNeg)) = 0 then (if (lg_cmp (v_restN x2.toNatClampNeg) (v_restN x1.toNatClampNeg)) = 0 then (F_X7_wasAhead_39  x1 x2 v_lead v_round) else (F_X7_wasAhead_2 x1 v_restM v_restN fu (x2 + (1 : Int32)) v_lead v_round)) else (F_X7_wasAhead_2 x1 v_restM v_restN fu (x2 + (1 : Int32)) v_lead v_round)))))
def F_X7_wasAhead (x1 : Int32) (v_lead : Int32) (v_round : Int32) (v_restM : (Nat → Int64)) (v_restN : (Nat → Int64)) : Option (Int32 × Int32 × Int32) := (F_X7_wasAhead_2  x1 v_restM v_restN 128 (0 : Int32) v_lead v_round)
set_option maxRecDepth 100000 in
set_option maxHeartbeats 4000000 in
theorem b_X7_wasAhead {p : Program} {l : Launch} {e : Env} {s : State} {m : MethodId} {args : Array Value} {below : List Frame} {meth : Method} {c : Code} {Q : State → Prop} {dC : Nat → ClassId} {dI : Nat → Nat → Nat} {H : Heap} {locs : List Loc} {ls : Array Slot} {A : Nat → Prop} (h0 h_w h_word h_ahead h_behind h_restM h_restN h_powerM h_powerN h_row : Nat) (c_restM c_restN : ClassId) (v_known : Int32) (v_kept : Int32) (v_size : Int32) (v_high : Int32) (v_behindMany : Int32) (v_ends : Int32) (v_lead : Int32) (v_round : Int32) (v_worthM : Int64) (v_worthN : Int64) (v_restM : (Nat → Int64)) (v_restN : (Nat → Int64)) (x1 : Int32) (ou0 : Int32) (ou1 : Int32) (ou2 : Int32) (hF : F_X7_wasAhead x1 v_lead v_round v_restM v_restN = some (ou0, ou1, ou2)) (hC : CallFix p m c cX7_wasAhead 3 s args wsX7_wasAhead RX7) (hN : NW s) (hK : va_K (dC, dI) vwCl [(c_restM, .long), (c_restN, .long)] s) (hP : va_P (dC, dI) vwCl (wd_X7_wasAhead h0 h_w h_word h_ahead h_behind h_restM h_restN h_powerM h_powerN h_row c_restM c_restN v_known v_kept v_size v_high v_behindMany v_ends v_lead v_round v_worthM v_worthN v_restM v_restN) H) (hA : ∀ q, s.heap.size ≤ q → A q) (hD : va_D A (wd_X7_wasAhead h0 h_w h_word h_ahead h_behind h_restM h_restN h_powerM h_powerN h_row c_restM c_restN v_known v_kept v_size v_high v_behindMany v_ends v_lead v_round v_worthM v_worthN v_restM v_restN)) (hS : va_S A s.heap H locs) (hE : ∀ (H : Heap) (locs : List Loc) (ls : Array Slot) (pc : Nat), va_P (dC, dI) vwCl (wd_X7_wasAhead h0 h_w h_word h_ahead h_behind h_restM h_restN h_powerM h_powerN h_row c_restM c_restN v_known v_kept v_size v_high v_behindMany v_ends ou1 ou2 v_worthM v_worthN v_restM v_restN) H → va_S A s.heap H locs → narrow .boolean (.int ou0) = .int ou0 → decode cX7_wasAhead pc = .ok (.ireturn, 1) → W p l e rm_X7_wasAhead s m args below meth c H locs 0 0 Q (F0 m pc ls [.int ou0])) (hl : lv_has ls 3 [(0, .ref h0), (1, .int x1)]) : W p l e rm_X7_wasAhead s m args below meth c H locs 0 0 Q (F0 m 0 ls []) := by
  obtain ⟨hx, hb, hml, hown, hts⟩ := id hC
  have hD0 := hD
  unfold F_X7_wasAhead at hF
  have k_2 : ∀ (fu_2 : Nat) (x2 : Int32) (v_lead : Int32) (v_round : Int32), F_X7_wasAhead_2  x1 v_restM v_restN fu_2 x2 v_lead v_round = some (ou0, ou1, ou2) → ∀ (H : Heap) (locs : List Loc), va_P (dC, dI) vwCl (wd_X7_wasAhead h0 h_w h_word h_ahead h_behind h_restM h_restN h_powerM h_powerN h_row c_restM c_restN v_known v_kept v_size v_high v_behindMany v_ends v_lead v_round v_worthM v_worthN v_restM v_restN) H → va_S A s.heap H locs → ∀ ls : Array Slot, lv_has ls 3 [(0, .ref h0), (1, .int x1), (2, .int x2)] → W p l e rm_X7_wasAhead s m args below meth c H locs 0 0 Q (F0 m 2 ls []) := by
    intro fu_2
    induction fu_2 with
    | zero => intro x2 v_lead v_round hF; rw [F_X7_wasAhead_2] at hF; cases hF
    | succ fu_2 ih =>
      intro x2 v_lead v_round hF H locs hP hS ls hl
      rw [F_X7_wasAhead_2] at hF
      have ih_2 := ih
      have hD : va_D A (wd_X7_wasAhead h0 h_w h_word h_ahead h_behind h_restM h_restN h_powerM h_powerN h_row c_restM c_restN v_known v_kept v_size v_high v_behindMany v_ends v_lead v_round v_worthM v_worthN v_restM v_restN) := hD0.re rfl
      have k_39 : ∀ (x2 : Int32) (v_lead : Int32) (v_round : Int32), F_X7_wasAhead_39  x1 x2 v_lead v_round = some (ou0, ou1, ou2) → ∀ (H : Heap) (locs : List Loc), va_P (dC, dI) vwCl (wd_X7_wasAhead h0 h_w h_word h_ahead h_behind h_restM h_restN h_powerM h_powerN h_row c_restM c_restN v_known v_kept v_size v_high v_behindMany v_ends v_lead v_round v_worthM v_worthN v_restM v_restN) H → va_S A s.heap H locs → ∀ ls : Array Slot, lv_has ls 3 [(0, .ref h0), (1, .int x1), (2, .int x2)] → W p l e rm_X7_wasAhead s m args below meth c H locs 0 0 Q (F0 m 39 ls []) := by
        intro x2 v_lead v_round hF H locs hP hS ls hl
        rw [F_X7_wasAhead_39] at hF
        have hD : va_D A (wd_X7_wasAhead h0 h_w h_word h_ahead h_behind h_restM h_restN h_powerM h_powerN h_row c_restM c_restN v_known v_kept v_size v_high v_behindMany v_ends v_lead v_round v_worthM v_worthN v_restM v_restN) := hD0.re rfl
        refine lv_aload_n hx hb dX7_wasAhead_39 rfl (lv_at hl 0 rfl) ?_
        refine lv_iload_n hx hb dX7_wasAhead_40 rfl (lv_at hl 2 rfl) ?_
        refine va_put (D := (dC, dI)) (ty := .int) (ci := 7) (v := .int x2) (C := RX7) (T := TX7) (N := 19) hx hb hts inn_X7_wasAhead_X7 tyX7 tyX7_ok nmX7 hown hK hP hD hS 0 rfl rfl 14 (by decide) (hts (.fieldLink RX7 72 "RingBasesModel" "lead" "I") (List.mem_of_getElem? (i := 3) rfl)) (fun _ h9 => h9) rfl (by decide +kernel) rfl rfl (Nat.le_of_ble_eq_true rfl) dX7_wasAhead_41 (fun H locs hP hD hS => ?_)
        have hP : va_P (dC, dI) vwCl (wd_X7_wasAhead h0 h_w h_word h_ahead h_behind h_restM h_restN h_powerM h_powerN h_row c_restM c_restN v_known v_kept v_size v_high v_behindMany v_ends x2 v_round v_worthM v_worthN v_restM v_restN) H := hP
        have hD : va_D A (wd_X7_wasAhead h0 h_w h_word h_ahead h_behind h_restM h_restN h_powerM h_powerN h_row c_restM c_restN v_known v_kept v_size v_high v_behindMany v_ends x2 v_round v_worthM v_worthN v_restM v_restN) := hD
        refine lv_aload_n hx hb dX7_wasAhead_44 rfl (lv_at hl 0 rfl) ?_
        refine lv_iload_n hx hb dX7_wasAhead_45 rfl (lv_at hl 1 rfl) ?_
        refine lv_iload_n hx hb dX7_wasAhead_46 rfl (lv_at hl 2 rfl) ?_
        refine lv_isub hx hb dX7_wasAhead_47 ?_
        refine va_put (D := (dC, dI)) (ty := .int) (ci := 7) (v := .int (x1 - x2)) (C := RX7) (T := TX7) (N := 19) hx hb hts inn_X7_wasAhead_X7 tyX7 tyX7_ok nmX7 hown hK hP hD hS 0 rfl rfl 15 (by decide) (hts (.fieldLink RX7 75 "RingBasesModel" "round" "I") (List.mem_of_getElem? (i := 4) rfl)) (fun _ h9 => h9) rfl (by decide +kernel) rfl rfl (Nat.le_of_ble_eq_true rfl) dX7_wasAhead_48 (fun H locs hP hD hS => ?_)
        have hP : va_P (dC, dI) vwCl (wd_X7_wasAhead h0 h_w h_word h_ahead h_behind h_restM h_restN h_powerM h_powerN h_row c_restM c_restN v_known v_kept v_size v_high v_behindMany v_ends x2 (x1 - x2) v_worthM v_worthN v_restM v_restN) H := hP
        have hD : va_D A (wd_X7_wasAhead h0 h_w h_word h_ahead h_behind h_restM h_restN h_powerM h_powerN h_row c_restM c_restN v_known v_kept v_size v_high v_behindMany v_ends x2 (x1 - x2) v_worthM v_worthN v_restM v_restN) := hD
        refine lv_iconst (v := (1 : Int32)) hx hb dX7_wasAhead_51 (by decide) ?_
        obtain ⟨rfl, rfl, rfl⟩ := oks3 hF; exact hE _ _ _ _ hP hS (zk_n (Or.inr rfl)) dX7_wasAhead_52
      refine lv_iload_n hx hb dX7_wasAhead_2 rfl (lv_at hl 2 rfl) ?_
      refine lv_iload_n hx hb dX7_wasAhead_3 rfl (lv_at hl 1 rfl) ?_
      refine lv_icmp_ge (tgt := 59) hx hb dX7_wasAhead_4 (by decide) (fun g_1 => ?_) (fun g_1 => ?_)
      · replace hF := ite_t g_1 hF
        refine lv_iconst (v := (0 : Int32)) hx hb dX7_wasAhead_59 (by decide) ?_
        obtain ⟨rfl, rfl, rfl⟩ := oks3 hF; exact hE _ _ _ _ hP hS (zk_n (Or.inl rfl)) dX7_wasAhead_60
      · replace hF := ite_f g_1 hF
        refine lv_aload_n hx hb dX7_wasAhead_7 rfl (lv_at hl 0 rfl) ?_
        refine va_get (D := (dC, dI)) (ci := 7) (v := .ref h_restM) (C := RX7) (T := TX7) (N := 19) hx hb hts inn_X7_wasAhead_X7 hown hK hP 0 rfl rfl 9 (by decide) (hts (.fieldLink RX7 22 "RingBasesModel" "restM" "[J") (List.mem_of_getElem? (i := 1) rfl)) (fun _ h9 => h9) rfl dX7_wasAhead_8 ?_
        refine lv_iload_n hx hb dX7_wasAhead_11 rfl (lv_at hl 2 rfl) ?_
        obtain ⟨i_2, hF⟩ := ck_s hF
        refine va_lald hx hb hK hP 1 0 rfl rfl i_2 dX7_wasAhead_12 ?_
        refine lv_aload_n hx hb dX7_wasAhead_13 rfl (lv_at hl 0 rfl) ?_
        refine va_get (D := (dC, dI)) (ci := 7) (v := .ref h_restM) (C := RX7) (T := TX7) (N := 19) hx hb hts inn_X7_wasAhead_X7 hown hK hP 0 rfl rfl 9 (by decide) (hts (.fieldLink RX7 22 "RingBasesModel" "restM" "[J") (List.mem_of_getElem? (i := 1) rfl)) (fun _ h9 => h9) rfl dX7_wasAhead_14 ?_
        refine lv_iload_n hx hb dX7_wasAhead_17 rfl (lv_at hl 1 rfl) ?_
        obtain ⟨i_3, hF⟩ := ck_s hF
        refine va_lald hx hb hK hP 1 0 rfl rfl i_3 dX7_wasAhead_18 ?_
        refine W.lcmp hx hb dX7_wasAhead_19 ?_
        refine lv_if_ne (tgt := 53) hx hb dX7_wasAhead_20 (by decide) (fun g_4 => ?_) (fun g_4 => ?_)
        · replace hF := ite_f g_4 hF
          refine lv_iinc (v := (x2 + (1 : Int32))) (lv' := [(2, .int (x2 + (1 : Int32))), (0, .ref h0), (1, .int x1)]) hx hb dX7_wasAhead_53 hl (k := 2) rfl rfl (by decide) rfl (fun ls hl => ?_)
          refine lv_goto (tgt := 2) hx hb dX7_wasAhead_56 (by decide) ?_
          exact ih (x2 + (1 : Int32)) v_lead v_round hF H locs hP hS ls (lv_sub hl [1, 2, 0] rfl)
        · replace hF := ite_t g_4 hF
          refine lv_aload_n hx hb dX7_wasAhead_23 rfl (lv_at hl 0 rfl) ?_
          refine va_get (D := (dC, dI)) (ci := 7) (v := .ref h_restN) (C := RX7) (T := TX7) (N := 19) hx hb hts inn_X7_wasAhead_X7 hown hK hP 0 rfl rfl 10 (by decide) (hts (.fieldLink RX7 26 "RingBasesModel" "restN" "[J") (List.mem_of_getElem? (i := 2) rfl)) (fun _ h9 => h9) rfl dX7_wasAhead_24 ?_
          refine lv_iload_n hx hb dX7_wasAhead_27 rfl (lv_at hl 2 rfl) ?_
          refine va_lald hx hb hK hP 2 1 rfl rfl i_2 dX7_wasAhead_28 ?_
          refine lv_aload_n hx hb dX7_wasAhead_29 rfl (lv_at hl 0 rfl) ?_
          refine va_get (D := (dC, dI)) (ci := 7) (v := .ref h_restN) (C := RX7) (T := TX7) (N := 19) hx hb hts inn_X7_wasAhead_X7 hown hK hP 0 rfl rfl 10 (by decide) (hts (.fieldLink RX7 26 "RingBasesModel" "restN" "[J") (List.mem_of_getElem? (i := 2) rfl)) (fun _ h9 => h9) rfl dX7_wasAhead_30 ?_
          refine lv_iload_n hx hb dX7_wasAhead_33 rfl (lv_at hl 1 rfl) ?_
          refine va_lald hx hb hK hP 2 1 rfl rfl i_3 dX7_wasAhead_34 ?_
          refine W.lcmp hx hb dX7_wasAhead_35 ?_
          refine lv_if_ne (tgt := 53) hx hb dX7_wasAhead_36 (by decide) (fun g_5 => ?_) (fun g_5 => ?_)
          · replace hF := ite_f g_5 hF
            refine lv_iinc (v := (x2 + (1 : Int32))) (lv' := [(2, .int (x2 + (1 : Int32))), (0, .ref h0), (1, .int x1)]) hx hb dX7_wasAhead_53 hl (k := 2) rfl rfl (by decide) rfl (fun ls hl => ?_)
            refine lv_goto (tgt := 2) hx hb dX7_wasAhead_56 (by decide) ?_
            exact ih (x2 + (1 : Int32)) v_lead v_round hF H locs hP hS ls (lv_sub hl [1, 2, 0] rfl)
          · replace hF := ite_t g_5 hF
            exact k_39 x2 v_lead v_round hF H locs hP hS ls (lv_sub hl [0, 1, 2] rfl)
  refine lv_iconst (v := (0 : Int32)) hx hb dX7_wasAhead_0 (by decide) ?_
  refine lv_istore_n (lv' := [(2, .int (0 : Int32)), (0, .ref h0), (1, .int x1)]) hx hb dX7_wasAhead_1 rfl hl (by decide) rfl (fun ls hl => ?_)
  exact k_2 _ (0 : Int32) v_lead v_round hF H locs hP hS ls (lv_sub hl [1, 2, 0] rfl)
set_option maxRecDepth 100000 in
set_option maxHeartbeats 4000000 in
theorem c_X7_wasAhead (l : Launch) (dC : Nat → ClassId) (dI : Nat → Nat → Nat) (sz : Nat) (h0 h_w h_word h_ahead h_behind h_restM h_restN h_powerM h_powerN h_row : Nat) (c_restM c_restN : ClassId) (v_known : Int32) (v_kept : Int32) (v_size : Int32) (v_high : Int32) (v_behindMany : Int32) (v_ends : Int32) (v_lead : Int32) (v_round : Int32) (v_worthM : Int64) (v_worthN : Int64) (v_restM : (Nat → Int64)) (v_restN : (Nat → Int64)) (x1 : Int32) (o : Int32 × Int32 × Int32) (hF : F_X7_wasAhead x1 v_lead v_round v_restM v_restN = some o) : Met l yX7_wasAhead wsX7_wasAhead rm_X7_wasAhead (va_Pc [.ref h0, .int x1] (PcW dC dI sz (wd_X7_wasAhead h0 h_w h_word h_ahead h_behind h_restM h_restN h_powerM h_powerN h_row c_restM c_restN v_known v_kept v_size v_high v_behindMany v_ends v_lead v_round v_worthM v_worthN v_restM v_restN) [(c_restM, .long), (c_restN, .long)])) (va_Qi (fun (r : Int32) (_ : Unit) => r = o.1) (fun _ t => va_P (dC, dI) vwCl (wd_X7_wasAhead h0 h_w h_word h_ahead h_behind h_restM h_restN h_powerM h_powerN h_row c_restM c_restN v_known v_kept v_size v_high v_behindMany v_ends o.2.1 o.2.2 v_worthM v_worthN v_restM v_restN) t.heap) (va_A (wd_X7_wasAhead h0 h_w h_word h_ahead h_behind h_restM h_restN h_powerM h_powerN h_row c_restM c_restN v_known v_kept v_size v_high v_behindMany v_ends v_lead v_round v_worthM v_worthN v_restM v_restN) sz)) 0 0 (va_A (wd_X7_wasAhead h0 h_w h_word h_ahead h_behind h_restM h_restN h_powerM h_powerN h_row c_restM c_restN v_known v_kept v_size v_high v_behindMany v_ends v_lead v_round v_worthM v_worthN v_restM v_restN) sz) := by
  refine Met.ofW (cc := cX7_wasAhead) (maxL := 3) (ret := (some .boolean)) (by decide) rfl ?_
  intro p e s m args below meth c s₁ B hml hv
  obtain ⟨rfl, hsz, hP, hK, hD0, hN⟩ := hv
  subst hsz
  have hl := lv_entry ([.ref h0, .int x1]) (n := 3) (Nat.le_of_ble_eq_true rfl)
  rw [lg_entry_eq]
  generalize (lg_sl ([.ref h0, .int x1]) ++ List.replicate (3 - (lg_sl ([.ref h0, .int x1])).length) Slot.unset).toArray = ls at hl ⊢
  exact b_X7_wasAhead h0 h_w h_word h_ahead h_behind h_restM h_restN h_powerM h_powerN h_row c_restM c_restN v_known v_kept v_size v_high v_behindMany v_ends v_lead v_round v_worthM v_worthN v_restM v_restN x1 o.1 o.2.1 o.2.2 hF ⟨B.exec, B.bytes, hml, findClass_of_methodNamed B.named, atoms_spec (ws := wsX7_wasAhead) B.pre⟩ hN hK hP (fun q h => Or.inr h) (hD0.self (sz := s.heap.size)) va_S.rf (fun H locs ls pc hP hS hn hd => W.zret B.exec B.bytes B.returns hn (fun t ht hW => ⟨⟨_, (), rfl, rfl, by show va_P (dC, dI) vwCl _ t.heap; rw [ht]; exact hP⟩, hS.F ht⟩) hS.2.2 hd B.notSynchronized) hl
