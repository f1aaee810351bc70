abbrev wd_X0_canBe : va_W := []
abbrev rm_X0_canBe : Room := { frames := 0, cells := 0, slots := 0, locals := 0 }
def F_X0_canBe (x0 : Int32) (x1 : Int32) : Int32 := (if x0 < (1 : Int32) then (0 : Int32) else (if x0 ≤ (9 : Int32) then (if x1 < (1 : Int32) then (if (-1 : Int32) < x1 then (0 : Int32) else (if x1 < ((2 : Int32) - x0) then (0 : Int32) else (1 : Int32))) else (if x1 ≤ x0 then (1 : Int32) else (if (-1 : Int32) < x1 then (0 : Int32) else (if x1 < ((2 : Int32) - x0) then (0 : Int32) else (1 : Int32))))) else (0 : Int32)))
theorem B_X0_canBe (x0 : Int32) (x1 : Int32) : narrow .boolean (.int (F_X0_canBe x0 x1)) = .int (F_X0_canBe x0 x1) := by
  unfold F_X0_canBe
  repeat' split
  all_goals first | rfl | exact B_X7_in _ _ _
set_option maxRecDepth 100000 in
set_option maxHeartbeats 4000000 in
theorem b_X0_canBe {p : Program} {l : Launch} {e : Env} {s : State} {m : MethodId} {args : Array Value} {below : List Frame} {meth : Method} {c : Code} {Q : State → Prop} {dC : Nat → ClassId} {dI : Nat → Nat → Nat} {H : Heap} {locs : List Loc} {ls : Array Slot} (x0 : Int32) (x1 : Int32) (ou0 : Int32) (hF : F_X0_canBe x0 x1 = ou0) (hC : CallFix p m c cX0_canBe 2 s args wsX0_canBe RX0) (hN : NW s) (hK : va_K (dC, dI) vwCl [] s) (hP : va_P (dC, dI) vwCl wd_X0_canBe H) (hE : ∀ (ls : Array Slot) (pc : Nat), narrow .boolean (.int ou0) = .int ou0 → decode cX0_canBe pc = .ok (.ireturn, 1) → W p l e rm_X0_canBe s m args below meth c H locs 0 0 Q (F0 m pc ls [.int ou0])) (hl : lv_has ls 2 [(0, .int x0), (1, .int x1)]) : W p l e rm_X0_canBe s m args below meth c H locs 0 0 Q (F0 m 0 ls []) := by
  obtain ⟨hx, hb, hml, hown, hts⟩ := id hC
  unfold F_X0_canBe at hF
  refine lv_iload_n hx hb dX0_canBe_0 rfl (lv_at hl 0 rfl) ?_
  refine lv_iconst (v := (1 : Int32)) hx hb dX0_canBe_1 (by decide) ?_
  refine lv_icmp_lt (tgt := 11) hx hb dX0_canBe_2 (by decide) (fun g_1 => ?_) (fun g_1 => ?_)
  · replace hF := ite_t g_1 hF
    refine lv_iconst (v := (0 : Int32)) hx hb dX0_canBe_11 (by decide) ?_
    obtain rfl := hF; exact hE _ _ (zk_n (Or.inl rfl)) dX0_canBe_12
  · replace hF := ite_f g_1 hF
    refine lv_iload_n hx hb dX0_canBe_5 rfl (lv_at hl 0 rfl) ?_
    refine lv_bipush (v := (9 : Int32)) hx hb dX0_canBe_6 (by decide) ?_
    refine lv_icmp_le (tgt := 13) hx hb dX0_canBe_8 (by decide) (fun g_2 => ?_) (fun g_2 => ?_)
    · replace hF := ite_t g_2 hF
      refine lv_iload_n hx hb dX0_canBe_13 rfl (lv_at hl 1 rfl) ?_
      refine lv_iconst (v := (1 : Int32)) hx hb dX0_canBe_14 (by decide) ?_
      refine lv_icmp_lt (tgt := 23) hx hb dX0_canBe_15 (by decide) (fun g_3 => ?_) (fun g_3 => ?_)
      · replace hF := ite_t g_3 hF
        refine lv_iload_n hx hb dX0_canBe_23 rfl (lv_at hl 1 rfl) ?_
        refine lv_iconst (v := (-1 : Int32)) hx hb dX0_canBe_24 (by decide) ?_
        refine lv_icmp_gt (tgt := 39) hx hb dX0_canBe_25 (by decide) (fun g_4 => ?_) (fun g_4 => ?_)
        · replace hF := ite_t g_4 hF
          refine lv_iconst (v := (0 : Int32)) hx hb dX0_canBe_39 (by decide) ?_
          obtain rfl := hF; exact hE _ _ (zk_n (Or.inl rfl)) dX0_canBe_40
        · replace hF := ite_f g_4 hF
          refine lv_iload_n hx hb dX0_canBe_28 rfl (lv_at hl 1 rfl) ?_
          refine lv_iconst (v := (2 : Int32)) hx hb dX0_canBe_29 (by decide) ?_
          refine lv_iload_n hx hb dX0_canBe_30 rfl (lv_at hl 0 rfl) ?_
          refine lv_isub hx hb dX0_canBe_31 ?_
          refine lv_icmp_lt (tgt := 39) hx hb dX0_canBe_32 (by decide) (fun g_5 => ?_) (fun g_5 => ?_)
          · replace hF := ite_t g_5 hF
            refine lv_iconst (v := (0 : Int32)) hx hb dX0_canBe_39 (by decide) ?_
            obtain rfl := hF; exact hE _ _ (zk_n (Or.inl rfl)) dX0_canBe_40
          · replace hF := ite_f g_5 hF
            refine lv_iconst (v := (1 : Int32)) hx hb dX0_canBe_35 (by decide) ?_
            refine lv_goto (tgt := 40) hx hb dX0_canBe_36 (by decide) ?_
            obtain rfl := hF; exact hE _ _ (zk_n (Or.inr rfl)) dX0_canBe_40
      · replace hF := ite_f g_3 hF
        refine lv_iload_n hx hb dX0_canBe_18 rfl (lv_at hl 1 rfl) ?_
        refine lv_iload_n hx hb dX0_canBe_19 rfl (lv_at hl 0 rfl) ?_
        refine lv_icmp_le (tgt := 35) hx hb dX0_canBe_20 (by decide) (fun g_6 => ?_) (fun g_6 => ?_)
        · replace hF := ite_t g_6 hF
          refine lv_iconst (v := (1 : Int32)) hx hb dX0_canBe_35 (by decide) ?_
          refine lv_goto (tgt := 40) hx hb dX0_canBe_36 (by decide) ?_
          obtain rfl := hF; exact hE _ _ (zk_n (Or.inr rfl)) dX0_canBe_40
        · replace hF := ite_f g_6 hF
          refine lv_iload_n hx hb dX0_canBe_23 rfl (lv_at hl 1 rfl) ?_
          refine lv_iconst (v := (-1 : Int32)) hx hb dX0_canBe_24 (by decide) ?_
          refine lv_icmp_gt (tgt := 39) hx hb dX0_canBe_25 (by decide) (fun g_7 => ?_) (fun g_7 => ?_)
          · replace hF := ite_t g_7 hF
            refine lv_iconst (v := (0 : Int32)) hx hb dX0_canBe_39 (by decide) ?_
            obtain rfl := hF; exact hE _ _ (zk_n (Or.inl rfl)) dX0_canBe_40
          · replace hF := ite_f g_7 hF
            refine lv_iload_n hx hb dX0_canBe_28 rfl (lv_at hl 1 rfl) ?_
            refine lv_iconst (v := (2 : Int32)) hx hb dX0_canBe_29 (by decide) ?_
            refine lv_iload_n hx hb dX0_canBe_30 rfl (lv_at hl 0 rfl) ?_
            refine lv_isub hx hb dX0_canBe_31 ?_
            refine lv_icmp_lt (tgt := 39) hx hb dX0_canBe_32 (by decide) (fun g_8 => ?_) (fun g_8 => ?_)
            · replace hF := ite_t g_8 hF
              refine lv_iconst (v := (0 : Int32)) hx hb dX0_canBe_39 (by decide) ?_
              obtain rfl := hF; exact hE _ _ (zk_n (Or.inl rfl)) dX0_canBe_40
            · replace hF := ite_f g_8 hF
              refine lv_iconst (v := (1 : Int32)) hx hb dX0_canBe_35 (by decide) ?_
              refine lv_goto (tgt := 40) hx hb dX0_canBe_36 (by decide) ?_
              obtain rfl := hF; exact hE _ _ (zk_n (Or.inr rfl)) dX0_canBe_40
    · replace hF := ite_f g_2 hF
      refine lv_iconst (v := (0 : Int32)) hx hb dX0_canBe_11 (by decide) ?_
      obtain rfl := hF; exact hE _ _ (zk_n (Or.inl rfl)) dX0_canBe_12
set_option maxRecDepth 100000 in
set_option maxHeartbeats 4000000 in
theorem c_X0_canBe (l : Launch) (dC : Nat → ClassId) (dI : Nat → Nat → Nat) (x0 : Int32) (x1 : Int32) (o : Int32) (hF : F_X0_canBe x0 x1 = o) : Met l yX0_canBe wsX0_canBe rm_X0_canBe (va_Pc [.int x0, .int x1] (PcR dC dI wd_X0_canBe [])) (vp_Si (fun r => r = o)) 0 0 (fun _ => False) := by
  refine Met.ofW (cc := cX0_canBe) (maxL := 2) (ret := (some .boolean)) (by decide) rfl ?_
  intro p e s m args below meth c s₁ B hml hv
  obtain ⟨rfl, hP, hK, hN⟩ := hv
  have hl := lv_entry ([.int x0, .int x1]) (n := 2) (Nat.le_of_ble_eq_true rfl)
  rw [lg_entry_eq]
  generalize (lg_sl ([.int x0, .int x1]) ++ List.replicate (2 - (lg_sl ([.int x0, .int x1])).length) Slot.unset).toArray = ls at hl ⊢
  exact b_X0_canBe x0 x1 o hF ⟨B.exec, B.bytes, hml, findClass_of_methodNamed B.named, atoms_spec (ws := wsX0_canBe) B.pre⟩ hN hK hP (fun ls pc hn hd => W.zret B.exec B.bytes B.returns hn (fun t ht hW => ⟨_, rfl, rfl, ht⟩) (fun q h => by cases h) hd B.notSynchronized) hl
theorem inn_X0_become_X0 : ∀ w ∈ wsX00, w ∈ wsX0_become := fun _ h => List.mem_cons_of_mem _ (List.mem_append_right _ h)
abbrev wd_X0_become (h0 : Nat) (v_a : Int32) (v_b : Int32) : va_W := [(h0, .inr (0, [.int v_a, .int v_b]))]
abbrev rm_X0_become : Room := { frames := 0, cells := 0, slots := 0, locals := 0 }
def F_X0_become (x1 : Int32) (x2 : Int32) : Int32 × Int32 := (x1, x2)
set_option maxRecDepth 100000 in
set_option maxHeartbeats 4000000 in
theorem b_X0_become {p : Program} {l : Launch} {e : Env} {s : State} {m : MethodId} {args : Array Value} {below : List Frame} {meth : Method} {c : Code} {Q : State → Prop} {dC : Nat → ClassId} {dI : Nat → Nat → Nat} {H : Heap} {locs : List Loc} {ls : Array Slot} {A : Nat → Prop} (h0 : Nat) (v_a : Int32) (v_b : Int32) (x1 : Int32) (x2 : Int32) (ou0 : Int32) (ou1 : Int32) (hF : F_X0_become x1 x2 = (ou0, ou1)) (hC : CallFix p m c cX0_become 3 s args wsX0_become RX0) (hN : NW s) (hK : va_K (dC, dI) vwCl [] s) (hP : va_P (dC, dI) vwCl (wd_X0_become h0 v_a v_b) H) (hA : ∀ q, s.heap.size ≤ q → A q) (hD : va_D A (wd_X0_become h0 v_a v_b)) (hS : va_S A s.heap H locs) (hE : ∀ (H : Heap) (locs : List Loc) (ls : Array Slot) (pc : Nat), va_P (dC, dI) vwCl (wd_X0_become h0 ou0 ou1) H → va_S A s.heap H locs → decode cX0_become pc = .ok (.return_, 1) → W p l e rm_X0_become s m args below meth c H locs 0 0 Q (F0 m pc ls [])) (hl : lv_has ls 3 [(0, .ref h0), (1, .int x1), (2, .int x2)]) : W p l e rm_X0_become s m args below meth c H locs 0 0 Q (F0 m 0 ls []) := by
  obtain ⟨hx, hb, hml, hown, hts⟩ := id hC
  have hD0 := hD
  unfold F_X0_become at hF
  refine lv_aload_n hx hb dX0_become_0 rfl (lv_at hl 0 rfl) ?_
  refine lv_iload_n hx hb dX0_become_1 rfl (lv_at hl 1 rfl) ?_
  refine va_put (D := (dC, dI)) (ty := .int) (ci := 0) (v := .int x1) (C := RX0) (T := TX0) (N := 2) hx hb hts inn_X0_become_X0 tyX0 tyX0_ok nmX0 hown hK hP hD hS 0 rfl rfl 0 (by decide) (hts (.fieldLink RX0 9 "RingBases$Base" "a" "I") (List.mem_of_getElem? (i := 1) rfl)) (fun _ h9 => h9) rfl (by decide +kernel) rfl rfl (Nat.le_of_ble_eq_true rfl) dX0_become_2 (fun H locs hP hD hS => ?_)
  have hP : va_P (dC, dI) vwCl (wd_X0_become h0 x1 v_b) H := hP
  have hD : va_D A (wd_X0_become h0 x1 v_b) := hD
  refine lv_aload_n hx hb dX0_become_5 rfl (lv_at hl 0 rfl) ?_
  refine lv_iload_n hx hb dX0_become_6 rfl (lv_at hl 2 rfl) ?_
  refine va_put (D := (dC, dI)) (ty := .int) (ci := 0) (v := .int x2) (C := RX0) (T := TX0) (N := 2) hx hb hts inn_X0_become_X0 tyX0 tyX0_ok nmX0 hown hK hP hD hS 0 rfl rfl 1 (by decide) (hts (.fieldLink RX0 15 "RingBases$Base" "b" "I") (List.mem_of_getElem? (i := 2) rfl)) (fun _ h9 => h9) rfl (by decide +kernel) rfl rfl (Nat.le_of_ble_eq_true rfl) dX0_become_7 (fun H locs hP hD hS => ?_)
  have hP : va_P (dC, dI) vwCl (wd_X0_become h0 x1 x2) H := hP
  have hD : va_D A (wd_X0_become h0 x1 x2) := hD
  obtain ⟨rfl, rfl⟩ := okt2 hF; exact hE _ _ _ _ hP hS dX0_become_10
set_option maxRecDepth 100000 in
set_option maxHeartbeats 4000000 in
theorem c_X0_become (l : Launch) (dC : Nat → ClassId) (dI : Nat → Nat → Nat) (sz : Nat) (h0 : Nat) (v_a : Int32) (v_b : Int32) (x1 : Int32) (x2 : Int32) (o : Int32 × Int32) (hF : F_X0_become x1 x2 = o) : Met l yX0_become wsX0_become rm_X0_become (va_Pc [.ref h0, .int x1, .int x2] (PcW dC dI sz (wd_X0_become h0 v_a v_b) [])) (va_Qv (fun (_ : Unit) => True) (fun _ t => va_P (dC, dI) vwCl (wd_X0_become h0 o.1 o.2) t.heap) (va_A (wd_X0_become h0 v_a v_b) sz)) 0 0 (va_A (wd_X0_become h0 v_a v_b) sz) := by
  refine Met.ofW (cc := cX0_become) (maxL := 3) (ret := none) (by decide) rfl ?_
  intro p e s m args below meth c s₁ B hml hv
  obtain ⟨rfl, hsz, hP, hK, hD0, hN⟩ := hv
  subst hsz
  have hl := lv_entry ([.ref h0, .int x1, .int x2]) (n := 3) (Nat.le_of_ble_eq_true rfl)
  rw [lg_entry_eq]
  generalize (lg_sl ([.ref h0, .int x1, .int x2]) ++ List.replicate (3 - (lg_sl ([.ref h0, .int x1, .int x2])).length) Slot.unset).toArray = ls at hl ⊢
  exact b_X0_become h0 v_a v_b x1 x2 o.1 o.2 hF ⟨B.exec, B.bytes, hml, findClass_of_methodNamed B.named, atoms_spec (ws := wsX0_become) B.pre⟩ hN hK hP (fun q h => Or.inr h) (hD0.self (sz := s.heap.size)) va_S.rf (fun H locs ls pc hP hS hd => W.vret B.exec B.bytes B.returns (fun t ht hW => ⟨⟨(), rfl, trivial, by show va_P (dC, dI) vwCl _ t.heap; rw [ht]; exact hP⟩, hS.F ht⟩) hS.2.2 hd B.notSynchronized) hl
theorem inn_X0_top_X0 : ∀ w ∈ wsX00, w ∈ wsX0_top := fun _ h => List.mem_cons_of_mem _ (List.mem_append_right _ h)
abbrev wd_X0_top (h0 : Nat) (v_a : Int32) (v_b : Int32) : va_W := [(h0, .inr (0, [.int v_a, .int v_b]))]
abbrev rm_X0_top : Room := { frames := 0, cells := 0, slots := 0, locals := 0 }
def F_X0_top (v_a : Int32) (v_b : Int32) : Int32 := (if v_b ≤ 0 then (v_a - (1 : Int32)) else v_a)
set_option maxRecDepth 100000 in
set_option maxHeartbeats 4000000 in
theorem b_X0_top {p : Program} {l : Launch} {e : Env} {s : State} {m : MethodId} {args : Array Value} {below : List Frame} {meth : Method} {c : Code} {Q : State → Prop} {dC : Nat → ClassId} {dI : Nat → Nat → Nat} {H : Heap} {locs : List Loc} {ls : Array Slot} (h0 : Nat) (v_a : Int32) (v_b : Int32) (ou0 : Int32) (hF : F_X0_top v_a v_b = ou0) (hC : CallFix p m c cX0_top 1 s args wsX0_top RX0) (hN : NW s) (hK : va_K (dC, dI) vwCl [] s) (hP : va_P (dC, dI) vwCl (wd_X0_top h0 v_a v_b) H) (hE : ∀ (ls : Array Slot) (pc : Nat), decode cX0_top pc = .ok (.ireturn, 1) → W p l e rm_X0_top s m args below meth c H locs 0 0 Q (F0 m pc ls [.int ou0])) (hl : lv_has ls 1 [(0, .ref h0)]) : W p l e rm_X0_top s m args below meth c H locs 0 0 Q (F0 m 0 ls []) := by
  obtain ⟨hx, hb, hml, hown, hts⟩ := id hC
  unfold F_X0_top at hF
  refine lv_aload_n hx hb dX0_top_0 rfl (lv_at hl 0 rfl) ?_
  refine va_get (D := (dC, dI)) (ci := 0) (v := .int v_b) (C := RX0) (T := TX0) (N := 2) hx hb hts inn_X0_top_X0 hown hK hP 0 rfl rfl 1 (by decide) (hts (.fieldLink RX0 15 "RingBases$Base" "b" "I") (List.mem_of_getElem? (i := 1) rfl)) (fun _ h9 => h9) rfl dX0_top_1 ?_
  refine lv_if_le (tgt := 14) hx hb dX0_top_4 (by decide) (fun g_1 => ?_) (fun g_1 => ?_)
  · replace hF := ite_t g_1 hF
    refine lv_aload_n hx hb dX0_top_14 rfl (lv_at hl 0 rfl) ?_
    refine va_get (D := (dC, dI)) (ci := 0) (v := .int v_a) (C := RX0) (T := TX0) (N := 2) hx hb hts inn_X0_top_X0 hown hK hP 0 rfl rfl 0 (by decide) (hts (.fieldLink RX0 9 "RingBases$Base" "a" "I") (List.mem_of_getElem? (i := 2) rfl)) (fun _ h9 => h9) rfl dX0_top_15 ?_
    refine lv_iconst (v := (1 : Int32)) hx hb dX0_top_18 (by decide) ?_
    refine lv_isub hx hb dX0_top_19 ?_
    obtain rfl := hF; exact hE _ _ dX0_top_20
  · replace hF := ite_f g_1 hF
    refine lv_aload_n hx hb dX0_top_7 rfl (lv_at hl 0 rfl) ?_
    refine va_get (D := (dC, dI)) (ci := 0) (v := .int v_a) (C := RX0) (T := TX0) (N := 2) hx hb hts inn_X0_top_X0 hown hK hP 0 rfl rfl 0 (by decide) (hts (.fieldLink RX0 9 "RingBases$Base" "a" "I") (List.mem_of_getElem? (i := 2) rfl)) (fun _ h9 => h9) rfl dX0_top_8 ?_
    refine lv_goto (tgt := 20) hx hb dX0_top_11 (by decide) ?_
    obtain rfl := hF; exact hE _ _ dX0_top_20
set_option maxRecDepth 100000 in
set_option maxHeartbeats 4000000 in
theorem c_X0_top (l : Launch) (dC : Nat → ClassId) (dI : Nat → Nat → Nat) (h0 : Nat) (v_a : Int32) (v_b : Int32) (o : Int32) (hF : F_X0_top v_a v_b = o) : Met l yX0_top wsX0_top rm_X0_top (va_Pc [.ref h0] (PcR dC dI (wd_X0_top h0 v_a v_b) [])) (vp_Si (fun r => r = o)) 0 0 (fun _ => False) := by
  refine Met.ofW (cc := cX0_top) (maxL := 1) (ret := (some .int)) (by decide) rfl ?_
  intro p e s m args below meth c s₁ B hml hv
  obtain ⟨rfl, hP, hK, hN⟩ := hv
  have hl := lv_entry ([.ref h0]) (n := 1) (Nat.le_of_ble_eq_true rfl)
  rw [lg_entry_eq]
  generalize (lg_sl ([.ref h0]) ++ List.replicate (1 - (lg_sl ([.ref h0])).length) Slot.unset).toArray = ls at hl ⊢
  exact b_X0_top h0 v_a v_b o hF ⟨B.exec, B.bytes, hml, findClass_of_methodNamed B.named, atoms_spec (ws := wsX0_top) B.pre⟩ hN hK hP (fun ls pc hd => W.iret B.exec B.bytes B.returns (fun t ht hW => ⟨_, rfl, rfl, ht⟩) (fun q h => by cases h) hd B.notSynchronized) hl
abbrev wd_J13_compare_74951 : va_W := []
abbrev rm_J13_compare_74951 : Room := { frames := 0, cells := 0, slots := 0, locals := 0 }
def F_J13_compare_74951 (x0 : Int64) (x2 : Int64) : Int32 := (if 0 ≤ (lg_cmp x0 x2) then (if (lg_cmp x0 x2) = 0 then (0 : Int32) else (1 : Int32)) else (-1 : Int32))
set_option maxRecDepth 100000 in
set_option maxHeartbeats 4000000 in
theorem b_J13_compare_74951 {p : Program} {l : Launch} {e : Env} {s : State} {m : MethodId} {args : Array Value} {below : List Frame} {meth : Method} {c : Code} {Q : State → Prop} {dC : Nat → ClassId} {dI : Nat → Nat → Nat} {H : Heap} {locs : List Loc} {ls : Array Slot} (x0 : Int64) (x2 : Int64) (ou0 : Int32) (hF : F_J13_compare_74951 x0 x2 = ou0) (hC : CallFix p m c cJ13_compare_74951 4 s args wsJ13_compare_74951 RJ13) (hN : NW s) (hK : va_K (dC, dI) vwCl [] s) (hP : va_P (dC, dI) vwCl wd_J13_compare_74951 H) (hE : ∀ (ls : Array Slot) (pc : Nat), decode cJ13_compare_74951 pc = .ok (.ireturn, 1) → W p l e rm_J13_compare_74951 s m args below meth c H locs 0 0 Q (F0 m pc ls [.int ou0])) (hl : lv_has ls 4 [(0, .long x0), (2, .long x2)]) : W p l e rm_J13_compare_74951 s m args below meth c H locs 0 0 Q (F0 m 0 ls []) := by
  obtain ⟨hx, hb, hml, hown, hts⟩ := id hC
  unfold F_J13_compare_74951 at hF
  refine lv_lload_n hx hb dJ13_compare_74951_0 rfl (lv_at hl 0 rfl) ?_
  refine lv_lload_n hx hb dJ13_compare_74951_1 rfl (lv_at hl 1 rfl) ?_
  refine W.lcmp hx hb dJ13_compare_74951_2 ?_
  refine lv_if_ge (tgt := 10) hx hb dJ13_compare_74951_3 (by decide) (fun g_1 => ?_) (fun g_1 => ?_)
  · replace hF := ite_t g_1 hF
    refine lv_lload_n hx hb dJ13_compare_74951_10 rfl (lv_at hl 0 rfl) ?_
    refine lv_lload_n hx hb dJ13_compare_74951_11 rfl (lv_at hl 1 rfl) ?_
    refine W.lcmp hx hb dJ13_compare_74951_12 ?_
    refine lv_if_ne (tgt := 20) hx hb dJ13_compare_74951_13 (by decide) (fun g_2 => ?_) (fun g_2 => ?_)
    · replace hF := ite_f g_2 hF
      refine lv_iconst (v := (1 : Int32)) hx hb dJ13_compare_74951_20 (by decide) ?_
      obtain rfl := hF; exact hE _ _ dJ13_compare_74951_21
    · replace hF := ite_t g_2 hF
      refine lv_iconst (v := (0 : Int32)) hx hb dJ13_compare_74951_16 (by decide) ?_
      refine lv_goto (tgt := 21) hx hb dJ13_compare_74951_17 (by decide) ?_
      obtain rfl := hF; exact hE _ _ dJ13_compare_74951_21
  · replace hF := ite_f g_1 hF
    refine lv_iconst (v := (-1 : Int32)) hx hb dJ13_compare_74951_6 (by decide) ?_
    refine lv_goto (tgt := 21) hx hb dJ13_compare_74951_7 (by decide) ?_
    obtain rfl := hF; exact hE _ _ dJ13_compare_74951_21
set_option maxRecDepth 100000 in
set_option maxHeartbeats 4000000 in
theorem c_J13_compare_74951 (l : Launch) (dC : Nat → ClassId) (dI : Nat → Nat → Nat) (x0 : Int64) (x2 : Int64) (o : Int32) (hF : F_J13_compare_74951 x0 x2 = o) : Met l yJ13_compare_74951 wsJ13_compare_74951 rm_J13_compare_74951 (va_Pc [.long x0, .long x2] (PcR dC dI wd_J13_compare_74951 [])) (vp_Si (fun r => r = o)) 0 0 (fun _ => False) := by
  refine Met.ofW (cc := cJ13_compare_74951) (maxL := 4) (ret := (some .int)) (by decide) rfl ?_
  intro p e s m args below meth c s₁ B hml hv
  obtain ⟨rfl, hP, hK, hN⟩ := hv
  have hl := lv_entry ([.long x0, .long x2]) (n := 4) (Nat.le_of_ble_eq_true rfl)
  rw [lg_entry_eq]
  generalize (lg_sl ([.long x0, .long x2]) ++ List.replicate (4 - (lg_sl ([.long x0, .long x2])).length) Slot.unset).toArray = ls at hl ⊢
  exact b_J13_compare_74951 x0 x2 o hF ⟨B.exec, B.bytes, hml, findClass_of_methodNamed B.named, atoms_spec (ws := wsJ13_compare_74951) B.pre⟩ hN hK hP (fun ls pc hd => W.iret B.exec B.bytes B.returns (fun t ht hW => ⟨_, rfl, rfl, ht⟩) (fun q h => by cases h) hd B.notSynchronized) hl
theorem inn_X0_rootsApartSquared_X0 : ∀ w ∈ wsX00, w ∈ wsX0_rootsApartSquared := fun _ h => List.mem_cons_of_mem _ (List.mem_append_right _ h)
abbrev wd_X0_rootsApartSquared (h0 : Nat) (v_a : Int32) (v_b : Int32) : va_W := [(h0, .inr (0, [.int v_a, .int v_b]))]
abbrev rm_X0_rootsApartSquared : Room := { frames := 0, cells := 0, slots := 0, locals := 0 }
def F_X0_rootsApartSquared (v_a : Int32) (v_b : Int32) : Int64 := ((v_a.toInt64 * v_a.toInt64) + ((4 : Int64) * v_b.toInt64))
set_option maxRecDepth 100000 in
set_option maxHeartbeats 4000000 in
theorem b_X0_rootsApartSquared {p : Program} {l : Launch} {e : Env} {s : State} {m : MethodId} {args : Array Value} {below : List Frame} {meth : Method} {c : Code} {Q : State → Prop} {dC : Nat → ClassId} {dI : Nat → Nat → Nat} {H : Heap} {locs : List Loc} {ls : Array Slot} (h0 : Nat) (v_a : Int32) (v_b : Int32) (ou0 : Int64) (hF : F_X0_rootsApartSquared v_a v_b = ou0) (hC : CallFix p m c cX0_rootsApartSquared 1 s args wsX0_rootsApartSquared RX0) (hN : NW s) (hK : va_K (dC, dI) vwCl [] s) (hP : va_P (dC, dI) vwCl (wd_X0_rootsApartSquared h0 v_a v_b) H) (hE : ∀ (ls : Array Slot) (pc : Nat), decode cX0_rootsApartSquared pc = .ok (.lreturn, 1) → W p l e rm_X0_rootsApartSquared s m args below meth c H locs 0 0 Q (F0 m pc ls [.long ou0])) (hl : lv_has ls 1 [(0, .ref h0)]) : W p l e rm_X0_rootsApartSquared s m args below meth c H locs 0 0 Q (F0 m 0 ls []) := by
  obtain ⟨hx, hb, hml, hown, hts⟩ := id hC
  unfold F_X0_rootsApartSquared at hF
  refine lv_aload_n hx hb dX0_rootsApartSquared_0 rfl (lv_at hl 0 rfl) ?_
  refine va_get (D := (dC, dI)) (ci := 0) (v := .int v_a) (C := RX0) (T := TX0) (N := 2) hx hb hts inn_X0_rootsApartSquared_X0 hown hK hP 0 rfl rfl 0 (by decide) (hts (.fieldLink RX0 9 "RingBases$Base" "a" "I") (List.mem_of_getElem? (i := 1) rfl)) (fun _ h9 => h9) rfl dX0_rootsApartSquared_1 ?_
  refine lv_i2l hx hb dX0_rootsApartSquared_4 rfl ?_
  refine lv_aload_n hx hb dX0_rootsApartSquared_5 rfl (lv_at hl 0 rfl) ?_
  refine va_get (D := (dC, dI)) (ci := 0) (v := .int v_a) (C := RX0) (T := TX0) (N := 2) hx hb hts inn_X0_rootsApartSquared_X0 hown hK hP 0 rfl rfl 0 (by decide) (hts (.fieldLink RX0 9 "RingBases$Base" "a" "I") (List.mem_of_getElem? (i := 1) rfl)) (fun _ h9 => h9) rfl dX0_rootsApartSquared_6 ?_
  refine lv_i2l hx hb dX0_rootsApartSquared_9 rfl ?_
  refine lv_lmul hx hb dX0_rootsApartSquared_10 ?_
  refine lv_ldc2 (v := (4 : Int64)) hx hb hown (hts (.constantLong RX0 18 (4)) (List.mem_of_getElem? (i := 2) rfl)) dX0_rootsApartSquared_11 ?_
  refine lv_aload_n hx hb dX0_rootsApartSquared_14 rfl (lv_at hl 0 rfl) ?_
  refine va_get (D := (dC, dI)) (ci := 0) (v := .int v_b) (C := RX0) (T := TX0) (N := 2) hx hb hts inn_X0_rootsApartSquared_X0 hown hK hP 0 rfl rfl 1 (by decide) (hts (.fieldLink RX0 15 "RingBases$Base" "b" "I") (List.mem_of_getElem? (i := 3) rfl)) (fun _ h9 => h9) rfl dX0_rootsApartSquared_15 ?_
  refine lv_i2l hx hb dX0_rootsApartSquared_18 rfl ?_
  refine lv_lmul hx hb dX0_rootsApartSquared_19 ?_
  refine lv_ladd hx hb dX0_rootsApartSquared_20 ?_
  obtain rfl := hF; exact hE _ _ dX0_rootsApartSquared_21
set_option maxRecDepth 100000 in
set_option maxHeartbeats 4000000 in
theorem c_X0_rootsApartSquared (l : Launch) (dC : Nat → ClassId) (dI : Nat → Nat → Nat) (h0 : Nat) (v_a : Int32) (v_b : Int32) (o : Int64) (hF : F_X0_rootsApartSquared v_a v_b = o) : Met l yX0_rootsApartSquared wsX0_rootsApartSquared rm_X0_rootsApartSquared (va_Pc [.ref h0] (PcR dC dI (wd_X0_rootsApartSquared h0 v_a v_b) [])) (vp_Sl (fun r => r = o)) 0 0 (fun _ => False) := by
  refine Met.ofW (cc := cX0_rootsApartSquared) (maxL := 1) (ret := (some .long)) (by decide) rfl ?_
  intro p e s m args below meth c s₁ B hml hv
  obtain ⟨rfl, hP, hK, hN⟩ := hv
  have hl := lv_entry ([.ref h0]) (n := 1) (Nat.le_of_ble_eq_true rfl)
  rw [lg_entry_eq]
  generalize (lg_sl ([.ref h0]) ++ List.replicate (1 - (lg_sl ([.ref h0])).length) Slot.unset).toArray = ls at hl ⊢
  exact b_X0_rootsApartSquared h0 v_a v_b o hF ⟨B.exec, B.bytes, hml, findClass_of_methodNamed B.named, atoms_spec (ws := wsX0_rootsApartSquared) B.pre⟩ hN hK hP (fun ls pc hd => W.lret B.exec B.bytes B.returns (fun t ht hW => ⟨_, rfl, rfl, ht⟩) (fun q h => by cases h) hd B.notSynchronized) hl
theorem inn_X0_sign_X0 : ∀ w ∈ wsX00, w ∈ wsX0_sign := fun _ h => List.mem_cons_of_mem _ (List.mem_append_right _ h)
abbrev wd_X0_sign (h0 : Nat) (v_a : Int32) (v_b : Int32) : va_W := [(h0, .inr (0, [.int v_a, .int v_b]))]
abbrev rm_X0_sign : Room := { frames := 1, cells := 0, slots := 0, locals := 23 }
def F_X0_sign (x1 : Int64) (x3 : Int64) (v_a : Int32) (v_b : Int32) : Int32 := (if (F_J13_compare_74951 x3 (0 : Int64)) = 0 then (F_J13_compare_74951 (((2 : Int64) * x1) + (x3 * v_a.toInt64)) (0 : Int64)) else (if (F_J13_compare_74951 x3 (0 : Int64)) = (F_J13_compare_74951 (((2 : Int64) * x1) + (x3 * v_a.toInt64)) (0 : Int64)) then (F_J13_compare_74951 (((2 : Int64) * x1) + (x3 * v_a.toInt64)) (0 : Int64)) else (if (lg_cmp ((((2 : Int64) * x1) + (x3 * v_a.toInt64)) * (((2 : Int64) * x1) + (x3 * v_a.toInt64))) ((x3 * x3) * (F_X0_rootsApartSquared v_a v_b))) ≤ 0 then (F_J13_compare_74951 x3 (0 : Int64)) else (F_J13_compare_74951 (((2 : Int64) * x1) + (x3 * v_a.toInt64)) (0 : Int64)))))
set_option maxRecDepth 100000 in
set_option maxHeartbeats 4000000 in
theorem b_X0_sign {p : Program} {l : Launch} {e : Env} {s : State} {m : MethodId} {args : Array Value} {below : List Frame} {meth : Method} {c : Code} {Q : State → Prop} {dC : Nat → ClassId} {dI : Nat → Nat → Nat} {H : Heap} {locs : List Loc} {ls : Array Slot} (h0 : Nat) (v_a : Int32) (v_b : Int32) (x1 : Int64) (x3 : Int64) (ou0 : Int32) (hF : F_X0_sign x1 x3 v_a v_b = ou0) (hC : CallFix p m c cX0_sign 9 s args wsX0_sign RX0) (hN : NW s) (hK : va_K (dC, dI) vwCl [] s) (hP : va_P (dC, dI) vwCl (wd_X0_sign h0 v_a v_b) H) (hE : ∀ (ls : Array Slot) (pc : Nat), decode cX0_sign pc = .ok (.ireturn, 1) → W p l e rm_X0_sign s m args below meth c H locs 0 0 Q (F0 m pc ls [.int ou0])) (hl : lv_has ls 9 [(0, .ref h0), (1, .long x1), (3, .long x3)]) : W p l e rm_X0_sign s m args below meth c H locs 0 0 Q (F0 m 0 ls []) := by
  obtain ⟨hx, hb, hml, hown, hts⟩ := id hC
  unfold F_X0_sign at hF
  refine lv_ldc2 (v := (2 : Int64)) hx hb hown (hts (.constantLong RX0 20 (2)) (List.mem_of_getElem? (i := 1) rfl)) dX0_sign_0 ?_
  refine lv_lload_n hx hb dX0_sign_3 rfl (lv_at hl 1 rfl) ?_
  refine lv_lmul hx hb dX0_sign_4 ?_
  refine lv_lload_n hx hb dX0_sign_5 rfl (lv_at hl 2 rfl) ?_
  refine lv_aload_n hx hb dX0_sign_6 rfl (lv_at hl 0 rfl) ?_
  refine va_get (D := (dC, dI)) (ci := 0) (v := .int v_a) (C := RX0) (T := TX0) (N := 2) hx hb hts inn_X0_sign_X0 hown hK hP 0 rfl rfl 0 (by decide) (hts (.fieldLink RX0 9 "RingBases$Base" "a" "I") (List.mem_of_getElem? (i := 2) rfl)) (fun _ h9 => h9) rfl dX0_sign_7 ?_
  refine lv_i2l hx hb dX0_sign_10 rfl ?_
  refine lv_lmul hx hb dX0_sign_11 ?_
  refine lv_ladd hx hb dX0_sign_12 ?_
  refine lv_lstore (lv' := [(5, .long (((2 : Int64) * x1) + (x3 * v_a.toInt64))), (0, .ref h0), (1, .long x1), (3, .long x3)]) hx hb dX0_sign_13 hl (by decide) rfl (fun ls hl => ?_)
  refine lv_lload hx hb dX0_sign_15 (lv_at hl 0 rfl) ?_
  refine lv_lconst (v := (0 : Int64)) hx hb dX0_sign_17 (by decide) ?_
  refine rdSi (As := [.long (((2 : Int64) * x1) + (x3 * v_a.toInt64)), .long (0 : Int64)]) (rest := []) hC (c_J13_compare_74951 l dC dI  (((2 : Int64) * x1) + (x3 * v_a.toInt64)) (0 : Int64) (F_J13_compare_74951 (((2 : Int64) * x1) + (x3 * v_a.toInt64)) (0 : Int64)) rfl) (va_cwS 2 hts gX0_sign_J13_compare_74951 rfl rfl rfl (by decide +kernel) ⟨Nat.le_of_ble_eq_true rfl, Nat.le_of_ble_eq_true rfl⟩) hN (hK.sub (tys' := []) [] rfl) (hP.sub (ws' := wd_J13_compare_74951) [] rfl) rfl rfl hl.1 (Nat.le_of_ble_eq_true rfl) dX0_sign_18 ⟨Nat.zero_le _, Nat.zero_le _⟩ ?_
  refine lv_istore (lv' := [(7, .int (F_J13_compare_74951 (((2 : Int64) * x1) + (x3 * v_a.toInt64)) (0 : Int64))), (5, .long (((2 : Int64) * x1) + (x3 * v_a.toInt64))), (0, .ref h0), (1, .long x1), (3, .long x3)]) hx hb dX0_sign_21 hl (by decide) rfl (fun ls hl => ?_)
  refine lv_lload_n hx hb dX0_sign_23 rfl (lv_at hl 4 rfl) ?_
  refine lv_lconst (v := (0 : Int64)) hx hb dX0_sign_24 (by decide) ?_
  refine rdSi (As := [.long x3, .long (0 : Int64)]) (rest := []) hC (c_J13_compare_74951 l dC dI  x3 (0 : Int64) (F_J13_compare_74951 x3 (0 : Int64)) rfl) (va_cwS 2 hts gX0_sign_J13_compare_74951 rfl rfl rfl (by decide +kernel) ⟨Nat.le_of_ble_eq_true rfl, Nat.le_of_ble_eq_true rfl⟩) hN (hK.sub (tys' := []) [] rfl) (hP.sub (ws' := wd_J13_compare_74951) [] rfl) rfl rfl hl.1 (Nat.le_of_ble_eq_true rfl) dX0_sign_25 ⟨Nat.zero_le _, Nat.zero_le _⟩ ?_
  refine lv_istore (lv' := [(8, .int (F_J13_compare_74951 x3 (0 : Int64))), (7, .int (F_J13_compare_74951 (((2 : Int64) * x1) + (x3 * v_a.toInt64)) (0 : Int64))), (5, .long (((2 : Int64) * x1) + (x3 * v_a.toInt64))), (0, .ref h0), (1, .long x1), (3, .long x3)]) hx hb dX0_sign_28 hl (by decide) rfl (fun ls hl => ?_)
  refine lv_iload hx hb dX0_sign_30 (lv_at hl 0 rfl) ?_
  refine lv_if_eq (tgt := 42) hx hb dX0_sign_32 (by decide) (fun g_1 => ?_) (fun g_1 => ?_)
  · replace hF := ite_t g_1 hF
    refine lv_iload hx hb dX0_sign_42 (lv_at hl 1 rfl) ?_
    obtain rfl := hF; exact hE _ _ dX0_sign_44
  · replace hF := ite_f g_1 hF
    refine lv_iload hx hb dX0_sign_35 (lv_at hl 0 rfl) ?_
    refine lv_iload hx hb dX0_sign_37 (lv_at hl 1 rfl) ?_
    refine lv_icmp_ne (tgt := 45) hx hb dX0_sign_39 (by decide) (fun g_2 => ?_) (fun g_2 => ?_)
    · replace hF := ite_f g_2 hF
      refine lv_lload hx hb dX0_sign_45 (lv_at hl 2 rfl) ?_
      refine lv_lload hx hb dX0_sign_47 (lv_at hl 2 rfl) ?_
      refine lv_lmul hx hb dX0_sign_49 ?_
      refine lv_lload_n hx hb dX0_sign_50 rfl (lv_at hl 5 rfl) ?_
      refine lv_lload_n hx hb dX0_sign_51 rfl (lv_at hl 5 rfl) ?_
      refine lv_lmul hx hb dX0_sign_52 ?_
      refine lv_aload_n hx hb dX0_sign_53 rfl (lv_at hl 3 rfl) ?_
      refine rdVl (As := []) (rest := [.long (x3 * x3), .long ((((2 : Int64) * x1) + (x3 * v_a.toInt64)) * (((2 : Int64) * x1) + (x3 * v_a.toInt64)))]) (b := h0) hC (c_X0_rootsApartSquared l dC dI h0 v_a v_b  (F_X0_rootsApartSquared v_a v_b) rfl) (cwV 0 hts gX0_sign_X0_rootsApartSquared rfl rfl rfl (by decide +kernel) ⟨Nat.le_of_ble_eq_true rfl, Nat.le_of_ble_eq_true rfl⟩) hN (hK.sub (tys' := []) [] rfl) (hP.sub (ws' := (wd_X0_rootsApartSquared h0 v_a v_b)) [0] rfl) 0 0 rfl rfl rfl rfl hl.1 (Nat.le_of_ble_eq_true rfl) dX0_sign_54 ⟨Nat.zero_le _, Nat.zero_le _⟩ ?_
      refine lv_lmul hx hb dX0_sign_57 ?_
      refine W.lcmp hx hb dX0_sign_58 ?_
      refine lv_if_le (tgt := 67) hx hb dX0_sign_59 (by decide) (fun g_3 => ?_) (fun g_3 => ?_)
      · replace hF := ite_t g_3 hF
        refine lv_iload hx hb dX0_sign_67 (lv_at hl 0 rfl) ?_
        obtain rfl := hF; exact hE _ _ dX0_sign_69
      · replace hF := ite_f g_3 hF
        refine lv_iload hx hb dX0_sign_62 (lv_at hl 1 rfl) ?_
        refine lv_goto (tgt := 69) hx hb dX0_sign_64 (by decide) ?_
        obtain rfl := hF; exact hE _ _ dX0_sign_69
    · replace hF := ite_t g_2 hF
      refine lv_iload hx hb dX0_sign_42 (lv_at hl 1 rfl) ?_
      obtain rfl := hF; exact hE _ _ dX0_sign_44
set_option maxRecDepth 100000 in
set_option maxHeartbeats 4000000 in
theorem c_X0_sign (l : Launch) (dC : Nat → ClassId) (dI : Nat → Nat → Nat) (h0 : Nat) (v_a : Int32) (v_b : Int32) (x1 : Int64) (x3 : Int64) (o : Int32) (hF : F_X0_sign x1 x3 v_a v_b = o) : Met l yX0_sign wsX0_sign rm_X0_sign (va_Pc [.ref h0, .long x1, .long x3] (PcR dC dI (wd_X0_sign h0 v_a v_b) [])) (vp_Si (fun r => r = o)) 0 0 (fun _ => False) := by
  refine Met.ofW (cc := cX0_sign) (maxL := 9) (ret := (some .int)) (by decide) rfl ?_
  intro p e s m args below meth c s₁ B hml hv
  obtain ⟨rfl, hP, hK, hN⟩ := hv
  have hl := lv_entry ([.ref h0, .long x1, .long x3]) (n := 9) (Nat.le_of_ble_eq_true rfl)
  rw [lg_entry_eq]
  generalize (lg_sl ([.ref h0, .long x1, .long x3]) ++ List.replicate (9 - (lg_sl ([.ref h0, .long x1, .long x3])).length) Slot.unset).toArray = ls at hl ⊢
  exact b_X0_sign h0 v_a v_b x1 x3 o hF ⟨B.exec, B.bytes, hml, findClass_of_methodNamed B.named, atoms_spec (ws := wsX0_sign) B.pre⟩ hN hK hP (fun ls pc hd => W.iret B.exec B.bytes B.returns (fun t ht hW => ⟨_, rfl, rfl, ht⟩) (fun q h => by cases h) hd B.notSynchronized) hl
theorem inn_X0_raisedM_X0 : ∀ w ∈ wsX00, w ∈ wsX0_raisedM := fun _ h => List.mem_cons_of_mem _ (List.mem_append_right _ h)
abbrev wd_X0_raisedM (h0 : Nat) (v_a : Int32) (v_b : Int32) : va_W := [(h0, .inr (0, [.int v_a, .int v_b]))]
abbrev rm_X0_raisedM : Room := { frames := 0, cells := 0, slots := 0, locals := 0 }
def F_X0_raisedM (x1 : Int64) (v_b : Int32) : Int64 := (x1 * v_b.toInt64)
set_option maxRecDepth 100000 in
set_option maxHeartbeats 4000000 in
theorem b_X0_raisedM {p : Program} {l : Launch} {e : Env} {s : State} {m : MethodId} {args : Array Value} {below : List Frame} {meth : Method} {c : Code} {Q : State → Prop} {dC : Nat → ClassId} {dI : Nat → Nat → Nat} {H : Heap} {locs : List Loc} {ls : Array Slot} (h0 : Nat) (v_a : Int32) (v_b : Int32) (x1 : Int64) (ou0 : Int64) (hF : F_X0_raisedM x1 v_b = ou0) (hC : CallFix p m c cX0_raisedM 3 s args wsX0_raisedM RX0) (hN : NW s) (hK : va_K (dC, dI) vwCl [] s) (hP : va_P (dC, dI) vwCl (wd_X0_raisedM h0 v_a v_b) H) (hE : ∀ (ls : Array Slot) (pc : Nat), decode cX0_raisedM pc = .ok (.lreturn, 1) → W p l e rm_X0_raisedM s m args below meth c H locs 0 0 Q (F0 m pc ls [.long ou0])) (hl : lv_has ls 3 [(0, .ref h0), (1, .long x1)]) : W p l e rm_X0_raisedM s m args below meth c H locs 0 0 Q (F0 m 0 ls []) := by
  obtain ⟨hx, hb, hml, hown, hts⟩ := id hC
  unfold F_X0_raisedM at hF
  refine lv_lload_n hx hb dX0_raisedM_0 rfl (lv_at hl 1 rfl) ?_
  refine lv_aload_n hx hb dX0_raisedM_1 rfl (lv_at hl 0 rfl) ?_
  refine va_get (D := (dC, dI)) (ci := 0) (v := .int v_b) (C := RX0) (T := TX0) (N := 2) hx hb hts inn_X0_raisedM_X0 hown hK hP 0 rfl rfl 1 (by decide) (hts (.fieldLink RX0 15 "RingBases$Base" "b" "I") (List.mem_of_getElem? (i := 1) rfl)) (fun _ h9 => h9) rfl dX0_raisedM_2 ?_
  refine lv_i2l hx hb dX0_raisedM_5 rfl ?_
  refine lv_lmul hx hb dX0_raisedM_6 ?_
  obtain rfl := hF; exact hE _ _ dX0_raisedM_7
set_option maxRecDepth 100000 in
set_option maxHeartbeats 4000000 in
theorem c_X0_raisedM (l : Launch) (dC : Nat → ClassId) (dI : Nat → Nat → Nat) (h0 : Nat) (v_a : Int32) (v_b : Int32) (x1 : Int64) (o : Int64) (hF : F_X0_raisedM x1 v_b = o) : Met l yX0_raisedM wsX0_raisedM rm_X0_raisedM (va_Pc [.ref h0, .long x1] (PcR dC dI (wd_X0_raisedM h0 v_a v_b) [])) (vp_Sl (fun r => r = o)) 0 0 (fun _ => False) := by
  refine Met.ofW (cc := cX0_raisedM) (maxL := 3) (ret := (some .long)) (by decide) rfl ?_
  intro p e s m args below meth c s₁ B hml hv
  obtain ⟨rfl, hP, hK, hN⟩ := hv
  have hl := lv_entry ([.ref h0, .long x1]) (n := 3) (Nat.le_of_ble_eq_true rfl)
  rw [lg_entry_eq]
  generalize (lg_sl ([.ref h0, .long x1]) ++ List.replicate (3 - (lg_sl ([.ref h0, .long x1])).length) Slot.unset).toArray = ls at hl ⊢
  exact b_X0_raisedM h0 v_a v_b x1 o hF ⟨B.exec, B.bytes, hml, findClass_of_methodNamed B.named, atoms_spec (ws := wsX0_raisedM) B.pre⟩ hN hK hP (fun ls pc hd => W.lret B.exec B.bytes B.returns (fun t ht hW => ⟨_, rfl, rfl, ht⟩) (fun q h => by cases h) hd B.notSynchronized) hl
theorem inn_X0_raisedN_X0 : ∀ w ∈ wsX00, w ∈ wsX0_raisedN := fun _ h => List.mem_cons_of_mem _ (List.mem_append_right _ h)
abbrev wd_X0_raisedN (h0 : Nat) (v_a : Int32) (v_b : Int32) : va_W := [(h0, .inr (0, [.int v_a, .int v_b]))]
abbrev rm_X0_raisedN : Room := { frames := 0, cells := 0, slots := 0, locals := 0 }
def F_X0_raisedN (x1 : Int64) (x3 : Int64) (v_a : Int32) : Int64 := (x1 + (x3 * v_a.toInt64))
set_option maxRecDepth 100000 in
set_option maxHeartbeats 4000000 in
theorem b_X0_raisedN {p : Program} {l : Launch} {e : Env} {s : State} {m : MethodId} {args : Array Value} {below : List Frame} {meth : Method} {c : Code} {Q : State → Prop} {dC : Nat → ClassId} {dI : Nat → Nat → Nat} {H : Heap} {locs : List Loc} {ls : Array Slot} (h0 : Nat) (v_a : Int32) (v_b : Int32) (x1 : Int64) (x3 : Int64) (ou0 : Int64) (hF : F_X0_raisedN x1 x3 v_a = ou0) (hC : CallFix p m c cX0_raisedN 5 s args wsX0_raisedN RX0) (hN : NW s) (hK : va_K (dC, dI) vwCl [] s) (hP : va_P (dC, dI) vwCl (wd_X0_raisedN h0 v_a v_b) H) (hE : ∀ (ls : Array Slot) (pc : Nat), decode cX0_raisedN pc = .ok (.lreturn, 1) → W p l e rm_X0_raisedN s m args below meth c H locs 0 0 Q (F0 m pc ls [.long ou0])) (hl : lv_has ls 5 [(0, .ref h0), (1, .long x1), (3, .long x3)]) : W p l e rm_X0_raisedN s m args below meth c H locs 0 0 Q (F0 m 0 ls []) := by
  obtain ⟨hx, hb, hml, hown, hts⟩ := id hC
  unfold F_X0_raisedN at hF
  refine lv_lload_n hx hb dX0_raisedN_0 rfl (lv_at hl 1 rfl) ?_
  refine lv_lload_n hx hb dX0_raisedN_1 rfl (lv_at hl 2 rfl) ?_
  refine lv_aload_n hx hb dX0_raisedN_2 rfl (lv_at hl 0 rfl) ?_
  refine va_get (D := (dC, dI)) (ci := 0) (v := .int v_a) (C := RX0) (T := TX0) (N := 2) hx hb hts inn_X0_raisedN_X0 hown hK hP 0 rfl rfl 0 (by decide) (hts (.fieldLink RX0 9 "RingBases$Base" "a" "I") (List.mem_of_getElem? (i := 1) rfl)) (fun _ h9 => h9) rfl dX0_raisedN_3 ?_
  refine lv_i2l hx hb dX0_raisedN_6 rfl ?_
  refine lv_lmul hx hb dX0_raisedN_7 ?_
  refine lv_ladd hx hb dX0_raisedN_8 ?_
  obtain rfl := hF; exact hE _ _ dX0_raisedN_9
set_option maxRecDepth 100000 in
set_option maxHeartbeats 4000000 in
theorem c_X0_raisedN (l : Launch) (dC : Nat → ClassId) (dI : Nat → Nat → Nat) (h0 : Nat) (v_a : Int32) (v_b : Int32) (x1 : Int64) (x3 : Int64) (o : Int64) (hF : F_X0_raisedN x1 x3 v_a = o) : Met l yX0_raisedN wsX0_raisedN rm_X0_raisedN (va_Pc [.ref h0, .long x1, .long x3] (PcR dC dI (wd_X0_raisedN h0 v_a v_b) [])) (vp_Sl (fun r => r = o)) 0 0 (fun _ => False) := by
  refine Met.ofW (cc := cX0_raisedN) (maxL := 5) (ret := (some .long)) (by decide) rfl ?_
  intro p e s m args below meth c s₁ B hml hv
  obtain ⟨rfl, hP, hK, hN⟩ := hv
  have hl := lv_entry ([.ref h0, .long x1, .long x3]) (n := 5) (Nat.le_of_ble_eq_true rfl)
  rw [lg_entry_eq]
  generalize (lg_sl ([.ref h0, .long x1, .long x3]) ++ List.replicate (5 - (lg_sl ([.ref h0, .long x1, .long x3])).length) Slot.unset).toArray = ls at hl ⊢
  exact b_X0_raisedN h0 v_a v_b x1 x3 o hF ⟨B.exec, B.bytes, hml, findClass_of_methodNamed B.named, atoms_spec (ws := wsX0_raisedN) B.pre⟩ hN hK hP (fun ls pc hd => W.lret B.exec B.bytes B.returns (fun t ht hW => ⟨_, rfl, rfl, ht⟩) (fun q h => by cases h) hd B.notSynchronized) hl
theorem inn_X0_figureOfOne_X0 : ∀ w ∈ wsX00, w ∈ wsX0_figureOfOne := fun _ h => List.mem_cons_of_mem _ (List.mem_append_right _ h)
abbrev wd_X0_figureOfOne (h0 : Nat) (v_a : Int32) (v_b : Int32) : va_W := [(h0, .inr (0, [.int v_a, .int v_b]))]
abbrev rm_X0_figureOfOne : Room := { frames := 0, cells := 0, slots := 0, locals := 0 }
def F_X0_figureOfOne (x1 : Int32) (v_a : Int32) (v_b : Int32) : Int32 := (if v_b ≤ 0 then (if x1 = 0 then (v_a - (1 : Int32)) else ((v_a + v_b) - (1 : Int32))) else (if (x1 - x1 / (2 : Int32) * (2 : Int32)) = 0 then v_a else (v_b - (1 : Int32))))
set_option maxRecDepth 100000 in
set_option maxHeartbeats 4000000 in
theorem b_X0_figureOfOne {p : Program} {l : Launch} {e : Env} {s : State} {m : MethodId} {args : Array Value} {below : List Frame} {meth : Method} {c : Code} {Q : State → Prop} {dC : Nat → ClassId} {dI : Nat → Nat → Nat} {H : Heap} {locs : List Loc} {ls : Array Slot} (h0 : Nat) (v_a : Int32) (v_b : Int32) (x1 : Int32) (ou0 : Int32) (hF : F_X0_figureOfOne x1 v_a v_b = ou0) (hC : CallFix p m c cX0_figureOfOne 2 s args wsX0_figureOfOne RX0) (hN : NW s) (hK : va_K (dC, dI) vwCl [] s) (hP : va_P (dC, dI) vwCl (wd_X0_figureOfOne h0 v_a v_b) H) (hE : ∀ (ls : Array Slot) (pc : Nat), decode cX0_figureOfOne pc = .ok (.ireturn, 1) → W p l e rm_X0_figureOfOne s m args below meth c H locs 0 0 Q (F0 m pc ls [.int ou0])) (hl : lv_has ls 2 [(0, .ref h0), (1, .int x1)]) : W p l e rm_X0_figureOfOne s m args below meth c H locs 0 0 Q (F0 m 0 ls []) := by
  obtain ⟨hx, hb, hml, hown, hts⟩ := id hC
  unfold F_X0_figureOfOne at hF
  refine lv_aload_n hx hb dX0_figureOfOne_0 rfl (lv_at hl 0 rfl) ?_
  refine va_get (D := (dC, dI)) (ci := 0) (v := .int v_b) (C := RX0) (T := TX0) (N := 2) hx hb hts inn_X0_figureOfOne_X0 hown hK hP 0 rfl rfl 1 (by decide) (hts (.fieldLink RX0 15 "RingBases$Base" "b" "I") (List.mem_of_getElem? (i := 1) rfl)) (fun _ h9 => h9) rfl dX0_figureOfOne_1 ?_
  refine lv_if_le (tgt := 27) hx hb dX0_figureOfOne_4 (by decide) (fun g_1 => ?_) (fun g_1 => ?_)
  · replace hF := ite_t g_1 hF
    refine lv_iload_n hx hb dX0_figureOfOne_27 rfl (lv_at hl 1 rfl) ?_
    refine lv_if_ne (tgt := 40) hx hb dX0_figureOfOne_28 (by decide) (fun g_2 => ?_) (fun g_2 => ?_)
    · replace hF := ite_f g_2 hF
      refine lv_aload_n hx hb dX0_figureOfOne_40 rfl (lv_at hl 0 rfl) ?_
      refine va_get (D := (dC, dI)) (ci := 0) (v := .int v_a) (C := RX0) (T := TX0) (N := 2) hx hb hts inn_X0_figureOfOne_X0 hown hK hP 0 rfl rfl 0 (by decide) (hts (.fieldLink RX0 9 "RingBases$Base" "a" "I") (List.mem_of_getElem? (i := 2) rfl)) (fun _ h9 => h9) rfl dX0_figureOfOne_41 ?_
      refine lv_aload_n hx hb dX0_figureOfOne_44 rfl (lv_at hl 0 rfl) ?_
      refine va_get (D := (dC, dI)) (ci := 0) (v := .int v_b) (C := RX0) (T := TX0) (N := 2) hx hb hts inn_X0_figureOfOne_X0 hown hK hP 0 rfl rfl 1 (by decide) (hts (.fieldLink RX0 15 "RingBases$Base" "b" "I") (List.mem_of_getElem? (i := 1) rfl)) (fun _ h9 => h9) rfl dX0_figureOfOne_45 ?_
      refine lv_iadd hx hb dX0_figureOfOne_48 ?_
      refine lv_iconst (v := (1 : Int32)) hx hb dX0_figureOfOne_49 (by decide) ?_
      refine lv_isub hx hb dX0_figureOfOne_50 ?_
      obtain rfl := hF; exact hE _ _ dX0_figureOfOne_51
    · replace hF := ite_t g_2 hF
      refine lv_aload_n hx hb dX0_figureOfOne_31 rfl (lv_at hl 0 rfl) ?_
      refine va_get (D := (dC, dI)) (ci := 0) (v := .int v_a) (C := RX0) (T := TX0) (N := 2) hx hb hts inn_X0_figureOfOne_X0 hown hK hP 0 rfl rfl 0 (by decide) (hts (.fieldLink RX0 9 "RingBases$Base" "a" "I") (List.mem_of_getElem? (i := 2) rfl)) (fun _ h9 => h9) rfl dX0_figureOfOne_32 ?_
      refine lv_iconst (v := (1 : Int32)) hx hb dX0_figureOfOne_35 (by decide) ?_
      refine lv_isub hx hb dX0_figureOfOne_36 ?_
      refine lv_goto (tgt := 51) hx hb dX0_figureOfOne_37 (by decide) ?_
      obtain rfl := hF; exact hE _ _ dX0_figureOfOne_51
  · replace hF := ite_f g_1 hF
    refine lv_iload_n hx hb dX0_figureOfOne_7 rfl (lv_at hl 1 rfl) ?_
    refine lv_iconst (v := (2 : Int32)) hx hb dX0_figureOfOne_8 (by decide) ?_
    refine lv_irem hx hb dX0_figureOfOne_9 (by decide) ?_
    refine lv_if_ne (tgt := 20) hx hb dX0_figureOfOne_10 (by decide) (fun g_3 => ?_) (fun g_3 => ?_)
    · replace hF := ite_f g_3 hF
      refine lv_aload_n hx hb dX0_figureOfOne_20 rfl (lv_at hl 0 rfl) ?_
      refine va_get (D := (dC, dI)) (ci := 0) (v := .int v_b) (C := RX0) (T := TX0) (N := 2) hx hb hts inn_X0_figureOfOne_X0 hown hK hP 0 rfl rfl 1 (by decide) (hts (.fieldLink RX0 15 "RingBases$Base" "b" "I") (List.mem_of_getElem? (i := 1) rfl)) (fun _ h9 => h9) rfl dX0_figureOfOne_21 ?_
      refine lv_iconst (v := (1 : Int32)) hx hb dX0_figureOfOne_24 (by decide) ?_
      refine lv_isub hx hb dX0_figureOfOne_25 ?_
      obtain rfl := hF; exact hE _ _ dX0_figureOfOne_26
    · replace hF := ite_t g_3 hF
      refine lv_aload_n hx hb dX0_figureOfOne_13 rfl (lv_at hl 0 rfl) ?_
      refine va_get (D := (dC, dI)) (ci := 0) (v := .int v_a) (C := RX0) (T := TX0) (N := 2) hx hb hts inn_X0_figureOfOne_X0 hown hK hP 0 rfl rfl 0 (by decide) (hts (.fieldLink RX0 9 "RingBases$Base" "a" "I") (List.mem_of_getElem? (i := 2) rfl)) (fun _ h9 => h9) rfl dX0_figureOfOne_14 ?_
      refine lv_goto (tgt := 26) hx hb dX0_figureOfOne_17 (by decide) ?_
      obtain rfl := hF; exact hE _ _ dX0_figureOfOne_26
set_option maxRecDepth 100000 in
set_option maxHeartbeats 4000000 in
theorem c_X0_figureOfOne (l : Launch) (dC : Nat → ClassId) (dI : Nat → Nat → Nat) (h0 : Nat) (v_a : Int32) (v_b : Int32) (x1 : Int32) (o : Int32) (hF : F_X0_figureOfOne x1 v_a v_b = o) : Met l yX0_figureOfOne wsX0_figureOfOne rm_X0_figureOfOne (va_Pc [.ref h0, .int x1] (PcR dC dI (wd_X0_figureOfOne h0 v_a v_b) [])) (vp_Si (fun r => r = o)) 0 0 (fun _ => False) := by
  refine Met.ofW (cc := cX0_figureOfOne) (maxL := 2) (ret := (some .int)) (by decide) rfl ?_
  intro p e s m args below meth c s₁ B hml hv
  obtain ⟨rfl, hP, hK, hN⟩ := hv
  have hl := lv_entry ([.ref h0, .int x1]) (n := 2) (Nat.le_of_ble_eq_true rfl)
  rw [lg_entry_eq]
  generalize (lg_sl ([.ref h0, .int x1]) ++ List.replicate (2 - (lg_sl ([.ref h0, .int x1])).length) Slot.unset).toArray = ls at hl ⊢
  exact b_X0_figureOfOne h0 v_a v_b x1 o hF ⟨B.exec, B.bytes, hml, findClass_of_methodNamed B.named, atoms_spec (ws := wsX0_figureOfOne) B.pre⟩ hN hK hP (fun ls pc hd => W.iret B.exec B.bytes B.returns (fun t ht hW => ⟨_, rfl, rfl, ht⟩) (fun q h => by cases h) hd B.notSynchronized) hl
abbrev wd_X0_squareRoot : va_W := []
abbrev rm_X0_squareRoot : Room := { frames := 0, cells := 0, slots := 0, locals := 0 }
def F_X0_squareRoot_7 (x0 : Int64) : Nat → Int64 → Int64 → Option (Int64)
  | 0, _, _ => none
  | fu + 1, x2, x4 => (if (lg_cmp x4 (0 : Int64)) ≤ 0 then (some x2) else (if 0 < (lg_cmp ((x2 + x4) * (x2 + x4)) x0) then (F_X0_squareRoot_7 x0 fu x2 (x4 >>> ((1 : Int32).toInt64 &&& 63))) else (F_X0_squareRoot_7 x0 fu (x2 + x4) (x4 >>> ((1 : Int32).toInt64 &&& 63)))))
def F_X0_squareRoot (x0 : Int64) : Option (Int64) := (F_X0_squareRoot_7  x0 128 (0 : Int64) (1073741824 : Int64))
set_option maxRecDepth 100000 in
set_option maxHeartbeats 4000000 in
theorem b_X0_squareRoot {p : Program} {l : Launch} {e : Env} {s : State} {m : MethodId} {args : Array Value} {below : List Frame} {meth : Method} {c : Code} {Q : State → Prop} {dC : Nat → ClassId} {dI : Nat → Nat → Nat} {H : Heap} {locs : List Loc} {ls : Array Slot} (x0 : Int64) (ou0 : Int64) (hF : F_X0_squareRoot x0 = some ou0) (hC : CallFix p m c cX0_squareRoot 8 s args wsX0_squareRoot RX0) (hN : NW s) (hK : va_K (dC, dI) vwCl [] s) (hP : va_P (dC, dI) vwCl wd_X0_squareRoot H) (hE : ∀ (ls : Array Slot) (pc : Nat), decode cX0_squareRoot pc = .ok (.lreturn, 1) → W p l e rm_X0_squareRoot s m args below meth c H locs 0 0 Q (F0 m pc ls [.long ou0])) (hl : lv_has ls 8 [(0, .long x0)]) : W p l e rm_X0_squareRoot s m args below meth c H locs 0 0 Q (F0 m 0 ls []) := by
  obtain ⟨hx, hb, hml, hown, hts⟩ := id hC
  unfold F_X0_squareRoot at hF
  have k_7 : ∀ (fu_7 : Nat) (x2 : Int64) (x4 : Int64), F_X0_squareRoot_7  x0 fu_7 x2 x4 = some ou0 → ∀ ls : Array Slot, lv_has ls 8 [(0, .long x0), (2, .long x2), (4, .long x4)] → W p l e rm_X0_squareRoot s m args below meth c H locs 0 0 Q (F0 m 7 ls []) := by
    intro fu_7
    induction fu_7 with
    | zero => intro x2 x4 hF; rw [F_X0_squareRoot_7] at hF; cases hF
    | succ fu_7 ih =>
      intro x2 x4 hF ls hl
      rw [F_X0_squareRoot_7] at hF
      have ih_7 := ih
      refine lv_lload hx hb dX0_squareRoot_7 (lv_at hl 2 rfl) ?_
      refine lv_lconst (v := (0 : Int64)) hx hb dX0_squareRoot_9 (by decide) ?_
      refine W.lcmp hx hb dX0_squareRoot_10 ?_
      refine lv_if_le (tgt := 42) hx hb dX0_squareRoot_11 (by decide) (fun g_1 => ?_) (fun g_1 => ?_)
      · replace hF := ite_t g_1 hF
        refine lv_lload_n hx hb dX0_squareRoot_42 rfl (lv_at hl 1 rfl) ?_
        obtain rfl := Option.some.inj hF; exact hE _ _ dX0_squareRoot_43
      · replace hF := ite_f g_1 hF
        refine lv_lload_n hx hb dX0_squareRoot_14 rfl (lv_at hl 1 rfl) ?_
        refine lv_lload hx hb dX0_squareRoot_15 (lv_at hl 2 rfl) ?_
        refine lv_ladd hx hb dX0_squareRoot_17 ?_
        refine lv_lstore (lv' := [(6, .long (x2 + x4)), (0, .long x0), (2, .long x2), (4, .long x4)]) hx hb dX0_squareRoot_18 hl (by decide) rfl (fun ls hl => ?_)
        refine lv_lload hx hb dX0_squareRoot_20 (lv_at hl 0 rfl) ?_
        refine lv_lload hx hb dX0_squareRoot_22 (lv_at hl 0 rfl) ?_
        refine lv_lmul hx hb dX0_squareRoot_24 ?_
        refine lv_lload_n hx hb dX0_squareRoot_25 rfl (lv_at hl 1 rfl) ?_
        refine W.lcmp hx hb dX0_squareRoot_26 ?_
        refine lv_if_gt (tgt := 33) hx hb dX0_squareRoot_27 (by decide) (fun g_2 => ?_) (fun g_2 => ?_)
        · replace hF := ite_t g_2 hF
          refine lv_lload hx hb dX0_squareRoot_33 (lv_at hl 3 rfl) ?_
          refine lv_iconst (v := (1 : Int32)) hx hb dX0_squareRoot_35 (by decide) ?_
          refine lv_lshr hx hb dX0_squareRoot_36 rfl ?_
          refine lv_lstore (lv' := [(4, .long (x4 >>> ((1 : Int32).toInt64 &&& 63))), (6, .long (x2 + x4)), (0, .long x0), (2, .long x2)]) hx hb dX0_squareRoot_37 hl (by decide) rfl (fun ls hl => ?_)
          refine lv_goto (tgt := 7) hx hb dX0_squareRoot_39 (by decide) ?_
          exact ih x2 (x4 >>> ((1 : Int32).toInt64 &&& 63)) hF ls (lv_sub hl [2, 3, 0] rfl)
        · replace hF := ite_f g_2 hF
          refine lv_lload hx hb dX0_squareRoot_30 (lv_at hl 0 rfl) ?_
          refine lv_lstore_n (lv' := [(2, .long (x2 + x4)), (6, .long (x2 + x4)), (0, .long x0), (4, .long x4)]) hx hb dX0_squareRoot_32 rfl hl (by decide) rfl (fun ls hl => ?_)
          refine lv_lload hx hb dX0_squareRoot_33 (lv_at hl 3 rfl) ?_
          refine lv_iconst (v := (1 : Int32)) hx hb dX0_squareRoot_35 (by decide) ?_
          refine lv_lshr hx hb dX0_squareRoot_36 rfl ?_
          refine lv_lstore (lv' := [(4, .long (x4 >>> ((1 : Int32).toInt64 &&& 63))), (2, .long (x2 + x4)), (6, .long (x2 + x4)), (0, .long x0)]) hx hb dX0_squareRoot_37 hl (by decide) rfl (fun ls hl => ?_)
          refine lv_goto (tgt := 7) hx hb dX0_squareRoot_39 (by decide) ?_
          exact ih (x2 + x4) (x4 >>> ((1 : Int32).toInt64 &&& 63)) hF ls (lv_sub hl [3, 1, 0] rfl)
  refine lv_lconst (v := (0 : Int64)) hx hb dX0_squareRoot_0 (by decide) ?_
  refine lv_lstore_n (lv' := [(2, .long (0 : Int64)), (0, .long x0)]) hx hb dX0_squareRoot_1 rfl hl (by decide) rfl (fun ls hl => ?_)
  refine lv_ldc2 (v := (1073741824 : Int64)) hx hb hown (hts (.constantLong RX0 41 (1073741824)) (List.mem_of_getElem? (i := 1) rfl)) dX0_squareRoot_2 ?_
  refine lv_lstore (lv' := [(4, .long (1073741824 : Int64)), (2, .long (0 : Int64)), (0, .long x0)]) hx hb dX0_squareRoot_5 hl (by decide) rfl (fun ls hl => ?_)
  exact k_7 _ (0 : Int64) (1073741824 : Int64) hF ls (lv_sub hl [2, 1, 0] rfl)
set_option maxRecDepth 100000 in
set_option maxHeartbeats 4000000 in
theorem c_X0_squareRoot (l : Launch) (dC : Nat → ClassId) (dI : Nat → Nat → Nat) (x0 : Int64) (o : Int64) (hF : F_X0_squareRoot x0 = some o) : Met l yX0_squareRoot wsX0_squareRoot rm_X0_squareRoot (va_Pc [.long x0] (PcR dC dI wd_X0_squareRoot [])) (vp_Sl (fun r => r = o)) 0 0 (fun _ => False) := by
  refine Met.ofW (cc := cX0_squareRoot) (maxL := 8) (ret := (some .long)) (by decide) rfl ?_
  intro p e s m args below meth c s₁ B hml hv
  obtain ⟨rfl, hP, hK, hN⟩ := hv
  have hl := lv_entry ([.long x0]) (n := 8) (Nat.le_of_ble_eq_true rfl)
  rw [lg_entry_eq]
  generalize (lg_sl ([.long x0]) ++ List.replicate (8 - (lg_sl ([.long x0])).length) Slot.unset).toArray = ls at hl ⊢
  exact b_X0_squareRoot x0 o hF ⟨B.exec, B.bytes, hml, findClass_of_methodNamed B.named, atoms_spec (ws := wsX0_squareRoot) B.pre⟩ hN hK hP (fun ls pc hd => W.lret B.exec B.bytes B.returns (fun t ht hW => ⟨_, rfl, rfl, ht⟩) (fun q h => by cases h) hd B.notSynchronized) hl
theorem inn_X0_wholePart_X0 : ∀ w ∈ wsX00, w ∈ wsX0_wholePart := fun _ h => List.mem_cons_of_mem _ (List.mem_append_right _ h)
abbrev wd_X0_wholePart (h0 : Nat) (v_a : Int32) (v_b : Int32) : va_W := [(h0, .inr (0, [.int v_a, .int v_b]))]
abbrev rm_X0_wholePart : Room := { frames := 1, cells := 0, slots := 0, locals := 27 }
def F_X0_wholePart (x1 : Int64) (x3 : Int64) (v_a : Int32) (v_b : Int32) : Option (Int64) := ((F_X0_squareRoot (((if 0 < x3 then x3 else -x3) * (if 0 < x3 then x3 else -x3)) * (F_X0_rootsApartSquared v_a v_b))).bind fun o_1 => (if (lg_cmp x3 (0 : Int64)) < 0 then (some ((x1 - ((((if 0 < x3 then x3 else -x3) * v_a.toInt64) + o_1) / (2 : Int64))) - (1 : Int64))) else (some (x1 + ((((if 0 < x3 then x3 else -x3) * v_a.toInt64) + o_1) / (2 : Int64))))))
set_option maxRecDepth 100000 in
set_option maxHeartbeats 4000000 in
theorem b_X0_wholePart {p : Program} {l : Launch} {e : Env} {s : State} {m : MethodId} {args : Array Value} {below : List Frame} {meth : Method} {c : Code} {Q : State → Prop} {dC : Nat → ClassId} {dI : Nat → Nat → Nat} {H : Heap} {locs : List Loc} {ls : Array Slot} (h0 : Nat) (v_a : Int32) (v_b : Int32) (x1 : Int64) (x3 : Int64) (ou0 : Int64) (hF : F_X0_wholePart x1 x3 v_a v_b = some ou0) (hC : CallFix p m c cX0_wholePart 9 s args wsX0_wholePart RX0) (hN : NW s) (hK : va_K (dC, dI) vwCl [] s) (hP : va_P (dC, dI) vwCl (wd_X0_wholePart h0 v_a v_b) H) (hE : ∀ (ls : Array Slot) (pc : Nat), decode cX0_wholePart pc = .ok (.lreturn, 1) → W p l e rm_X0_wholePart s m args below meth c H locs 0 0 Q (F0 m pc ls [.long ou0])) (hl : lv_has ls 9 [(0, .ref h0), (1, .long x1), (3, .long x3)]) : W p l e rm_X0_wholePart s m args below meth c H locs 0 0 Q (F0 m 0 ls []) := by
  obtain ⟨hx, hb, hml, hown, hts⟩ := id hC
  unfold F_X0_wholePart at hF
  refine lv_lload_n hx hb dX0_wholePart_0 rfl (lv_at hl 2 rfl) ?_
  refine va_mabs_long hx hb (hml.trans hl.1.symm) hown (hts (.methodLink RX0 32 Lib.MathLoose.abs_long.x) (List.mem_of_getElem? (i := 1) rfl)) (hts (.static Lib.MathLoose.abs_long.x) (List.mem_of_getElem? (i := 2) rfl)) (hts (.initialized "java/lang/Math") (List.mem_of_getElem? (i := 3) rfl)) (hts (.code Lib.MathLoose.abs_long.x Lib.MathLoose.abs_long.code 2 (some .long)) (List.mem_of_getElem? (i := 4) rfl)) (Nat.le_of_ble_eq_true rfl) (Nat.le_of_ble_eq_true rfl) (Nat.zero_le _) (Nat.zero_le _) dX0_wholePart_1 ?_
  refine lv_lstore (lv' := [(5, .long (if 0 < x3 then x3 else -x3)), (0, .ref h0), (1, .long x1), (3, .long x3)]) hx hb dX0_wholePart_4 hl (by decide) rfl (fun ls hl => ?_)
  refine lv_lload hx hb dX0_wholePart_6 (lv_at hl 0 rfl) ?_
  refine lv_aload_n hx hb dX0_wholePart_8 rfl (lv_at hl 1 rfl) ?_
  refine va_get (D := (dC, dI)) (ci := 0) (v := .int v_a) (C := RX0) (T := TX0) (N := 2) hx hb hts inn_X0_wholePart_X0 hown hK hP 0 rfl rfl 0 (by decide) (hts (.fieldLink RX0 9 "RingBases$Base" "a" "I") (List.mem_of_getElem? (i := 5) rfl)) (fun _ h9 => h9) rfl dX0_wholePart_9 ?_
  refine lv_i2l hx hb dX0_wholePart_12 rfl ?_
  refine lv_lmul hx hb dX0_wholePart_13 ?_
  refine lv_lload hx hb dX0_wholePart_14 (lv_at hl 0 rfl) ?_
  refine lv_lload hx hb dX0_wholePart_16 (lv_at hl 0 rfl) ?_
  refine lv_lmul hx hb dX0_wholePart_18 ?_
  refine lv_aload_n hx hb dX0_wholePart_19 rfl (lv_at hl 1 rfl) ?_
  refine rdVl (As := []) (rest := [.long ((if 0 < x3 then x3 else -x3) * (if 0 < x3 then x3 else -x3)), .long ((if 0 < x3 then x3 else -x3) * v_a.toInt64)]) (b := h0) hC (c_X0_rootsApartSquared l dC dI h0 v_a v_b  (F_X0_rootsApartSquared v_a v_b) rfl) (cwV 0 hts gX0_wholePart_X0_rootsApartSquared rfl rfl rfl (by decide +kernel) ⟨Nat.le_of_ble_eq_true rfl, Nat.le_of_ble_eq_true rfl⟩) hN (hK.sub (tys' := []) [] rfl) (hP.sub (ws' := (wd_X0_rootsApartSquared h0 v_a v_b)) [0] rfl) 0 0 rfl rfl rfl rfl hl.1 (Nat.le_of_ble_eq_true rfl) dX0_wholePart_20 ⟨Nat.zero_le _, Nat.zero_le _⟩ ?_
  refine lv_lmul hx hb dX0_wholePart_23 ?_
  obtain ⟨o_1, hc_o_1, hF⟩ := bd_s hF
  refine rdSl (As := [.long (((if 0 < x3 then x3 else -x3) * (if 0 < x3 then x3 else -x3)) * (F_X0_rootsApartSquared v_a v_b))]) (rest := [.long ((if 0 < x3 then x3 else -x3) * v_a.toInt64)]) hC (c_X0_squareRoot l dC dI  (((if 0 < x3 then x3 else -x3) * (if 0 < x3 then x3 else -x3)) * (F_X0_rootsApartSquared v_a v_b)) o_1 hc_o_1) (va_cwS 1 hts gX0_wholePart_X0_squareRoot rfl rfl rfl (by decide +kernel) ⟨Nat.le_of_ble_eq_true rfl, Nat.le_of_ble_eq_true rfl⟩) hN (hK.sub (tys' := []) [] rfl) (hP.sub (ws' := wd_X0_squareRoot) [] rfl) rfl rfl hl.1 (Nat.le_of_ble_eq_true rfl) dX0_wholePart_24 ⟨Nat.zero_le _, Nat.zero_le _⟩ ?_
  refine lv_ladd hx hb dX0_wholePart_27 ?_
  refine lv_ldc2 (v := (2 : Int64)) hx hb hown (hts (.constantLong RX0 20 (2)) (List.mem_of_getElem? (i := 6) rfl)) dX0_wholePart_28 ?_
  refine lv_ldiv hx hb dX0_wholePart_31 (by decide) ?_
  refine lv_lstore (lv' := [(7, .long ((((if 0 < x3 then x3 else -x3) * v_a.toInt64) + o_1) / (2 : Int64))), (5, .long (if 0 < x3 then x3 else -x3)), (0, .ref h0), (1, .long x1), (3, .long x3)]) hx hb dX0_wholePart_32 hl (by decide) rfl (fun ls hl => ?_)
  refine lv_lload_n hx hb dX0_wholePart_34 rfl (lv_at hl 4 rfl) ?_
  refine lv_lconst (v := (0 : Int64)) hx hb dX0_wholePart_35 (by decide) ?_
  refine W.lcmp hx hb dX0_wholePart_36 ?_
  refine lv_if_lt (tgt := 45) hx hb dX0_wholePart_37 (by decide) (fun g_2 => ?_) (fun g_2 => ?_)
  · replace hF := ite_t g_2 hF
    refine lv_lload_n hx hb dX0_wholePart_45 rfl (lv_at hl 3 rfl) ?_
    refine lv_lload hx hb dX0_wholePart_46 (lv_at hl 0 rfl) ?_
    refine lv_lsub hx hb dX0_wholePart_48 ?_
    refine lv_lconst (v := (1 : Int64)) hx hb dX0_wholePart_49 (by decide) ?_
    refine lv_lsub hx hb dX0_wholePart_50 ?_
    obtain rfl := Option.some.inj hF; exact hE _ _ dX0_wholePart_51
  · replace hF := ite_f g_2 hF
    refine lv_lload_n hx hb dX0_wholePart_40 rfl (lv_at hl 3 rfl) ?_
    refine lv_lload hx hb dX0_wholePart_41 (lv_at hl 0 rfl) ?_
    refine lv_ladd hx hb dX0_wholePart_43 ?_
    obtain rfl := Option.some.inj hF; exact hE _ _ dX0_wholePart_44
set_option maxRecDepth 100000 in
set_option maxHeartbeats 4000000 in
theorem c_X0_wholePart (l : Launch) (dC : Nat → ClassId) (dI : Nat → Nat → Nat) (h0 : Nat) (v_a : Int32) (v_b : Int32) (x1 : Int64) (x3 : Int64) (o : Int64) (hF : F_X0_wholePart x1 x3 v_a v_b = some o) : Met l yX0_wholePart wsX0_wholePart rm_X0_wholePart (va_Pc [.ref h0, .long x1, .long x3] (PcR dC dI (wd_X0_wholePart h0 v_a v_b) [])) (vp_Sl (fun r => r = o)) 0 0 (fun _ => False) := by
  refine Met.ofW (cc := cX0_wholePart) (maxL := 9) (ret := (some .long)) (by decide) rfl ?_
  intro p e s m args below meth c s₁ B hml hv
  obtain ⟨rfl, hP, hK, hN⟩ := hv
  have hl := lv_entry ([.ref h0, .long x1, .long x3]) (n := 9) (Nat.le_of_ble_eq_true rfl)
  rw [lg_entry_eq]
  generalize (lg_sl ([.ref h0, .long x1, .long x3]) ++ List.replicate (9 - (lg_sl ([.ref h0, .long x1, .long x3])).length) Slot.unset).toArray = ls at hl ⊢
  exact b_X0_wholePart h0 v_a v_b x1 x3 o hF ⟨B.exec, B.bytes, hml, findClass_of_methodNamed B.named, atoms_spec (ws := wsX0_wholePart) B.pre⟩ hN hK hP (fun ls pc hd => W.lret B.exec B.bytes B.returns (fun t ht hW => ⟨_, rfl, rfl, ht⟩) (fun q h => by cases h) hd B.notSynchronized) hl
