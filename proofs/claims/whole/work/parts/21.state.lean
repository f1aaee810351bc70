theorem inn_X3_copyInto_X0 : ∀ w ∈ wsX00, w ∈ wsX3_copyInto := fun _ h => List.mem_cons_of_mem _ (List.mem_append_right _ h)
theorem inn_X3_copyInto_X3 : ∀ w ∈ wsX30, w ∈ wsX3_copyInto := fun _ h => List.mem_cons_of_mem _ (List.mem_append_left _ (List.mem_append_right _ h))
abbrev wd_X3_copyInto (h0 h_base h_ms h_ns h_p1 : Nat) (c_ms c_ns c_p1 : ClassId) (n_p1 : Nat) (v_base_a : Int32) (v_base_b : Int32) (v_ms : (Nat → Int32)) (v_ns : (Nat → Int32)) (v_p1 : (Nat → Int32)) : va_W := [(h0, .inr (3, [.ref h_base, .ref h_ms, .ref h_ns])), (h_base, .inr (0, [.int v_base_a, .int v_base_b])), (h_ms, .inl (c_ms, 4, .inl v_ms)), (h_ns, .inl (c_ns, 4, .inl v_ns)), (h_p1, .inl (c_p1, n_p1, .inl v_p1))]
abbrev rm_X3_copyInto : Room := { frames := 1, cells := 0, slots := 0, locals := 18 }
def F_X3_copyInto (x2 : Int32) (n_p1 : Nat) (v_base_a : Int32) (v_base_b : Int32) (v_ms : (Nat → Int32)) (v_ns : (Nat → Int32)) (v_p1 : (Nat → Int32)) : Option ((Nat → Int32)) := (if x2 < 0 then (some v_p1) else (if x2 ≤ ((Int32.ofNat n_p1) - (10 : Int32)) then (ck x2 n_p1 (ck (x2 + (1 : Int32)) n_p1 (cpk (0 : Int32) (x2 + (2 : Int32)) (4 : Int32) 4 n_p1 (cpk (0 : Int32) ((x2 + (2 : Int32)) + (4 : Int32)) (4 : Int32) 4 n_p1 (some (va_cpy v_ns (va_cpy v_ms (upd (upd v_p1 x2.toNatClampNeg v_base_a) (x2 + (1 : Int32)).toNatClampNeg v_base_b) (0 : Int32).toNatClampNeg (x2 + (2 : Int32)).toNatClampNeg (4 : Int32).toNatClampNeg) (0 : Int32).toNatClampNeg ((x2 + (2 : Int32)) + (4 : Int32)).toNatClampNeg (4 : Int32).toNatClampNeg)))))) else (some v_p1)))
set_option maxRecDepth 100000 in
set_option maxHeartbeats 4000000 in
theorem b_X3_copyInto {p : Program} {l : Launch} {e : Env} {s : State} {m : MethodId} {args : Array Value} {below : List Frame} {meth : Method} {c : Code} {Q : State → Prop} {dC : Nat → ClassId} {dI : Nat → Nat → Nat} {H : Heap} {locs : List Loc} {ls : Array Slot} {A : Nat → Prop} (h0 h_base h_ms h_ns h_p1 : Nat) (c_ms c_ns c_p1 : ClassId) (n_p1 : Nat) (v_base_a : Int32) (v_base_b : Int32) (v_ms : (Nat → Int32)) (v_ns : (Nat → Int32)) (v_p1 : (Nat → Int32)) (x2 : Int32) (ou0 : (Nat → Int32)) (hF : F_X3_copyInto x2 n_p1 v_base_a v_base_b v_ms v_ns v_p1 = some ou0) (hC : CallFix p m c cX3_copyInto 3 s args wsX3_copyInto RX3) (hN : NW s) (hK : va_K (dC, dI) vwCl [(c_ms, .int), (c_ns, .int), (c_p1, .int)] s) (hP : va_P (dC, dI) vwCl (wd_X3_copyInto h0 h_base h_ms h_ns h_p1 c_ms c_ns c_p1 n_p1 v_base_a v_base_b v_ms v_ns v_p1) H) (hA : ∀ q, s.heap.size ≤ q → A q) (hD : va_D A (wd_X3_copyInto h0 h_base h_ms h_ns h_p1 c_ms c_ns c_p1 n_p1 v_base_a v_base_b v_ms v_ns v_p1)) (hS : va_S A s.heap H locs) (hE : ∀ (H : Heap) (locs : List Loc) (ls : Array Slot) (pc : Nat), va_P (dC, dI) vwCl (wd_X3_copyInto h0 h_base h_ms h_ns h_p1 c_ms c_ns c_p1 n_p1 v_base_a v_base_b v_ms v_ns ou0) H → va_S A s.heap H locs → decode cX3_copyInto pc = .ok (.return_, 1) → W p l e rm_X3_copyInto s m args below meth c H locs 0 0 Q (F0 m pc ls [])) (hl : lv_has ls 3 [(0, .ref h0), (1, .ref h_p1), (2, .int x2)]) : W p l e rm_X3_copyInto s m args below meth c H locs 0 0 Q (F0 m 0 ls []) := by
  obtain ⟨hx, hb, hml, hown, hts⟩ := id hC
  have hD0 := hD
  unfold F_X3_copyInto at hF
  refine lv_iload_n hx hb dX3_copyInto_0 rfl (lv_at hl 2 rfl) ?_
  refine lv_if_lt (tgt := 13) hx hb dX3_copyInto_1 (by decide) (fun g_1 => ?_) (fun g_1 => ?_)
  · replace hF := ite_t g_1 hF
    obtain rfl := Option.some.inj hF; exact hE _ _ _ _ hP hS dX3_copyInto_13
  · replace hF := ite_f g_1 hF
    refine lv_iload_n hx hb dX3_copyInto_4 rfl (lv_at hl 2 rfl) ?_
    refine lv_aload_n hx hb dX3_copyInto_5 rfl (lv_at hl 1 rfl) ?_
    refine va_alen (v := (Int32.ofNat n_p1)) hx hb hK hP 4 2 rfl rfl rfl dX3_copyInto_6 ?_
    refine lv_bipush (v := (10 : Int32)) hx hb dX3_copyInto_7 (by decide) ?_
    refine lv_isub hx hb dX3_copyInto_9 ?_
    refine lv_icmp_le (tgt := 14) hx hb dX3_copyInto_10 (by decide) (fun g_2 => ?_) (fun g_2 => ?_)
    · replace hF := ite_t g_2 hF
      refine lv_aload_n hx hb dX3_copyInto_14 rfl (lv_at hl 1 rfl) ?_
      refine lv_iload_n hx hb dX3_copyInto_15 rfl (lv_at hl 2 rfl) ?_
      refine lv_aload_n hx hb dX3_copyInto_16 rfl (lv_at hl 0 rfl) ?_
      refine va_get (D := (dC, dI)) (ci := 3) (v := .ref h_base) (C := RX3) (T := TX3) (N := 3) hx hb hts inn_X3_copyInto_X3 hown hK hP 0 rfl rfl 0 (by decide) (hts (.fieldLink RX3 12 "RingBases$State" "base" "LRingBases$Base;") (List.mem_of_getElem? (i := 1) rfl)) (fun _ h9 => h9) rfl dX3_copyInto_17 ?_
      refine va_getN (D := (dC, dI)) (ci := 0) (v := .int v_base_a) (C := RX0) (T := TX0) (N := 2) hx hb hts inn_X3_copyInto_X0 hown hK hP 1 rfl rfl 0 (by decide) (va_Nw.use rfl (hN _ (List.mem_of_getElem? (i := 2) rfl))) (fun _ h9 => h9) rfl dX3_copyInto_20 ?_
      obtain ⟨i_3, hF⟩ := ck_s hF
      refine va_iast hx hb hK hP hD hS 4 2 rfl rfl i_3 dX3_copyInto_23 (fun H locs hP hD hS => ?_)
      have hP : va_P (dC, dI) vwCl (wd_X3_copyInto h0 h_base h_ms h_ns h_p1 c_ms c_ns c_p1 n_p1 v_base_a v_base_b v_ms v_ns (upd v_p1 x2.toNatClampNeg v_base_a)) H := hP
      have hD : va_D A (wd_X3_copyInto h0 h_base h_ms h_ns h_p1 c_ms c_ns c_p1 n_p1 v_base_a v_base_b v_ms v_ns (upd v_p1 x2.toNatClampNeg v_base_a)) := hD
      refine lv_aload_n hx hb dX3_copyInto_24 rfl (lv_at hl 1 rfl) ?_
      refine lv_iload_n hx hb dX3_copyInto_25 rfl (lv_at hl 2 rfl) ?_
      refine lv_iconst (v := (1 : Int32)) hx hb dX3_copyInto_26 (by decide) ?_
      refine lv_iadd hx hb dX3_copyInto_27 ?_
      refine lv_aload_n hx hb dX3_copyInto_28 rfl (lv_at hl 0 rfl) ?_
      refine va_get (D := (dC, dI)) (ci := 3) (v := .ref h_base) (C := RX3) (T := TX3) (N := 3) hx hb hts inn_X3_copyInto_X3 hown hK hP 0 rfl rfl 0 (by decide) (hts (.fieldLink RX3 12 "RingBases$State" "base" "LRingBases$Base;") (List.mem_of_getElem? (i := 1) rfl)) (fun _ h9 => h9) rfl dX3_copyInto_29 ?_
      refine va_getN (D := (dC, dI)) (ci := 0) (v := .int v_base_b) (C := RX0) (T := TX0) (N := 2) hx hb hts inn_X3_copyInto_X0 hown hK hP 1 rfl rfl 1 (by decide) (va_Nw.use rfl (hN _ (List.mem_of_getElem? (i := 5) rfl))) (fun _ h9 => h9) rfl dX3_copyInto_32 ?_
      obtain ⟨i_4, hF⟩ := ck_s hF
      refine va_iast hx hb hK hP hD hS 4 2 rfl rfl i_4 dX3_copyInto_35 (fun H locs hP hD hS => ?_)
      have hP : va_P (dC, dI) vwCl (wd_X3_copyInto h0 h_base h_ms h_ns h_p1 c_ms c_ns c_p1 n_p1 v_base_a v_base_b v_ms v_ns (upd (upd v_p1 x2.toNatClampNeg v_base_a) (x2 + (1 : Int32)).toNatClampNeg v_base_b)) H := hP
      have hD : va_D A (wd_X3_copyInto h0 h_base h_ms h_ns h_p1 c_ms c_ns c_p1 n_p1 v_base_a v_base_b v_ms v_ns (upd (upd v_p1 x2.toNatClampNeg v_base_a) (x2 + (1 : Int32)).toNatClampNeg v_base_b)) := hD
      refine lv_aload_n hx hb dX3_copyInto_36 rfl (lv_at hl 0 rfl) ?_
      refine va_get (D := (dC, dI)) (ci := 3) (v := .ref h_ms) (C := RX3) (T := TX3) (N := 3) hx hb hts inn_X3_copyInto_X3 hown hK hP 0 rfl rfl 1 (by decide) (hts (.fieldLink RX3 18 "RingBases$State" "ms" "[I") (List.mem_of_getElem? (i := 2) rfl)) (fun _ h9 => h9) rfl dX3_copyInto_37 ?_
      refine lv_iconst (v := (0 : Int32)) hx hb dX3_copyInto_40 (by decide) ?_
      refine lv_aload_n hx hb dX3_copyInto_41 rfl (lv_at hl 1 rfl) ?_
      refine lv_iload_n hx hb dX3_copyInto_42 rfl (lv_at hl 2 rfl) ?_
      refine lv_iconst (v := (2 : Int32)) hx hb dX3_copyInto_43 (by decide) ?_
      refine lv_iadd hx hb dX3_copyInto_44 ?_
      refine lv_iconst (v := (4 : Int32)) hx hb dX3_copyInto_45 (by decide) ?_
      obtain ⟨i_5, hF⟩ := cpk_s hF
      refine va_copyi hx hb (hml.trans hl.1.symm) hown (hts (.methodLink RX3 32 arraycopyName) (List.mem_of_getElem? (i := 3) rfl)) (hts (.native arraycopyName) (List.mem_of_getElem? (i := 4) rfl)) (hts (.static arraycopyName) (List.mem_of_getElem? (i := 5) rfl)) (hts (.initialized "java/lang/System") (List.mem_of_getElem? (i := 6) rfl)) hK hP hD hS 2 4 0 2 rfl rfl rfl rfl rfl i_5.1 i_5.2.1 i_5.2.2.1 i_5.2.2.2.1 i_5.2.2.2.2 (fun _ _ => rfl) (Nat.le_of_ble_eq_true rfl) (by decide) dX3_copyInto_46 (fun H locs hP hD hS => ?_)
      have hP : va_P (dC, dI) vwCl (wd_X3_copyInto h0 h_base h_ms h_ns h_p1 c_ms c_ns c_p1 n_p1 v_base_a v_base_b v_ms v_ns (va_cpy v_ms (upd (upd v_p1 x2.toNatClampNeg v_base_a) (x2 + (1 : Int32)).toNatClampNeg v_base_b) (0 : Int32).toNatClampNeg (x2 + (2 : Int32)).toNatClampNeg (4 : Int32).toNatClampNeg)) H := hP
      have hD : va_D A (wd_X3_copyInto h0 h_base h_ms h_ns h_p1 c_ms c_ns c_p1 n_p1 v_base_a v_base_b v_ms v_ns (va_cpy v_ms (upd (upd v_p1 x2.toNatClampNeg v_base_a) (x2 + (1 : Int32)).toNatClampNeg v_base_b) (0 : Int32).toNatClampNeg (x2 + (2 : Int32)).toNatClampNeg (4 : Int32).toNatClampNeg)) := hD
      refine lv_aload_n hx hb dX3_copyInto_49 rfl (lv_at hl 0 rfl) ?_
      refine va_get (D := (dC, dI)) (ci := 3) (v := .ref h_ns) (C := RX3) (T := TX3) (N := 3) hx hb hts inn_X3_copyInto_X3 hown hK hP 0 rfl rfl 2 (by decide) (hts (.fieldLink RX3 22 "RingBases$State" "ns" "[I") (List.mem_of_getElem? (i := 7) rfl)) (fun _ h9 => h9) rfl dX3_copyInto_50 ?_
      refine lv_iconst (v := (0 : Int32)) hx hb dX3_copyInto_53 (by decide) ?_
      refine lv_aload_n hx hb dX3_copyInto_54 rfl (lv_at hl 1 rfl) ?_
      refine lv_iload_n hx hb dX3_copyInto_55 rfl (lv_at hl 2 rfl) ?_
      refine lv_iconst (v := (2 : Int32)) hx hb dX3_copyInto_56 (by decide) ?_
      refine lv_iadd hx hb dX3_copyInto_57 ?_
      refine lv_iconst (v := (4 : Int32)) hx hb dX3_copyInto_58 (by decide) ?_
      refine lv_iadd hx hb dX3_copyInto_59 ?_
      refine lv_iconst (v := (4 : Int32)) hx hb dX3_copyInto_60 (by decide) ?_
      obtain ⟨i_6, hF⟩ := cpk_s hF
      refine va_copyi hx hb (hml.trans hl.1.symm) hown (hts (.methodLink RX3 32 arraycopyName) (List.mem_of_getElem? (i := 3) rfl)) (hts (.native arraycopyName) (List.mem_of_getElem? (i := 4) rfl)) (hts (.static arraycopyName) (List.mem_of_getElem? (i := 5) rfl)) (hts (.initialized "java/lang/System") (List.mem_of_getElem? (i := 6) rfl)) hK hP hD hS 3 4 1 2 rfl rfl rfl rfl rfl i_6.1 i_6.2.1 i_6.2.2.1 i_6.2.2.2.1 i_6.2.2.2.2 (fun _ _ => rfl) (Nat.le_of_ble_eq_true rfl) (by decide) dX3_copyInto_61 (fun H locs hP hD hS => ?_)
      have hP : va_P (dC, dI) vwCl (wd_X3_copyInto h0 h_base h_ms h_ns h_p1 c_ms c_ns c_p1 n_p1 v_base_a v_base_b v_ms v_ns (va_cpy v_ns (va_cpy v_ms (upd (upd v_p1 x2.toNatClampNeg v_base_a) (x2 + (1 : Int32)).toNatClampNeg v_base_b) (0 : Int32).toNatClampNeg (x2 + (2 : Int32)).toNatClampNeg (4 : Int32).toNatClampNeg) (0 : Int32).toNatClampNeg ((x2 + (2 : Int32)) + (4 : Int32)).toNatClampNeg (4 : Int32).toNatClampNeg)) H := hP
      have hD : va_D A (wd_X3_copyInto h0 h_base h_ms h_ns h_p1 c_ms c_ns c_p1 n_p1 v_base_a v_base_b v_ms v_ns (va_cpy v_ns (va_cpy v_ms (upd (upd v_p1 x2.toNatClampNeg v_base_a) (x2 + (1 : Int32)).toNatClampNeg v_base_b) (0 : Int32).toNatClampNeg (x2 + (2 : Int32)).toNatClampNeg (4 : Int32).toNatClampNeg) (0 : Int32).toNatClampNeg ((x2 + (2 : Int32)) + (4 : Int32)).toNatClampNeg (4 : Int32).toNatClampNeg)) := hD
      obtain rfl := Option.some.inj hF; exact hE _ _ _ _ hP hS dX3_copyInto_64
    · replace hF := ite_f g_2 hF
      obtain rfl := Option.some.inj hF; exact hE _ _ _ _ hP hS dX3_copyInto_13
set_option maxRecDepth 100000 in
set_option maxHeartbeats 4000000 in
theorem c_X3_copyInto (l : Launch) (dC : Nat → ClassId) (dI : Nat → Nat → Nat) (sz : Nat) (h0 h_base h_ms h_ns h_p1 : Nat) (c_ms c_ns c_p1 : ClassId) (n_p1 : Nat) (v_base_a : Int32) (v_base_b : Int32) (v_ms : (Nat → Int32)) (v_ns : (Nat → Int32)) (v_p1 : (Nat → Int32)) (x2 : Int32) (o : (Nat → Int32)) (hF : F_X3_copyInto x2 n_p1 v_base_a v_base_b v_ms v_ns v_p1 = some o) : Met l yX3_copyInto wsX3_copyInto rm_X3_copyInto (va_Pc [.ref h0, .ref h_p1, .int x2] (PcW dC dI sz (wd_X3_copyInto h0 h_base h_ms h_ns h_p1 c_ms c_ns c_p1 n_p1 v_base_a v_base_b v_ms v_ns v_p1) [(c_ms, .int), (c_ns, .int), (c_p1, .int)])) (va_Qv (fun (_ : Unit) => True) (fun _ t => va_P (dC, dI) vwCl (wd_X3_copyInto h0 h_base h_ms h_ns h_p1 c_ms c_ns c_p1 n_p1 v_base_a v_base_b v_ms v_ns o) t.heap) (va_A (wd_X3_copyInto h0 h_base h_ms h_ns h_p1 c_ms c_ns c_p1 n_p1 v_base_a v_base_b v_ms v_ns v_p1) sz)) 0 0 (va_A (wd_X3_copyInto h0 h_base h_ms h_ns h_p1 c_ms c_ns c_p1 n_p1 v_base_a v_base_b v_ms v_ns v_p1) sz) := by
  refine Met.ofW (cc := cX3_copyInto) (maxL := 3) (ret := none) (by decide) rfl ?_
  intro p e s m args below meth c s₁ B hml hv
  obtain ⟨rfl, hsz, hP, hK, hD0, hN⟩ := hv
  subst hsz
  have hl := lv_entry ([.ref h0, .ref h_p1, .int x2]) (n := 3) (Nat.le_of_ble_eq_true rfl)
  rw [lg_entry_eq]
  generalize (lg_sl ([.ref h0, .ref h_p1, .int x2]) ++ List.replicate (3 - (lg_sl ([.ref h0, .ref h_p1, .int x2])).length) Slot.unset).toArray = ls at hl ⊢
  exact b_X3_copyInto h0 h_base h_ms h_ns h_p1 c_ms c_ns c_p1 n_p1 v_base_a v_base_b v_ms v_ns v_p1 x2 o hF ⟨B.exec, B.bytes, hml, findClass_of_methodNamed B.named, atoms_spec (ws := wsX3_copyInto) B.pre⟩ hN hK hP (fun q h => Or.inr h) (hD0.self (sz := s.heap.size)) va_S.rf (fun H locs ls pc hP hS hd => W.vret B.exec B.bytes B.returns (fun t ht hW => ⟨⟨(), rfl, trivial, by show va_P (dC, dI) vwCl _ t.heap; rw [ht]; exact hP⟩, hS.F ht⟩) hS.2.2 hd B.notSynchronized) hl
theorem inn_X1_remember_X1 : ∀ w ∈ wsX10, w ∈ wsX1_remember := fun _ h => List.mem_cons_of_mem _ (List.mem_append_left _ (List.mem_append_left _ (List.mem_append_right _ h)))
abbrev wd_X1_remember (h0 h_cells h_p1 h_p1_base h_p1_ms h_p1_ns : Nat) (c_cells c_p1_ms c_p1_ns : ClassId) (v_oldest : Int32) (v_count : Int32) (v_cells : (Nat → Int32)) (v_p1_base_a : Int32) (v_p1_base_b : Int32) (v_p1_ms : (Nat → Int32)) (v_p1_ns : (Nat → Int32)) : va_W := [(h0, .inr (1, [.ref h_cells, .int v_oldest, .int v_count])), (h_cells, .inl (c_cells, 80, .inl v_cells)), (h_p1, .inr (3, [.ref h_p1_base, .ref h_p1_ms, .ref h_p1_ns])), (h_p1_base, .inr (0, [.int v_p1_base_a, .int v_p1_base_b])), (h_p1_ms, .inl (c_p1_ms, 4, .inl v_p1_ms)), (h_p1_ns, .inl (c_p1_ns, 4, .inl v_p1_ns))]
abbrev rm_X1_remember : Room := { frames := 2, cells := 0, slots := 0, locals := 40 }
def F_X1_remember (v_oldest : Int32) (v_count : Int32) (v_cells : (Nat → Int32)) (v_p1_base_a : Int32) (v_p1_base_b : Int32) (v_p1_ms : (Nat → Int32)) (v_p1_ns : (Nat → Int32)) : Option (Int32 × Int32 × (Nat → Int32)) := ((F_X3_copyInto (((v_oldest + v_count) - (v_oldest + v_count) / (8 : Int32) * (8 : Int32)) * (10 : Int32)) 80 v_p1_base_a v_p1_base_b v_p1_ms v_p1_ns v_cells).bind fun o_1 => (if (8 : Int32) ≤ v_count then (some (((v_oldest + (1 : Int32)) - (v_oldest + (1 : Int32)) / (8 : Int32) * (8 : Int32)), v_count, o_1)) else (some (v_oldest, (v_count + (1 : Int32)), o_1))))
set_option maxRecDepth 100000 in
set_option maxHeartbeats 4000000 in
theorem b_X1_remember {p : Program} {l : Launch} {e : Env} {s : State} {m : MethodId} {args : Array Value} {below : List Frame} {meth : Method} {c : Code} {Q : State → Prop} {dC : Nat → ClassId} {dI : Nat → Nat → Nat} {H : Heap} {locs : List Loc} {ls : Array Slot} {A : Nat → Prop} (h0 h_cells h_p1 h_p1_base h_p1_ms h_p1_ns : Nat) (c_cells c_p1_ms c_p1_ns : ClassId) (v_oldest : Int32) (v_count : Int32) (v_cells : (Nat → Int32)) (v_p1_base_a : Int32) (v_p1_base_b : Int32) (v_p1_ms : (Nat → Int32)) (v_p1_ns : (Nat → Int32)) (ou0 : Int32) (ou1 : Int32) (ou2 : (Nat → Int32)) (hF : F_X1_remember v_oldest v_count v_cells v_p1_base_a v_p1_base_b v_p1_ms v_p1_ns = some (ou0, ou1, ou2)) (hC : CallFix p m c cX1_remember 2 s args wsX1_remember RX1) (hN : NW s) (hK : va_K (dC, dI) vwCl [(c_cells, .int), (c_p1_ms, .int), (c_p1_ns, .int)] s) (hP : va_P (dC, dI) vwCl (wd_X1_remember h0 h_cells h_p1 h_p1_base h_p1_ms h_p1_ns c_cells c_p1_ms c_p1_ns v_oldest v_count v_cells v_p1_base_a v_p1_base_b v_p1_ms v_p1_ns) H) (hA : ∀ q, s.heap.size ≤ q → A q) (hD : va_D A (wd_X1_remember h0 h_cells h_p1 h_p1_base h_p1_ms h_p1_ns c_cells c_p1_ms c_p1_ns v_oldest v_count v_cells v_p1_base_a v_p1_base_b v_p1_ms v_p1_ns)) (hS : va_S A s.heap H locs) (hE : ∀ (H : Heap) (locs : List Loc) (ls : Array Slot) (pc : Nat), va_P (dC, dI) vwCl (wd_X1_remember h0 h_cells h_p1 h_p1_base h_p1_ms h_p1_ns c_cells c_p1_ms c_p1_ns ou0 ou1 ou2 v_p1_base_a v_p1_base_b v_p1_ms v_p1_ns) H → va_S A s.heap H locs → decode cX1_remember pc = .ok (.return_, 1) → W p l e rm_X1_remember s m args below meth c H locs 0 0 Q (F0 m pc ls [])) (hl : lv_has ls 2 [(0, .ref h0), (1, .ref h_p1)]) : W p l e rm_X1_remember s m args below meth c H locs 0 0 Q (F0 m 0 ls []) := by
  obtain ⟨hx, hb, hml, hown, hts⟩ := id hC
  have hD0 := hD
  unfold F_X1_remember at hF
  refine lv_aload_n hx hb dX1_remember_0 rfl (lv_at hl 1 rfl) ?_
  refine lv_aload_n hx hb dX1_remember_1 rfl (lv_at hl 0 rfl) ?_
  refine va_get (D := (dC, dI)) (ci := 1) (v := .ref h_cells) (C := RX1) (T := TX1) (N := 3) hx hb hts inn_X1_remember_X1 hown hK hP 0 rfl rfl 0 (by decide) (hts (.fieldLink RX1 9 "RingBases$History" "cells" "[I") (List.mem_of_getElem? (i := 1) rfl)) (fun _ h9 => h9) rfl dX1_remember_2 ?_
  refine lv_aload_n hx hb dX1_remember_5 rfl (lv_at hl 0 rfl) ?_
  refine va_get (D := (dC, dI)) (ci := 1) (v := .int v_oldest) (C := RX1) (T := TX1) (N := 3) hx hb hts inn_X1_remember_X1 hown hK hP 0 rfl rfl 1 (by decide) (hts (.fieldLink RX1 15 "RingBases$History" "oldest" "I") (List.mem_of_getElem? (i := 2) rfl)) (fun _ h9 => h9) rfl dX1_remember_6 ?_
  refine lv_aload_n hx hb dX1_remember_9 rfl (lv_at hl 0 rfl) ?_
  refine va_get (D := (dC, dI)) (ci := 1) (v := .int v_count) (C := RX1) (T := TX1) (N := 3) hx hb hts inn_X1_remember_X1 hown hK hP 0 rfl rfl 2 (by decide) (hts (.fieldLink RX1 19 "RingBases$History" "count" "I") (List.mem_of_getElem? (i := 3) rfl)) (fun _ h9 => h9) rfl dX1_remember_10 ?_
  refine lv_iadd hx hb dX1_remember_13 ?_
  refine lv_bipush (v := (8 : Int32)) hx hb dX1_remember_14 (by decide) ?_
  refine lv_irem hx hb dX1_remember_16 (by decide) ?_
  refine lv_bipush (v := (10 : Int32)) hx hb dX1_remember_17 (by decide) ?_
  refine lv_imul hx hb dX1_remember_19 ?_
  obtain ⟨o_1, hc_o_1, hF⟩ := bd_s hF
  refine wrVv (wc' := (wd_X3_copyInto h_p1 h_p1_base h_p1_ms h_p1_ns h_cells c_p1_ms c_p1_ns c_cells 80 v_p1_base_a v_p1_base_b v_p1_ms v_p1_ns o_1)) (As := [.ref h_cells, .int (((v_oldest + v_count) - (v_oldest + v_count) / (8 : Int32) * (8 : Int32)) * (10 : Int32))]) (rest := []) (b := h_p1) hC (c_X3_copyInto l dC dI H.size h_p1 h_p1_base h_p1_ms h_p1_ns h_cells c_p1_ms c_p1_ns c_cells 80 v_p1_base_a v_p1_base_b v_p1_ms v_p1_ns v_cells (((v_oldest + v_count) - (v_oldest + v_count) / (8 : Int32) * (8 : Int32)) * (10 : Int32)) o_1 hc_o_1) (cwV 2 hts gX1_remember_X3_copyInto rfl rfl rfl (by decide +kernel) ⟨Nat.le_of_ble_eq_true rfl, Nat.le_of_ble_eq_true rfl⟩) hN (hK.sub (tys' := [(c_p1_ms, .int), (c_p1_ns, .int), (c_cells, .int)]) [1, 2, 0] rfl) hP hD hS hA [2, 3, 4, 5, 1] rfl rfl rfl rfl 0 3 rfl rfl rfl rfl hl.1 (Nat.le_of_ble_eq_true rfl) dX1_remember_20 ⟨Nat.zero_le _, Nat.zero_le _⟩ (fun H locs hP hS => ?_)
  have hP : va_P (dC, dI) vwCl (wd_X1_remember h0 h_cells h_p1 h_p1_base h_p1_ms h_p1_ns c_cells c_p1_ms c_p1_ns v_oldest v_count o_1 v_p1_base_a v_p1_base_b v_p1_ms v_p1_ns) H := hP
  have hD : va_D A (wd_X1_remember h0 h_cells h_p1 h_p1_base h_p1_ms h_p1_ns c_cells c_p1_ms c_p1_ns v_oldest v_count o_1 v_p1_base_a v_p1_base_b v_p1_ms v_p1_ns) := va_D.re hD rfl
  refine lv_aload_n hx hb dX1_remember_23 rfl (lv_at hl 0 rfl) ?_
  refine va_get (D := (dC, dI)) (ci := 1) (v := .int v_count) (C := RX1) (T := TX1) (N := 3) hx hb hts inn_X1_remember_X1 hown hK hP 0 rfl rfl 2 (by decide) (hts (.fieldLink RX1 19 "RingBases$History" "count" "I") (List.mem_of_getElem? (i := 3) rfl)) (fun _ h9 => h9) rfl dX1_remember_24 ?_
  refine lv_bipush (v := (8 : Int32)) hx hb dX1_remember_27 (by decide) ?_
  refine lv_icmp_ge (tgt := 45) hx hb dX1_remember_29 (by decide) (fun g_2 => ?_) (fun g_2 => ?_)
  · replace hF := ite_t g_2 hF
    refine lv_aload_n hx hb dX1_remember_45 rfl (lv_at hl 0 rfl) ?_
    refine lv_aload_n hx hb dX1_remember_46 rfl (lv_at hl 0 rfl) ?_
    refine va_get (D := (dC, dI)) (ci := 1) (v := .int v_oldest) (C := RX1) (T := TX1) (N := 3) hx hb hts inn_X1_remember_X1 hown hK hP 0 rfl rfl 1 (by decide) (hts (.fieldLink RX1 15 "RingBases$History" "oldest" "I") (List.mem_of_getElem? (i := 2) rfl)) (fun _ h9 => h9) rfl dX1_remember_47 ?_
    refine lv_iconst (v := (1 : Int32)) hx hb dX1_remember_50 (by decide) ?_
    refine lv_iadd hx hb dX1_remember_51 ?_
    refine lv_bipush (v := (8 : Int32)) hx hb dX1_remember_52 (by decide) ?_
    refine lv_irem hx hb dX1_remember_54 (by decide) ?_
    refine va_put (D := (dC, dI)) (ty := .int) (ci := 1) (v := .int ((v_oldest + (1 : Int32)) - (v_oldest + (1 : Int32)) / (8 : Int32) * (8 : Int32))) (C := RX1) (T := TX1) (N := 3) hx hb hts inn_X1_remember_X1 tyX1 tyX1_ok nmX1 hown hK hP hD hS 0 rfl rfl 1 (by decide) (hts (.fieldLink RX1 15 "RingBases$History" "oldest" "I") (List.mem_of_getElem? (i := 2) rfl)) (fun _ h9 => h9) rfl (by decide +kernel) rfl rfl (Nat.le_of_ble_eq_true rfl) dX1_remember_55 (fun H locs hP hD hS => ?_)
    have hP : va_P (dC, dI) vwCl (wd_X1_remember h0 h_cells h_p1 h_p1_base h_p1_ms h_p1_ns c_cells c_p1_ms c_p1_ns ((v_oldest + (1 : Int32)) - (v_oldest + (1 : Int32)) / (8 : Int32) * (8 : Int32)) v_count o_1 v_p1_base_a v_p1_base_b v_p1_ms v_p1_ns) H := hP
    have hD : va_D A (wd_X1_remember h0 h_cells h_p1 h_p1_base h_p1_ms h_p1_ns c_cells c_p1_ms c_p1_ns ((v_oldest + (1 : Int32)) - (v_oldest + (1 : Int32)) / (8 : Int32) * (8 : Int32)) v_count o_1 v_p1_base_a v_p1_base_b v_p1_ms v_p1_ns) := hD
    obtain ⟨rfl, rfl, rfl⟩ := oks3 hF; exact hE _ _ _ _ hP hS dX1_remember_58
  · replace hF := ite_f g_2 hF
    refine lv_aload_n hx hb dX1_remember_32 rfl (lv_at hl 0 rfl) ?_
    refine lv_dup hx hb dX1_remember_33 rfl ?_
    refine va_get (D := (dC, dI)) (ci := 1) (v := .int v_count) (C := RX1) (T := TX1) (N := 3) hx hb hts inn_X1_remember_X1 hown hK hP 0 rfl rfl 2 (by decide) (hts (.fieldLink RX1 19 "RingBases$History" "count" "I") (List.mem_of_getElem? (i := 3) rfl)) (fun _ h9 => h9) rfl dX1_remember_34 ?_
    refine lv_iconst (v := (1 : Int32)) hx hb dX1_remember_37 (by decide) ?_
    refine lv_iadd hx hb dX1_remember_38 ?_
    refine va_put (D := (dC, dI)) (ty := .int) (ci := 1) (v := .int (v_count + (1 : Int32))) (C := RX1) (T := TX1) (N := 3) hx hb hts inn_X1_remember_X1 tyX1 tyX1_ok nmX1 hown hK hP hD hS 0 rfl rfl 2 (by decide) (hts (.fieldLink RX1 19 "RingBases$History" "count" "I") (List.mem_of_getElem? (i := 3) rfl)) (fun _ h9 => h9) rfl (by decide +kernel) rfl rfl (Nat.le_of_ble_eq_true rfl) dX1_remember_39 (fun H locs hP hD hS => ?_)
    have hP : va_P (dC, dI) vwCl (wd_X1_remember h0 h_cells h_p1 h_p1_base h_p1_ms h_p1_ns c_cells c_p1_ms c_p1_ns v_oldest (v_count + (1 : Int32)) o_1 v_p1_base_a v_p1_base_b v_p1_ms v_p1_ns) H := hP
    have hD : va_D A (wd_X1_remember h0 h_cells h_p1 h_p1_base h_p1_ms h_p1_ns c_cells c_p1_ms c_p1_ns v_oldest (v_count + (1 : Int32)) o_1 v_p1_base_a v_p1_base_b v_p1_ms v_p1_ns) := hD
    refine lv_goto (tgt := 58) hx hb dX1_remember_42 (by decide) ?_
    obtain ⟨rfl, rfl, rfl⟩ := oks3 hF; exact hE _ _ _ _ hP hS dX1_remember_58
set_option maxRecDepth 100000 in
set_option maxHeartbeats 4000000 in
theorem c_X1_remember (l : Launch) (dC : Nat → ClassId) (dI : Nat → Nat → Nat) (sz : Nat) (h0 h_cells h_p1 h_p1_base h_p1_ms h_p1_ns : Nat) (c_cells c_p1_ms c_p1_ns : ClassId) (v_oldest : Int32) (v_count : Int32) (v_cells : (Nat → Int32)) (v_p1_base_a : Int32) (v_p1_base_b : Int32) (v_p1_ms : (Nat → Int32)) (v_p1_ns : (Nat → Int32)) (o : Int32 × Int32 × (Nat → Int32)) (hF : F_X1_remember v_oldest v_count v_cells v_p1_base_a v_p1_base_b v_p1_ms v_p1_ns = some o) : Met l yX1_remember wsX1_remember rm_X1_remember (va_Pc [.ref h0, .ref h_p1] (PcW dC dI sz (wd_X1_remember h0 h_cells h_p1 h_p1_base h_p1_ms h_p1_ns c_cells c_p1_ms c_p1_ns v_oldest v_count v_cells v_p1_base_a v_p1_base_b v_p1_ms v_p1_ns) [(c_cells, .int), (c_p1_ms, .int), (c_p1_ns, .int)])) (va_Qv (fun (_ : Unit) => True) (fun _ t => va_P (dC, dI) vwCl (wd_X1_remember h0 h_cells h_p1 h_p1_base h_p1_ms h_p1_ns c_cells c_p1_ms c_p1_ns o.1 o.2.1 o.2.2 v_p1_base_a v_p1_base_b v_p1_ms v_p1_ns) t.heap) (va_A (wd_X1_remember h0 h_cells h_p1 h_p1_base h_p1_ms h_p1_ns c_cells c_p1_ms c_p1_ns v_oldest v_count v_cells v_p1_base_a v_p1_base_b v_p1_ms v_p1_ns) sz)) 0 0 (va_A (wd_X1_remember h0 h_cells h_p1 h_p1_base h_p1_ms h_p1_ns c_cells c_p1_ms c_p1_ns v_oldest v_count v_cells v_p1_base_a v_p1_base_b v_p1_ms v_p1_ns) sz) := by
  refine Met.ofW (cc := cX1_remember) (maxL := 2) (ret := none) (by decide) rfl ?_
  intro p e s m args below meth c s₁ B hml hv
  obtain ⟨rfl, hsz, hP, hK, hD0, hN⟩ := hv
  subst hsz
  have hl := lv_entry ([.ref h0, .ref h_p1]) (n := 2) (Nat.le_of_ble_eq_true rfl)
  rw [lg_entry_eq]
  generalize (lg_sl ([.ref h0, .ref h_p1]) ++ List.replicate (2 - (lg_sl ([.ref h0, .ref h_p1])).length) Slot.unset).toArray = ls at hl ⊢
  exact b_X1_remember h0 h_cells h_p1 h_p1_base h_p1_ms h_p1_ns c_cells c_p1_ms c_p1_ns v_oldest v_count v_cells v_p1_base_a v_p1_base_b v_p1_ms v_p1_ns o.1 o.2.1 o.2.2 hF ⟨B.exec, B.bytes, hml, findClass_of_methodNamed B.named, atoms_spec (ws := wsX1_remember) B.pre⟩ hN hK hP (fun q h => Or.inr h) (hD0.self (sz := s.heap.size)) va_S.rf (fun H locs ls pc hP hS hd => W.vret B.exec B.bytes B.returns (fun t ht hW => ⟨⟨(), rfl, trivial, by show va_P (dC, dI) vwCl _ t.heap; rw [ht]; exact hP⟩, hS.F ht⟩) hS.2.2 hd B.notSynchronized) hl
theorem inn_X3_copyFrom_X3 : ∀ w ∈ wsX30, w ∈ wsX3_copyFrom := fun _ h => List.mem_cons_of_mem _ (List.mem_append_left _ (List.mem_append_right _ h))
abbrev wd_X3_copyFrom (h0 h_base h_ms h_ns h_p1 : Nat) (c_ms c_ns c_p1 : ClassId) (n_p1 : Nat) (v_base_a : Int32) (v_base_b : Int32) (v_ms : (Nat → Int32)) (v_ns : (Nat → Int32)) (v_p1 : (Nat → Int32)) : va_W := [(h0, .inr (3, [.ref h_base, .ref h_ms, .ref h_ns])), (h_base, .inr (0, [.int v_base_a, .int v_base_b])), (h_ms, .inl (c_ms, 4, .inl v_ms)), (h_ns, .inl (c_ns, 4, .inl v_ns)), (h_p1, .inl (c_p1, n_p1, .inl v_p1))]
abbrev rm_X3_copyFrom : Room := { frames := 1, cells := 0, slots := 0, locals := 22 }
def F_X3_copyFrom (x2 : Int32) (n_p1 : Nat) (v_base_a : Int32) (v_base_b : Int32) (v_ms : (Nat → Int32)) (v_ns : (Nat → Int32)) (v_p1 : (Nat → Int32)) : Option (Int32 × Int32 × (Nat → Int32) × (Nat → Int32)) := (if x2 < 0 then (some (v_base_a, v_base_b, v_ms, v_ns)) else (if x2 ≤ ((Int32.ofNat n_p1) - (10 : Int32)) then (ck x2 n_p1 (ck (x2 + (1 : Int32)) n_p1 (cpk (x2 + (2 : Int32)) (0 : Int32) (4 : Int32) n_p1 4 (cpk ((x2 + (2 : Int32)) + (4 : Int32)) (0 : Int32) (4 : Int32) n_p1 4 (some ((F_X0_become (v_p1 x2.toNatClampNeg) (v_p1 (x2 + (1 : Int32)).toNatClampNeg)).1, (F_X0_become (v_p1 x2.toNatClampNeg) (v_p1 (x2 + (1 : Int32)).toNatClampNeg)).2, (va_cpy v_p1 v_ms (x2 + (2 : Int32)).toNatClampNeg (0 : Int32).toNatClampNeg (4 : Int32).toNatClampNeg), (va_cpy v_p1 v_ns ((x2 + (2 : Int32)) + (4 : Int32)).toNatClampNeg (0 : Int32).toNatClampNeg (4 : Int32).toNatClampNeg))))))) else (some (v_base_a, v_base_b, v_ms, v_ns))))
set_option maxRecDepth 100000 in
set_option maxHeartbeats 4000000 in
theorem b_X3_copyFrom {p : Program} {l : Launch} {e : Env} {s : State} {m : MethodId} {args : Array Value} {below : List Frame} {meth : Method} {c : Code} {Q : State → Prop} {dC : Nat → ClassId} {dI : Nat → Nat → Nat} {H : Heap} {locs : List Loc} {ls : Array Slot} {A : Nat → Prop} (h0 h_base h_ms h_ns h_p1 : Nat) (c_ms c_ns c_p1 : ClassId) (n_p1 : Nat) (v_base_a : Int32) (v_base_b : Int32) (v_ms : (Nat → Int32)) (v_ns : (Nat → Int32)) (v_p1 : (Nat → Int32)) (x2 : Int32) (ou0 : Int32) (ou1 : Int32) (ou2 : (Nat → Int32)) (ou3 : (Nat → Int32)) (hF : F_X3_copyFrom x2 n_p1 v_base_a v_base_b v_ms v_ns v_p1 = some (ou0, ou1, ou2, ou3)) (hC : CallFix p m c cX3_copyFrom 3 s args wsX3_copyFrom RX3) (hN : NW s) (hK : va_K (dC, dI) vwCl [(c_ms, .int), (c_ns, .int), (c_p1, .int)] s) (hP : va_P (dC, dI) vwCl (wd_X3_copyFrom h0 h_base h_ms h_ns h_p1 c_ms c_ns c_p1 n_p1 v_base_a v_base_b v_ms v_ns v_p1) H) (hA : ∀ q, s.heap.size ≤ q → A q) (hD : va_D A (wd_X3_copyFrom h0 h_base h_ms h_ns h_p1 c_ms c_ns c_p1 n_p1 v_base_a v_base_b v_ms v_ns v_p1)) (hS : va_S A s.heap H locs) (hE : ∀ (H : Heap) (locs : List Loc) (ls : Array Slot) (pc : Nat), va_P (dC, dI) vwCl (wd_X3_copyFrom h0 h_base h_ms h_ns h_p1 c_ms c_ns c_p1 n_p1 ou0 ou1 ou2 ou3 v_p1) H → va_S A s.heap H locs → decode cX3_copyFrom pc = .ok (.return_, 1) → W p l e rm_X3_copyFrom s m args below meth c H locs 0 0 Q (F0 m pc ls [])) (hl : lv_has ls 3 [(0, .ref h0), (1, .ref h_p1), (2, .int x2)]) : W p l e rm_X3_copyFrom s m args below meth c H locs 0 0 Q (F0 m 0 ls []) := by
  obtain ⟨hx, hb, hml, hown, hts⟩ := id hC
  have hD0 := hD
  unfold F_X3_copyFrom at hF
  refine lv_iload_n hx hb dX3_copyFrom_0 rfl (lv_at hl 2 rfl) ?_
  refine lv_if_lt (tgt := 13) hx hb dX3_copyFrom_1 (by decide) (fun g_1 => ?_) (fun g_1 => ?_)
  · replace hF := ite_t g_1 hF
    obtain ⟨rfl, rfl, rfl, rfl⟩ := oks4 hF; exact hE _ _ _ _ hP hS dX3_copyFrom_13
  · replace hF := ite_f g_1 hF
    refine lv_iload_n hx hb dX3_copyFrom_4 rfl (lv_at hl 2 rfl) ?_
    refine lv_aload_n hx hb dX3_copyFrom_5 rfl (lv_at hl 1 rfl) ?_
    refine va_alen (v := (Int32.ofNat n_p1)) hx hb hK hP 4 2 rfl rfl rfl dX3_copyFrom_6 ?_
    refine lv_bipush (v := (10 : Int32)) hx hb dX3_copyFrom_7 (by decide) ?_
    refine lv_isub hx hb dX3_copyFrom_9 ?_
    refine lv_icmp_le (tgt := 14) hx hb dX3_copyFrom_10 (by decide) (fun g_2 => ?_) (fun g_2 => ?_)
    · replace hF := ite_t g_2 hF
      refine lv_aload_n hx hb dX3_copyFrom_14 rfl (lv_at hl 0 rfl) ?_
      refine va_get (D := (dC, dI)) (ci := 3) (v := .ref h_base) (C := RX3) (T := TX3) (N := 3) hx hb hts inn_X3_copyFrom_X3 hown hK hP 0 rfl rfl 0 (by decide) (hts (.fieldLink RX3 12 "RingBases$State" "base" "LRingBases$Base;") (List.mem_of_getElem? (i := 1) rfl)) (fun _ h9 => h9) rfl dX3_copyFrom_15 ?_
      refine lv_aload_n hx hb dX3_copyFrom_18 rfl (lv_at hl 1 rfl) ?_
      refine lv_iload_n hx hb dX3_copyFrom_19 rfl (lv_at hl 2 rfl) ?_
      obtain ⟨i_3, hF⟩ := ck_s hF
      refine va_iald hx hb hK hP 4 2 rfl rfl i_3 dX3_copyFrom_20 ?_
      refine lv_aload_n hx hb dX3_copyFrom_21 rfl (lv_at hl 1 rfl) ?_
      refine lv_iload_n hx hb dX3_copyFrom_22 rfl (lv_at hl 2 rfl) ?_
      refine lv_iconst (v := (1 : Int32)) hx hb dX3_copyFrom_23 (by decide) ?_
      refine lv_iadd hx hb dX3_copyFrom_24 ?_
      obtain ⟨i_4, hF⟩ := ck_s hF
      refine va_iald hx hb hK hP 4 2 rfl rfl i_4 dX3_copyFrom_25 ?_
      refine wrVv (wc' := (wd_X0_become h_base ((F_X0_become (v_p1 x2.toNatClampNeg) (v_p1 (x2 + (1 : Int32)).toNatClampNeg)).1) ((F_X0_become (v_p1 x2.toNatClampNeg) (v_p1 (x2 + (1 : Int32)).toNatClampNeg)).2))) (As := [.int (v_p1 x2.toNatClampNeg), .int (v_p1 (x2 + (1 : Int32)).toNatClampNeg)]) (rest := []) (b := h_base) hC (c_X0_become l dC dI H.size h_base v_base_a v_base_b (v_p1 x2.toNatClampNeg) (v_p1 (x2 + (1 : Int32)).toNatClampNeg) (F_X0_become (v_p1 x2.toNatClampNeg) (v_p1 (x2 + (1 : Int32)).toNatClampNeg)) rfl) (cwV 2 hts gX3_copyFrom_X0_become rfl rfl rfl (by decide +kernel) ⟨Nat.le_of_ble_eq_true rfl, Nat.le_of_ble_eq_true rfl⟩) hN (hK.sub (tys' := []) [] rfl) hP hD hS hA [1] rfl rfl rfl rfl 0 0 rfl rfl rfl rfl hl.1 (Nat.le_of_ble_eq_true rfl) dX3_copyFrom_26 ⟨Nat.zero_le _, Nat.zero_le _⟩ (fun H locs hP hS => ?_)
      have hP : va_P (dC, dI) vwCl (wd_X3_copyFrom h0 h_base h_ms h_ns h_p1 c_ms c_ns c_p1 n_p1 (F_X0_become (v_p1 x2.toNatClampNeg) (v_p1 (x2 + (1 : Int32)).toNatClampNeg)).1 (F_X0_become (v_p1 x2.toNatClampNeg) (v_p1 (x2 + (1 : Int32)).toNatClampNeg)).2 v_ms v_ns v_p1) H := hP
      have hD : va_D A (wd_X3_copyFrom h0 h_base h_ms h_ns h_p1 c_ms c_ns c_p1 n_p1 (F_X0_become (v_p1 x2.toNatClampNeg) (v_p1 (x2 + (1 : Int32)).toNatClampNeg)).1 (F_X0_become (v_p1 x2.toNatClampNeg) (v_p1 (x2 + (1 : Int32)).toNatClampNeg)).2 v_ms v_ns v_p1) := va_D.re hD rfl
      refine lv_aload_n hx hb dX3_copyFrom_29 rfl (lv_at hl 1 rfl) ?_
      refine lv_iload_n hx hb dX3_copyFrom_30 rfl (lv_at hl 2 rfl) ?_
      refine lv_iconst (v := (2 : Int32)) hx hb dX3_copyFrom_31 (by decide) ?_
      refine lv_iadd hx hb dX3_copyFrom_32 ?_
      refine lv_aload_n hx hb dX3_copyFrom_33 rfl (lv_at hl 0 rfl) ?_
      refine va_get (D := (dC, dI)) (ci := 3) (v := .ref h_ms) (C := RX3) (T := TX3) (N := 3) hx hb hts inn_X3_copyFrom_X3 hown hK hP 0 rfl rfl 1 (by decide) (hts (.fieldLink RX3 18 "RingBases$State" "ms" "[I") (List.mem_of_getElem? (i := 2) rfl)) (fun _ h9 => h9) rfl dX3_copyFrom_34 ?_
      refine lv_iconst (v := (0 : Int32)) hx hb dX3_copyFrom_37 (by decide) ?_
      refine lv_iconst (v := (4 : Int32)) hx hb dX3_copyFrom_38 (by decide) ?_
      obtain ⟨i_5, hF⟩ := cpk_s hF
      refine va_copyi hx hb (hml.trans hl.1.symm) hown (hts (.methodLink RX3 32 arraycopyName) (List.mem_of_getElem? (i := 3) rfl)) (hts (.native arraycopyName) (List.mem_of_getElem? (i := 4) rfl)) (hts (.static arraycopyName) (List.mem_of_getElem? (i := 5) rfl)) (hts (.initialized "java/lang/System") (List.mem_of_getElem? (i := 6) rfl)) hK hP hD hS 4 2 2 0 rfl rfl rfl rfl rfl i_5.1 i_5.2.1 i_5.2.2.1 i_5.2.2.2.1 i_5.2.2.2.2 (fun _ _ => rfl) (Nat.le_of_ble_eq_true rfl) (by decide) dX3_copyFrom_39 (fun H locs hP hD hS => ?_)
      have hP : va_P (dC, dI) vwCl (wd_X3_copyFrom h0 h_base h_ms h_ns h_p1 c_ms c_ns c_p1 n_p1 (F_X0_become (v_p1 x2.toNatClampNeg) (v_p1 (x2 + (1 : Int32)).toNatClampNeg)).1 (F_X0_become (v_p1 x2.toNatClampNeg) (v_p1 (x2 + (1 : Int32)).toNatClampNeg)).2 (va_cpy v_p1 v_ms (x2 + (2 : Int32)).toNatClampNeg (0 : Int32).toNatClampNeg (4 : Int32).toNatClampNeg) v_ns v_p1) H := hP
      have hD : va_D A (wd_X3_copyFrom h0 h_base h_ms h_ns h_p1 c_ms c_ns c_p1 n_p1 (F_X0_become (v_p1 x2.toNatClampNeg) (v_p1 (x2 + (1 : Int32)).toNatClampNeg)).1 (F_X0_become (v_p1 x2.toNatClampNeg) (v_p1 (x2 + (1 : Int32)).toNatClampNeg)).2 (va_cpy v_p1 v_ms (x2 + (2 : Int32)).toNatClampNeg (0 : Int32).toNatClampNeg (4 : Int32).toNatClampNeg) v_ns v_p1) := hD
      refine lv_aload_n hx hb dX3_copyFrom_42 rfl (lv_at hl 1 rfl) ?_
      refine lv_iload_n hx hb dX3_copyFrom_43 rfl (lv_at hl 2 rfl) ?_
      refine lv_iconst (v := (2 : Int32)) hx hb dX3_copyFrom_44 (by decide) ?_
      refine lv_iadd hx hb dX3_copyFrom_45 ?_
      refine lv_iconst (v := (4 : Int32)) hx hb dX3_copyFrom_46 (by decide) ?_
      refine lv_iadd hx hb dX3_copyFrom_47 ?_
      refine lv_aload_n hx hb dX3_copyFrom_48 rfl (lv_at hl 0 rfl) ?_
      refine va_get (D := (dC, dI)) (ci := 3) (v := .ref h_ns) (C := RX3) (T := TX3) (N := 3) hx hb hts inn_X3_copyFrom_X3 hown hK hP 0 rfl rfl 2 (by decide) (hts (.fieldLink RX3 22 "RingBases$State" "ns" "[I") (List.mem_of_getElem? (i := 7) rfl)) (fun _ h9 => h9) rfl dX3_copyFrom_49 ?_
      refine lv_iconst (v := (0 : Int32)) hx hb dX3_copyFrom_52 (by decide) ?_
      refine lv_iconst (v := (4 : Int32)) hx hb dX3_copyFrom_53 (by decide) ?_
      obtain ⟨i_6, hF⟩ := cpk_s hF
      refine va_copyi hx hb (hml.trans hl.1.symm) hown (hts (.methodLink RX3 32 arraycopyName) (List.mem_of_getElem? (i := 3) rfl)) (hts (.native arraycopyName) (List.mem_of_getElem? (i := 4) rfl)) (hts (.static arraycopyName) (List.mem_of_getElem? (i := 5) rfl)) (hts (.initialized "java/lang/System") (List.mem_of_getElem? (i := 6) rfl)) hK hP hD hS 4 3 2 1 rfl rfl rfl rfl rfl i_6.1 i_6.2.1 i_6.2.2.1 i_6.2.2.2.1 i_6.2.2.2.2 (fun _ _ => rfl) (Nat.le_of_ble_eq_true rfl) (by decide) dX3_copyFrom_54 (fun H locs hP hD hS => ?_)
      have hP : va_P (dC, dI) vwCl (wd_X3_copyFrom h0 h_base h_ms h_ns h_p1 c_ms c_ns c_p1 n_p1 (F_X0_become (v_p1 x2.toNatClampNeg) (v_p1 (x2 + (1 : Int32)).toNatClampNeg)).1 (F_X0_become (v_p1 x2.toNatClampNeg) (v_p1 (x2 + (1 : Int32)).toNatClampNeg)).2 (va_cpy v_p1 v_ms (x2 + (2 : Int32)).toNatClampNeg (0 : Int32).toNatClampNeg (4 : Int32).toNatClampNeg) (va_cpy v_p1 v_ns ((x2 + (2 : Int32)) + (4 : Int32)).toNatClampNeg (0 : Int32).toNatClampNeg (4 : Int32).toNatClampNeg) v_p1) H := hP
      have hD : va_D A (wd_X3_copyFrom h0 h_base h_ms h_ns h_p1 c_ms c_ns c_p1 n_p1 (F_X0_become (v_p1 x2.toNatClampNeg) (v_p1 (x2 + (1 : Int32)).toNatClampNeg)).1 (F_X0_become (v_p1 x2.toNatClampNeg) (v_p1 (x2 + (1 : Int32)).toNatClampNeg)).2 (va_cpy v_p1 v_ms (x2 + (2 : Int32)).toNatClampNeg (0 : Int32).toNatClampNeg (4 : Int32).toNatClampNeg) (va_cpy v_p1 v_ns ((x2 + (2 : Int32)) + (4 : Int32)).toNatClampNeg (0 : Int32).toNatClampNeg (4 : Int32).toNatClampNeg) v_p1) := hD
      obtain ⟨rfl, rfl, rfl, rfl⟩ := oks4 hF; exact hE _ _ _ _ hP hS dX3_copyFrom_57
    · replace hF := ite_f g_2 hF
      obtain ⟨rfl, rfl, rfl, rfl⟩ := oks4 hF; exact hE _ _ _ _ hP hS dX3_copyFrom_13
set_option maxRecDepth 100000 in
set_option maxHeartbeats 4000000 in
theorem c_X3_copyFrom (l : Launch) (dC : Nat → ClassId) (dI : Nat → Nat → Nat) (sz : Nat) (h0 h_base h_ms h_ns h_p1 : Nat) (c_ms c_ns c_p1 : ClassId) (n_p1 : Nat) (v_base_a : Int32) (v_base_b : Int32) (v_ms : (Nat → Int32)) (v_ns : (Nat → Int32)) (v_p1 : (Nat → Int32)) (x2 : Int32) (o : Int32 × Int32 × (Nat → Int32) × (Nat → Int32)) (hF : F_X3_copyFrom x2 n_p1 v_base_a v_base_b v_ms v_ns v_p1 = some o) : Met l yX3_copyFrom wsX3_copyFrom rm_X3_copyFrom (va_Pc [.ref h0, .ref h_p1, .int x2] (PcW dC dI sz (wd_X3_copyFrom h0 h_base h_ms h_ns h_p1 c_ms c_ns c_p1 n_p1 v_base_a v_base_b v_ms v_ns v_p1) [(c_ms, .int), (c_ns, .int), (c_p1, .int)])) (va_Qv (fun (_ : Unit) => True) (fun _ t => va_P (dC, dI) vwCl (wd_X3_copyFrom h0 h_base h_ms h_ns h_p1 c_ms c_ns c_p1 n_p1 o.1 o.2.1 o.2.2.1 o.2.2.2 v_p1) t.heap) (va_A (wd_X3_copyFrom h0 h_base h_ms h_ns h_p1 c_ms c_ns c_p1 n_p1 v_base_a v_base_b v_ms v_ns v_p1) sz)) 0 0 (va_A (wd_X3_copyFrom h0 h_base h_ms h_ns h_p1 c_ms c_ns c_p1 n_p1 v_base_a v_base_b v_ms v_ns v_p1) sz) := by
  refine Met.ofW (cc := cX3_copyFrom) (maxL := 3) (ret := none) (by decide) rfl ?_
  intro p e s m args below meth c s₁ B hml hv
  obtain ⟨rfl, hsz, hP, hK, hD0, hN⟩ := hv
  subst hsz
  have hl := lv_entry ([.ref h0, .ref h_p1, .int x2]) (n := 3) (Nat.le_of_ble_eq_true rfl)
  rw [lg_entry_eq]
  generalize (lg_sl ([.ref h0, .ref h_p1, .int x2]) ++ List.replicate (3 - (lg_sl ([.ref h0, .ref h_p1, .int x2])).length) Slot.unset).toArray = ls at hl ⊢
  exact b_X3_copyFrom h0 h_base h_ms h_ns h_p1 c_ms c_ns c_p1 n_p1 v_base_a v_base_b v_ms v_ns v_p1 x2 o.1 o.2.1 o.2.2.1 o.2.2.2 hF ⟨B.exec, B.bytes, hml, findClass_of_methodNamed B.named, atoms_spec (ws := wsX3_copyFrom) B.pre⟩ hN hK hP (fun q h => Or.inr h) (hD0.self (sz := s.heap.size)) va_S.rf (fun H locs ls pc hP hS hd => W.vret B.exec B.bytes B.returns (fun t ht hW => ⟨⟨(), rfl, trivial, by show va_P (dC, dI) vwCl _ t.heap; rw [ht]; exact hP⟩, hS.F ht⟩) hS.2.2 hd B.notSynchronized) hl
theorem inn_X1_takeBack_X1 : ∀ w ∈ wsX10, w ∈ wsX1_takeBack := fun _ h => List.mem_cons_of_mem _ (List.mem_append_left _ (List.mem_append_left _ (List.mem_append_right _ h)))
abbrev wd_X1_takeBack (h0 h_cells h_p1 h_p1_base h_p1_ms h_p1_ns : Nat) (c_cells c_p1_ms c_p1_ns : ClassId) (v_oldest : Int32) (v_count : Int32) (v_cells : (Nat → Int32)) (v_p1_base_a : Int32) (v_p1_base_b : Int32) (v_p1_ms : (Nat → Int32)) (v_p1_ns : (Nat → Int32)) : va_W := [(h0, .inr (1, [.ref h_cells, .int v_oldest, .int v_count])), (h_cells, .inl (c_cells, 80, .inl v_cells)), (h_p1, .inr (3, [.ref h_p1_base, .ref h_p1_ms, .ref h_p1_ns])), (h_p1_base, .inr (0, [.int v_p1_base_a, .int v_p1_base_b])), (h_p1_ms, .inl (c_p1_ms, 4, .inl v_p1_ms)), (h_p1_ns, .inl (c_p1_ns, 4, .inl v_p1_ns))]
abbrev rm_X1_takeBack : Room := { frames := 2, cells := 0, slots := 0, locals := 44 }
def F_X1_takeBack (v_oldest : Int32) (v_count : Int32) (v_cells : (Nat → Int32)) (v_p1_base_a : Int32) (v_p1_base_b : Int32) (v_p1_ms : (Nat → Int32)) (v_p1_ns : (Nat → Int32)) : Option (Int32 × Int32 × Int32 × (Nat → Int32) × (Nat → Int32)) := (if v_count = 0 then (some (v_count, v_p1_base_a, v_p1_base_b, v_p1_ms, v_p1_ns)) else ((F_X3_copyFrom (((v_oldest + (v_count - (1 : Int32))) - (v_oldest + (v_count - (1 : Int32))) / (8 : Int32) * (8 : Int32)) * (10 : Int32)) 80 v_p1_base_a v_p1_base_b v_p1_ms v_p1_ns v_cells).bind fun o_2 => (some ((v_count - (1 : Int32)), o_2.1, o_2.2.1, o_2.2.2.1, o_2.2.2.2))))
set_option maxRecDepth 100000 in
set_option maxHeartbeats 4000000 in
theorem b_X1_takeBack {p : Program} {l : Launch} {e : Env} {s : State} {m : MethodId} {args : Array Value} {below : List Frame} {meth : Method} {c : Code} {Q : State → Prop} {dC : Nat → ClassId} {dI : Nat → Nat → Nat} {H : Heap} {locs : List Loc} {ls : Array Slot} {A : Nat → Prop} (h0 h_cells h_p1 h_p1_base h_p1_ms h_p1_ns : Nat) (c_cells c_p1_ms c_p1_ns : ClassId) (v_oldest : Int32) (v_count : Int32) (v_cells : (Nat → Int32)) (v_p1_base_a : Int32) (v_p1_base_b : Int32) (v_p1_ms : (Nat → Int32)) (v_p1_ns : (Nat → Int32)) (ou0 : Int32) (ou1 : Int32) (ou2 : Int32) (ou3 : (Nat → Int32)) (ou4 : (Nat → Int32)) (hF : F_X1_takeBack v_oldest v_count v_cells v_p1_base_a v_p1_base_b v_p1_ms v_p1_ns = some (ou0, ou1, ou2, ou3, ou4)) (hC : CallFix p m c cX1_takeBack 2 s args wsX1_takeBack RX1) (hN : NW s) (hK : va_K (dC, dI) vwCl [(c_cells, .int), (c_p1_ms, .int), (c_p1_ns, .int)] s) (hP : va_P (dC, dI) vwCl (wd_X1_takeBack h0 h_cells h_p1 h_p1_base h_p1_ms h_p1_ns c_cells c_p1_ms c_p1_ns v_oldest v_count v_cells v_p1_base_a v_p1_base_b v_p1_ms v_p1_ns) H) (hA : ∀ q, s.heap.size ≤ q → A q) (hD : va_D A (wd_X1_takeBack h0 h_cells h_p1 h_p1_base h_p1_ms h_p1_ns c_cells c_p1_ms c_p1_ns v_oldest v_count v_cells v_p1_base_a v_p1_base_b v_p1_ms v_p1_ns)) (hS : va_S A s.heap H locs) (hE : ∀ (H : Heap) (locs : List Loc) (ls : Array Slot) (pc : Nat), va_P (dC, dI) vwCl (wd_X1_takeBack h0 h_cells h_p1 h_p1_base h_p1_ms h_p1_ns c_cells c_p1_ms c_p1_ns v_oldest ou0 v_cells ou1 ou2 ou3 ou4) H → va_S A s.heap H locs → decode cX1_takeBack pc = .ok (.return_, 1) → W p l e rm_X1_takeBack s m args below meth c H locs 0 0 Q (F0 m pc ls [])) (hl : lv_has ls 2 [(0, .ref h0), (1, .ref h_p1)]) : W p l e rm_X1_takeBack s m args below meth c H locs 0 0 Q (F0 m 0 ls []) := by
  obtain ⟨hx, hb, hml, hown, hts⟩ := id hC
  have hD0 := hD
  unfold F_X1_takeBack at hF
  refine lv_aload_n hx hb dX1_takeBack_0 rfl (lv_at hl 0 rfl) ?_
  refine va_get (D := (dC, dI)) (ci := 1) (v := .int v_count) (C := RX1) (T := TX1) (N := 3) hx hb hts inn_X1_takeBack_X1 hown hK hP 0 rfl rfl 2 (by decide) (hts (.fieldLink RX1 19 "RingBases$History" "count" "I") (List.mem_of_getElem? (i := 1) rfl)) (fun _ h9 => h9) rfl dX1_takeBack_1 ?_
  refine lv_if_ne (tgt := 8) hx hb dX1_takeBack_4 (by decide) (fun g_1 => ?_) (fun g_1 => ?_)
  · replace hF := ite_f g_1 hF
    refine lv_aload_n hx hb dX1_takeBack_8 rfl (lv_at hl 0 rfl) ?_
    refine lv_dup hx hb dX1_takeBack_9 rfl ?_
    refine va_get (D := (dC, dI)) (ci := 1) (v := .int v_count) (C := RX1) (T := TX1) (N := 3) hx hb hts inn_X1_takeBack_X1 hown hK hP 0 rfl rfl 2 (by decide) (hts (.fieldLink RX1 19 "RingBases$History" "count" "I") (List.mem_of_getElem? (i := 1) rfl)) (fun _ h9 => h9) rfl dX1_takeBack_10 ?_
    refine lv_iconst (v := (1 : Int32)) hx hb dX1_takeBack_13 (by decide) ?_
    refine lv_isub hx hb dX1_takeBack_14 ?_
    refine va_put (D := (dC, dI)) (ty := .int) (ci := 1) (v := .int (v_count - (1 : Int32))) (C := RX1) (T := TX1) (N := 3) hx hb hts inn_X1_takeBack_X1 tyX1 tyX1_ok nmX1 hown hK hP hD hS 0 rfl rfl 2 (by decide) (hts (.fieldLink RX1 19 "RingBases$History" "count" "I") (List.mem_of_getElem? (i := 1) rfl)) (fun _ h9 => h9) rfl (by decide +kernel) rfl rfl (Nat.le_of_ble_eq_true rfl) dX1_takeBack_15 (fun H locs hP hD hS => ?_)
    have hP : va_P (dC, dI) vwCl (wd_X1_takeBack h0 h_cells h_p1 h_p1_base h_p1_ms h_p1_ns c_cells c_p1_ms c_p1_ns v_oldest (v_count - (1 : Int32)) v_cells v_p1_base_a v_p1_base_b v_p1_ms v_p1_ns) H := hP
    have hD : va_D A (wd_X1_takeBack h0 h_cells h_p1 h_p1_base h_p1_ms h_p1_ns c_cells c_p1_ms c_p1_ns v_oldest (v_count - (1 : Int32)) v_cells v_p1_base_a v_p1_base_b v_p1_ms v_p1_ns) := hD
    refine lv_aload_n hx hb dX1_takeBack_18 rfl (lv_at hl 1 rfl) ?_
    refine lv_aload_n hx hb dX1_takeBack_19 rfl (lv_at hl 0 rfl) ?_
    refine va_get (D := (dC, dI)) (ci := 1) (v := .ref h_cells) (C := RX1) (T := TX1) (N := 3) hx hb hts inn_X1_takeBack_X1 hown hK hP 0 rfl rfl 0 (by decide) (hts (.fieldLink RX1 9 "RingBases$History" "cells" "[I") (List.mem_of_getElem? (i := 2) rfl)) (fun _ h9 => h9) rfl dX1_takeBack_20 ?_
    refine lv_aload_n hx hb dX1_takeBack_23 rfl (lv_at hl 0 rfl) ?_
    refine va_get (D := (dC, dI)) (ci := 1) (v := .int v_oldest) (C := RX1) (T := TX1) (N := 3) hx hb hts inn_X1_takeBack_X1 hown hK hP 0 rfl rfl 1 (by decide) (hts (.fieldLink RX1 15 "RingBases$History" "oldest" "I") (List.mem_of_getElem? (i := 3) rfl)) (fun _ h9 => h9) rfl dX1_takeBack_24 ?_
    refine lv_aload_n hx hb dX1_takeBack_27 rfl (lv_at hl 0 rfl) ?_
    refine va_get (D := (dC, dI)) (ci := 1) (v := .int (v_count - (1 : Int32))) (C := RX1) (T := TX1) (N := 3) hx hb hts inn_X1_takeBack_X1 hown hK hP 0 rfl rfl 2 (by decide) (hts (.fieldLink RX1 19 "RingBases$History" "count" "I") (List.mem_of_getElem? (i := 1) rfl)) (fun _ h9 => h9) rfl dX1_takeBack_28 ?_
    refine lv_iadd hx hb dX1_takeBack_31 ?_
    refine lv_bipush (v := (8 : Int32)) hx hb dX1_takeBack_32 (by decide) ?_
    refine lv_irem hx hb dX1_takeBack_34 (by decide) ?_
    refine lv_bipush (v := (10 : Int32)) hx hb dX1_takeBack_35 (by decide) ?_
    refine lv_imul hx hb dX1_takeBack_37 ?_
    obtain ⟨o_2, hc_o_2, hF⟩ := bd_s hF
    refine wrVv (wc' := (wd_X3_copyFrom h_p1 h_p1_base h_p1_ms h_p1_ns h_cells c_p1_ms c_p1_ns c_cells 80 o_2.1 o_2.2.1 o_2.2.2.1 o_2.2.2.2 v_cells)) (As := [.ref h_cells, .int (((v_oldest + (v_count - (1 : Int32))) - (v_oldest + (v_count - (1 : Int32))) / (8 : Int32) * (8 : Int32)) * (10 : Int32))]) (rest := []) (b := h_p1) hC (c_X3_copyFrom l dC dI H.size h_p1 h_p1_base h_p1_ms h_p1_ns h_cells c_p1_ms c_p1_ns c_cells 80 v_p1_base_a v_p1_base_b v_p1_ms v_p1_ns v_cells (((v_oldest + (v_count - (1 : Int32))) - (v_oldest + (v_count - (1 : Int32))) / (8 : Int32) * (8 : Int32)) * (10 : Int32)) o_2 hc_o_2) (cwV 2 hts gX1_takeBack_X3_copyFrom rfl rfl rfl (by decide +kernel) ⟨Nat.le_of_ble_eq_true rfl, Nat.le_of_ble_eq_true rfl⟩) hN (hK.sub (tys' := [(c_p1_ms, .int), (c_p1_ns, .int), (c_cells, .int)]) [1, 2, 0] rfl) hP hD hS hA [2, 3, 4, 5, 1] rfl rfl rfl rfl 0 3 rfl rfl rfl rfl hl.1 (Nat.le_of_ble_eq_true rfl) dX1_takeBack_38 ⟨Nat.zero_le _, Nat.zero_le _⟩ (fun H locs hP hS => ?_)
    have hP : va_P (dC, dI) vwCl (wd_X1_takeBack h0 h_cells h_p1 h_p1_base h_p1_ms h_p1_ns c_cells c_p1_ms c_p1_ns v_oldest (v_count - (1 : Int32)) v_cells o_2.1 o_2.2.1 o_2.2.2.1 o_2.2.2.2) H := hP
    have hD : va_D A (wd_X1_takeBack h0 h_cells h_p1 h_p1_base h_p1_ms h_p1_ns c_cells c_p1_ms c_p1_ns v_oldest (v_count - (1 : Int32)) v_cells o_2.1 o_2.2.1 o_2.2.2.1 o_2.2.2.2) := va_D.re hD rfl
    obtain ⟨rfl, rfl, rfl, rfl, rfl⟩ := oks5 hF; exact hE _ _ _ _ hP hS dX1_takeBack_41
  · replace hF := ite_t g_1 hF
    obtain ⟨rfl, rfl, rfl, rfl, rfl⟩ := oks5 hF; exact hE _ _ _ _ hP hS dX1_takeBack_7
set_option maxRecDepth 100000 in
set_option maxHeartbeats 4000000 in
theorem c_X1_takeBack (l : Launch) (dC : Nat → ClassId) (dI : Nat → Nat → Nat) (sz : Nat) (h0 h_cells h_p1 h_p1_base h_p1_ms h_p1_ns : Nat) (c_cells c_p1_ms c_p1_ns : ClassId) (v_oldest : Int32) (v_count : Int32) (v_cells : (Nat → Int32)) (v_p1_base_a : Int32) (v_p1_base_b : Int32) (v_p1_ms : (Nat → Int32)) (v_p1_ns : (Nat → Int32)) (o : Int32 × Int32 × Int32 × (Nat → Int32) × (Nat → Int32)) (hF : F_X1_takeBack v_oldest v_count v_cells v_p1_base_a v_p1_base_b v_p1_ms v_p1_ns = some o) : Met l yX1_takeBack wsX1_takeBack rm_X1_takeBack (va_Pc [.ref h0, .ref h_p1] (PcW dC dI sz (wd_X1_takeBack h0 h_cells h_p1 h_p1_base h_p1_ms h_p1_ns c_cells c_p1_ms c_p1_ns v_oldest v_count v_cells v_p1_base_a v_p1_base_b v_p1_ms v_p1_ns) [(c_cells, .int), (c_p1_ms, .int), (c_p1_ns, .int)])) (va_Qv (fun (_ : Unit) => True) (fun _ t => va_P (dC, dI) vwCl (wd_X1_takeBack h0 h_cells h_p1 h_p1_base h_p1_ms h_p1_ns c_cells c_p1_ms c_p1_ns v_oldest o.1 v_cells o.2.1 o.2.2.1 o.2.2.2.1 o.2.2.2.2) t.heap) (va_A (wd_X1_takeBack h0 h_cells h_p1 h_p1_base h_p1_ms h_p1_ns c_cells c_p1_ms c_p1_ns v_oldest v_count v_cells v_p1_base_a v_p1_base_b v_p1_ms v_p1_ns) sz)) 0 0 (va_A (wd_X1_takeBack h0 h_cells h_p1 h_p1_base h_p1_ms h_p1_ns c_cells c_p1_ms c_p1_ns v_oldest v_count v_cells v_p1_base_a v_p1_base_b v_p1_ms v_p1_ns) sz) := by
  refine Met.ofW (cc := cX1_takeBack) (maxL := 2) (ret := none) (by decide) rfl ?_
  intro p e s m args below meth c s₁ B hml hv
  obtain ⟨rfl, hsz, hP, hK, hD0, hN⟩ := hv
  subst hsz
  have hl := lv_entry ([.ref h0, .ref h_p1]) (n := 2) (Nat.le_of_ble_eq_true rfl)
  rw [lg_entry_eq]
  generalize (lg_sl ([.ref h0, .ref h_p1]) ++ List.replicate (2 - (lg_sl ([.ref h0, .ref h_p1])).length) Slot.unset).toArray = ls at hl ⊢
  exact b_X1_takeBack h0 h_cells h_p1 h_p1_base h_p1_ms h_p1_ns c_cells c_p1_ms c_p1_ns v_oldest v_count v_cells v_p1_base_a v_p1_base_b v_p1_ms v_p1_ns o.1 o.2.1 o.2.2.1 o.2.2.2.1 o.2.2.2.2 hF ⟨B.exec, B.bytes, hml, findClass_of_methodNamed B.named, atoms_spec (ws := wsX1_takeBack) B.pre⟩ hN hK hP (fun q h => Or.inr h) (hD0.self (sz := s.heap.size)) va_S.rf (fun H locs ls pc hP hS hd => W.vret B.exec B.bytes B.returns (fun t ht hW => ⟨⟨(), rfl, trivial, by show va_P (dC, dI) vwCl _ t.heap; rw [ht]; exact hP⟩, hS.F ht⟩) hS.2.2 hd B.notSynchronized) hl
theorem inn_X2_take_X2 : ∀ w ∈ wsX20, w ∈ wsX2_take := fun _ h => List.mem_cons_of_mem _ (List.mem_append_left _ (List.mem_append_left _ (List.mem_append_right _ h)))
abbrev wd_X2_take (h0 h_cells h_kept h_p2 h_p2_base h_p2_ms h_p2_ns : Nat) (c_cells c_kept c_p2_ms c_p2_ns : ClassId) (v_cells : (Nat → Int32)) (v_kept : (Nat → Int32)) (v_p2_base_a : Int32) (v_p2_base_b : Int32) (v_p2_ms : (Nat → Int32)) (v_p2_ns : (Nat → Int32)) : va_W := [(h0, .inr (2, [.ref h_cells, .ref h_kept])), (h_cells, .inl (c_cells, 20, .inl v_cells)), (h_kept, .inl (c_kept, 2, .inl v_kept)), (h_p2, .inr (3, [.ref h_p2_base, .ref h_p2_ms, .ref h_p2_ns])), (h_p2_base, .inr (0, [.int v_p2_base_a, .int v_p2_base_b])), (h_p2_ms, .inl (c_p2_ms, 4, .inl v_p2_ms)), (h_p2_ns, .inl (c_p2_ns, 4, .inl v_p2_ns))]
abbrev rm_X2_take : Room := { frames := 2, cells := 0, slots := 0, locals := 40 }
def F_X2_take (x1 : Int32) (v_cells : (Nat → Int32)) (v_kept : (Nat → Int32)) (v_p2_base_a : Int32) (v_p2_base_b : Int32) (v_p2_ms : (Nat → Int32)) (v_p2_ns : (Nat → Int32)) : Option ((Nat → Int32) × (Nat → Int32)) := ((F_X3_copyInto (x1 * (10 : Int32)) 20 v_p2_base_a v_p2_base_b v_p2_ms v_p2_ns v_cells).bind fun o_1 => (ck x1 2 (some (o_1, (upd v_kept x1.toNatClampNeg (vp_nar .boolean (1 : Int32)))))))
set_option maxRecDepth 100000 in
set_option maxHeartbeats 4000000 in
theorem b_X2_take {p : Program} {l : Launch} {e : Env} {s : State} {m : MethodId} {args : Array Value} {below : List Frame} {meth : Method} {c : Code} {Q : State → Prop} {dC : Nat → ClassId} {dI : Nat → Nat → Nat} {H : Heap} {locs : List Loc} {ls : Array Slot} {A : Nat → Prop} (h0 h_cells h_kept h_p2 h_p2_base h_p2_ms h_p2_ns : Nat) (c_cells c_kept c_p2_ms c_p2_ns : ClassId) (v_cells : (Nat → Int32)) (v_kept : (Nat → Int32)) (v_p2_base_a : Int32) (v_p2_base_b : Int32) (v_p2_ms : (Nat → Int32)) (v_p2_ns : (Nat → Int32)) (x1 : Int32) (ou0 : (Nat → Int32)) (ou1 : (Nat → Int32)) (hF : F_X2_take x1 v_cells v_kept v_p2_base_a v_p2_base_b v_p2_ms v_p2_ns = some (ou0, ou1)) (hC : CallFix p m c cX2_take 3 s args wsX2_take RX2) (hN : NW s) (hK : va_K (dC, dI) vwCl [(c_cells, .int), (c_kept, .boolean), (c_p2_ms, .int), (c_p2_ns, .int)] s) (hP : va_P (dC, dI) vwCl (wd_X2_take h0 h_cells h_kept h_p2 h_p2_base h_p2_ms h_p2_ns c_cells c_kept c_p2_ms c_p2_ns v_cells v_kept v_p2_base_a v_p2_base_b v_p2_ms v_p2_ns) H) (hA : ∀ q, s.heap.size ≤ q → A q) (hD : va_D A (wd_X2_take h0 h_cells h_kept h_p2 h_p2_base h_p2_ms h_p2_ns c_cells c_kept c_p2_ms c_p2_ns v_cells v_kept v_p2_base_a v_p2_base_b v_p2_ms v_p2_ns)) (hS : va_S A s.heap H locs) (hE : ∀ (H : Heap) (locs : List Loc) (ls : Array Slot) (pc : Nat), va_P (dC, dI) vwCl (wd_X2_take h0 h_cells h_kept h_p2 h_p2_base h_p2_ms h_p2_ns c_cells c_kept c_p2_ms c_p2_ns ou0 ou1 v_p2_base_a v_p2_base_b v_p2_ms v_p2_ns) H → va_S A s.heap H locs → decode cX2_take pc = .ok (.return_, 1) → W p l e rm_X2_take s m args below meth c H locs 0 0 Q (F0 m pc ls [])) (hl : lv_has ls 3 [(0, .ref h0), (1, .int x1), (2, .ref h_p2)]) : W p l e rm_X2_take s m args below meth c H locs 0 0 Q (F0 m 0 ls []) := by
  obtain ⟨hx, hb, hml, hown, hts⟩ := id hC
  have hD0 := hD
  unfold F_X2_take at hF
  refine lv_aload_n hx hb dX2_take_0 rfl (lv_at hl 2 rfl) ?_
  refine lv_aload_n hx hb dX2_take_1 rfl (lv_at hl 0 rfl) ?_
  refine va_get (D := (dC, dI)) (ci := 2) (v := .ref h_cells) (C := RX2) (T := TX2) (N := 2) hx hb hts inn_X2_take_X2 hown hK hP 0 rfl rfl 0 (by decide) (hts (.fieldLink RX2 9 "RingBases$Images" "cells" "[I") (List.mem_of_getElem? (i := 1) rfl)) (fun _ h9 => h9) rfl dX2_take_2 ?_
  refine lv_iload_n hx hb dX2_take_5 rfl (lv_at hl 1 rfl) ?_
  refine lv_bipush (v := (10 : Int32)) hx hb dX2_take_6 (by decide) ?_
  refine lv_imul hx hb dX2_take_8 ?_
  obtain ⟨o_1, hc_o_1, hF⟩ := bd_s hF
  refine wrVv (wc' := (wd_X3_copyInto h_p2 h_p2_base h_p2_ms h_p2_ns h_cells c_p2_ms c_p2_ns c_cells 20 v_p2_base_a v_p2_base_b v_p2_ms v_p2_ns o_1)) (As := [.ref h_cells, .int (x1 * (10 : Int32))]) (rest := []) (b := h_p2) hC (c_X3_copyInto l dC dI H.size h_p2 h_p2_base h_p2_ms h_p2_ns h_cells c_p2_ms c_p2_ns c_cells 20 v_p2_base_a v_p2_base_b v_p2_ms v_p2_ns v_cells (x1 * (10 : Int32)) o_1 hc_o_1) (cwV 2 hts gX2_take_X3_copyInto rfl rfl rfl (by decide +kernel) ⟨Nat.le_of_ble_eq_true rfl, Nat.le_of_ble_eq_true rfl⟩) hN (hK.sub (tys' := [(c_p2_ms, .int), (c_p2_ns, .int), (c_cells, .int)]) [2, 3, 0] rfl) hP hD hS hA [3, 4, 5, 6, 1] rfl rfl rfl rfl 0 3 rfl rfl rfl rfl hl.1 (Nat.le_of_ble_eq_true rfl) dX2_take_9 ⟨Nat.zero_le _, Nat.zero_le _⟩ (fun H locs hP hS => ?_)
  have hP : va_P (dC, dI) vwCl (wd_X2_take h0 h_cells h_kept h_p2 h_p2_base h_p2_ms h_p2_ns c_cells c_kept c_p2_ms c_p2_ns o_1 v_kept v_p2_base_a v_p2_base_b v_p2_ms v_p2_ns) H := hP
  have hD : va_D A (wd_X2_take h0 h_cells h_kept h_p2 h_p2_base h_p2_ms h_p2_ns c_cells c_kept c_p2_ms c_p2_ns o_1 v_kept v_p2_base_a v_p2_base_b v_p2_ms v_p2_ns) := va_D.re hD rfl
  refine lv_aload_n hx hb dX2_take_12 rfl (lv_at hl 0 rfl) ?_
  refine va_get (D := (dC, dI)) (ci := 2) (v := .ref h_kept) (C := RX2) (T := TX2) (N := 2) hx hb hts inn_X2_take_X2 hown hK hP 0 rfl rfl 1 (by decide) (hts (.fieldLink RX2 15 "RingBases$Images" "kept" "[Z") (List.mem_of_getElem? (i := 2) rfl)) (fun _ h9 => h9) rfl dX2_take_13 ?_
  refine lv_iload_n hx hb dX2_take_16 rfl (lv_at hl 1 rfl) ?_
  refine lv_iconst (v := (1 : Int32)) hx hb dX2_take_17 (by decide) ?_
  obtain ⟨i_2, hF⟩ := ck_s hF
  refine va_zast hx hb hK hP hD hS 2 1 rfl rfl i_2 dX2_take_18 (fun H locs hP hD hS => ?_)
  have hP : va_P (dC, dI) vwCl (wd_X2_take h0 h_cells h_kept h_p2 h_p2_base h_p2_ms h_p2_ns c_cells c_kept c_p2_ms c_p2_ns o_1 (upd v_kept x1.toNatClampNeg (vp_nar .boolean (1 : Int32))) v_p2_base_a v_p2_base_b v_p2_ms v_p2_ns) H := hP
  have hD : va_D A (wd_X2_take h0 h_cells h_kept h_p2 h_p2_base h_p2_ms h_p2_ns c_cells c_kept c_p2_ms c_p2_ns o_1 (upd v_kept x1.toNatClampNeg (vp_nar .boolean (1 : Int32))) v_p2_base_a v_p2_base_b v_p2_ms v_p2_ns) := hD
  obtain ⟨rfl, rfl⟩ := oks2 hF; exact hE _ _ _ _ hP hS dX2_take_19
set_option maxRecDepth 100000 in
set_option maxHeartbeats 4000000 in
theorem c_X2_take (l : Launch) (dC : Nat → ClassId) (dI : Nat → Nat → Nat) (sz : Nat) (h0 h_cells h_kept h_p2 h_p2_base h_p2_ms h_p2_ns : Nat) (c_cells c_kept c_p2_ms c_p2_ns : ClassId) (v_cells : (Nat → Int32)) (v_kept : (Nat → Int32)) (v_p2_base_a : Int32) (v_p2_base_b : Int32) (v_p2_ms : (Nat → Int32)) (v_p2_ns : (Nat → Int32)) (x1 : Int32) (o : (Nat → Int32) × (Nat → Int32)) (hF : F_X2_take x1 v_cells v_kept v_p2_base_a v_p2_base_b v_p2_ms v_p2_ns = some o) : Met l yX2_take wsX2_take rm_X2_take (va_Pc [.ref h0, .int x1, .ref h_p2] (PcW dC dI sz (wd_X2_take h0 h_cells h_kept h_p2 h_p2_base h_p2_ms h_p2_ns c_cells c_kept c_p2_ms c_p2_ns v_cells v_kept v_p2_base_a v_p2_base_b v_p2_ms v_p2_ns) [(c_cells, .int), (c_kept, .boolean), (c_p2_ms, .int), (c_p2_ns, .int)])) (va_Qv (fun (_ : Unit) => True) (fun _ t => va_P (dC, dI) vwCl (wd_X2_take h0 h_cells h_kept h_p2 h_p2_base h_p2_ms h_p2_ns c_cells c_kept c_p2_ms c_p2_ns o.1 o.2 v_p2_base_a v_p2_base_b v_p2_ms v_p2_ns) t.heap) (va_A (wd_X2_take h0 h_cells h_kept h_p2 h_p2_base h_p2_ms h_p2_ns c_cells c_kept c_p2_ms c_p2_ns v_cells v_kept v_p2_base_a v_p2_base_b v_p2_ms v_p2_ns) sz)) 0 0 (va_A (wd_X2_take h0 h_cells h_kept h_p2 h_p2_base h_p2_ms h_p2_ns c_cells c_kept c_p2_ms c_p2_ns v_cells v_kept v_p2_base_a v_p2_base_b v_p2_ms v_p2_ns) sz) := by
  refine Met.ofW (cc := cX2_take) (maxL := 3) (ret := none) (by decide) rfl ?_
  intro p e s m args below meth c s₁ B hml hv
  obtain ⟨rfl, hsz, hP, hK, hD0, hN⟩ := hv
  subst hsz
  have hl := lv_entry ([.ref h0, .int x1, .ref h_p2]) (n := 3) (Nat.le_of_ble_eq_true rfl)
  rw [lg_entry_eq]
  generalize (lg_sl ([.ref h0, .int x1, .ref h_p2]) ++ List.replicate (3 - (lg_sl ([.ref h0, .int x1, .ref h_p2])).length) Slot.unset).toArray = ls at hl ⊢
  exact b_X2_take h0 h_cells h_kept h_p2 h_p2_base h_p2_ms h_p2_ns c_cells c_kept c_p2_ms c_p2_ns v_cells v_kept v_p2_base_a v_p2_base_b v_p2_ms v_p2_ns x1 o.1 o.2 hF ⟨B.exec, B.bytes, hml, findClass_of_methodNamed B.named, atoms_spec (ws := wsX2_take) B.pre⟩ hN hK hP (fun q h => Or.inr h) (hD0.self (sz := s.heap.size)) va_S.rf (fun H locs ls pc hP hS hd => W.vret B.exec B.bytes B.returns (fun t ht hW => ⟨⟨(), rfl, trivial, by show va_P (dC, dI) vwCl _ t.heap; rw [ht]; exact hP⟩, hS.F ht⟩) hS.2.2 hd B.notSynchronized) hl
theorem inn_X1_forget_X1 : ∀ w ∈ wsX10, w ∈ wsX1_forget := fun _ h => List.mem_cons_of_mem _ (List.mem_append_right _ h)
abbrev wd_X1_forget (h0 h_cells : Nat) (v_oldest : Int32) (v_count : Int32) : va_W := [(h0, .inr (1, [.ref h_cells, .int v_oldest, .int v_count]))]
abbrev rm_X1_forget : Room := { frames := 0, cells := 0, slots := 0, locals := 0 }
def F_X1_forget : Int32 := (0 : Int32)
set_option maxRecDepth 100000 in
set_option maxHeartbeats 4000000 in
theorem b_X1_forget {p : Program} {l : Launch} {e : Env} {s : State} {m : MethodId} {args : Array Value} {below : List Frame} {meth : Method} {c : Code} {Q : State → Prop} {dC : Nat → ClassId} {dI : Nat → Nat → Nat} {H : Heap} {locs : List Loc} {ls : Array Slot} {A : Nat → Prop} (h0 h_cells : Nat) (v_oldest : Int32) (v_count : Int32) (ou0 : Int32) (hF : F_X1_forget  = ou0) (hC : CallFix p m c cX1_forget 1 s args wsX1_forget RX1) (hN : NW s) (hK : va_K (dC, dI) vwCl [] s) (hP : va_P (dC, dI) vwCl (wd_X1_forget h0 h_cells v_oldest v_count) H) (hA : ∀ q, s.heap.size ≤ q → A q) (hD : va_D A (wd_X1_forget h0 h_cells v_oldest v_count)) (hS : va_S A s.heap H locs) (hE : ∀ (H : Heap) (locs : List Loc) (ls : Array Slot) (pc : Nat), va_P (dC, dI) vwCl (wd_X1_forget h0 h_cells v_oldest ou0) H → va_S A s.heap H locs → decode cX1_forget pc = .ok (.return_, 1) → W p l e rm_X1_forget s m args below meth c H locs 0 0 Q (F0 m pc ls [])) (hl : lv_has ls 1 [(0, .ref h0)]) : W p l e rm_X1_forget s m args below meth c H locs 0 0 Q (F0 m 0 ls []) := by
  obtain ⟨hx, hb, hml, hown, hts⟩ := id hC
  have hD0 := hD
  unfold F_X1_forget at hF
  refine lv_aload_n hx hb dX1_forget_0 rfl (lv_at hl 0 rfl) ?_
  refine lv_iconst (v := (0 : Int32)) hx hb dX1_forget_1 (by decide) ?_
  refine va_put (D := (dC, dI)) (ty := .int) (ci := 1) (v := .int (0 : Int32)) (C := RX1) (T := TX1) (N := 3) hx hb hts inn_X1_forget_X1 tyX1 tyX1_ok nmX1 hown hK hP hD hS 0 rfl rfl 2 (by decide) (hts (.fieldLink RX1 19 "RingBases$History" "count" "I") (List.mem_of_getElem? (i := 1) rfl)) (fun _ h9 => h9) rfl (by decide +kernel) rfl rfl (Nat.le_of_ble_eq_true rfl) dX1_forget_2 (fun H locs hP hD hS => ?_)
  have hP : va_P (dC, dI) vwCl (wd_X1_forget h0 h_cells v_oldest (0 : Int32)) H := hP
  have hD : va_D A (wd_X1_forget h0 h_cells v_oldest (0 : Int32)) := hD
  obtain rfl := hF; exact hE _ _ _ _ hP hS dX1_forget_5
set_option maxRecDepth 100000 in
set_option maxHeartbeats 4000000 in
theorem c_X1_forget (l : Launch) (dC : Nat → ClassId) (dI : Nat → Nat → Nat) (sz : Nat) (h0 h_cells : Nat) (v_oldest : Int32) (v_count : Int32) (o : Int32) (hF : F_X1_forget  = o) : Met l yX1_forget wsX1_forget rm_X1_forget (va_Pc [.ref h0] (PcW dC dI sz (wd_X1_forget h0 h_cells v_oldest v_count) [])) (va_Qv (fun (_ : Unit) => True) (fun _ t => va_P (dC, dI) vwCl (wd_X1_forget h0 h_cells v_oldest o) t.heap) (va_A (wd_X1_forget h0 h_cells v_oldest v_count) sz)) 0 0 (va_A (wd_X1_forget h0 h_cells v_oldest v_count) sz) := by
  refine Met.ofW (cc := cX1_forget) (maxL := 1) (ret := none) (by decide) rfl ?_
  intro p e s m args below meth c s₁ B hml hv
  obtain ⟨rfl, hsz, hP, hK, hD0, hN⟩ := hv
  subst hsz
  have hl := lv_entry ([.ref h0]) (n := 1) (Nat.le_of_ble_eq_true rfl)
  rw [lg_entry_eq]
  generalize (lg_sl ([.ref h0]) ++ List.replicate (1 - (lg_sl ([.ref h0])).length) Slot.unset).toArray = ls at hl ⊢
  exact b_X1_forget h0 h_cells v_oldest v_count o hF ⟨B.exec, B.bytes, hml, findClass_of_methodNamed B.named, atoms_spec (ws := wsX1_forget) B.pre⟩ hN hK hP (fun q h => Or.inr h) (hD0.self (sz := s.heap.size)) va_S.rf (fun H locs ls pc hP hS hd => W.vret B.exec B.bytes B.returns (fun t ht hW => ⟨⟨(), rfl, trivial, by show va_P (dC, dI) vwCl _ t.heap; rw [ht]; exact hP⟩, hS.F ht⟩) hS.2.2 hd B.notSynchronized) hl
theorem inn_X2_give_X2 : ∀ w ∈ wsX20, w ∈ wsX2_give := fun _ h => List.mem_cons_of_mem _ (List.mem_append_left _ (List.mem_append_left _ (List.mem_append_right _ h)))
abbrev wd_X2_give (h0 h_cells h_kept h_p2 h_p2_base h_p2_ms h_p2_ns : Nat) (c_cells c_p2_ms c_p2_ns : ClassId) (v_cells : (Nat → Int32)) (v_p2_base_a : Int32) (v_p2_base_b : Int32) (v_p2_ms : (Nat → Int32)) (v_p2_ns : (Nat → Int32)) : va_W := [(h0, .inr (2, [.ref h_cells, .ref h_kept])), (h_cells, .inl (c_cells, 20, .inl v_cells)), (h_p2, .inr (3, [.ref h_p2_base, .ref h_p2_ms, .ref h_p2_ns])), (h_p2_base, .inr (0, [.int v_p2_base_a, .int v_p2_base_b])), (h_p2_ms, .inl (c_p2_ms, 4, .inl v_p2_ms)), (h_p2_ns, .inl (c_p2_ns, 4, .inl v_p2_ns))]
abbrev rm_X2_give : Room := { frames := 2, cells := 0, slots := 0, locals := 44 }
def F_X2_give (x1 : Int32) (v_cells : (Nat → Int32)) (v_p2_base_a : Int32) (v_p2_base_b : Int32) (v_p2_ms : (Nat → Int32)) (v_p2_ns : (Nat → Int32)) : Option (Int32 × Int32 × (Nat → Int32) × (Nat → Int32)) := ((F_X3_copyFrom (x1 * (10 : Int32)) 20 v_p2_base_a v_p2_base_b v_p2_ms v_p2_ns v_cells).bind fun o_1 => (some (o_1.1, o_1.2.1, o_1.2.2.1, o_1.2.2.2)))
set_option maxRecDepth 100000 in
set_option maxHeartbeats 4000000 in
theorem b_X2_give {p : Program} {l : Launch} {e : Env} {s : State} {m : MethodId} {args : Array Value} {below : List Frame} {meth : Method} {c : Code} {Q : State → Prop} {dC : Nat → ClassId} {dI : Nat → Nat → Nat} {H : Heap} {locs : List Loc} {ls : Array Slot} {A : Nat → Prop} (h0 h_cells h_kept h_p2 h_p2_base h_p2_ms h_p2_ns : Nat) (c_cells c_p2_ms c_p2_ns : ClassId) (v_cells : (Nat → Int32)) (v_p2_base_a : Int32) (v_p2_base_b : Int32) (v_p2_ms : (Nat → Int32)) (v_p2_ns : (Nat → Int32)) (x1 : Int32) (ou0 : Int32) (ou1 : Int32) (ou2 : (Nat → Int32)) (ou3 : (Nat → Int32)) (hF : F_X2_give x1 v_cells v_p2_base_a v_p2_base_b v_p2_ms v_p2_ns = some (ou0, ou1, ou2, ou3)) (hC : CallFix p m c cX2_give 3 s args wsX2_give RX2) (hN : NW s) (hK : va_K (dC, dI) vwCl [(c_cells, .int), (c_p2_ms, .int), (c_p2_ns, .int)] s) (hP : va_P (dC, dI) vwCl (wd_X2_give h0 h_cells h_kept h_p2 h_p2_base h_p2_ms h_p2_ns c_cells c_p2_ms c_p2_ns v_cells v_p2_base_a v_p2_base_b v_p2_ms v_p2_ns) H) (hA : ∀ q, s.heap.size ≤ q → A q) (hD : va_D A (wd_X2_give h0 h_cells h_kept h_p2 h_p2_base h_p2_ms h_p2_ns c_cells c_p2_ms c_p2_ns v_cells v_p2_base_a v_p2_base_b v_p2_ms v_p2_ns)) (hS : va_S A s.heap H locs) (hE : ∀ (H : Heap) (locs : List Loc) (ls : Array Slot) (pc : Nat), va_P (dC, dI) vwCl (wd_X2_give h0 h_cells h_kept h_p2 h_p2_base h_p2_ms h_p2_ns c_cells c_p2_ms c_p2_ns v_cells ou0 ou1 ou2 ou3) H → va_S A s.heap H locs → decode cX2_give pc = .ok (.return_, 1) → W p l e rm_X2_give s m args below meth c H locs 0 0 Q (F0 m pc ls [])) (hl : lv_has ls 3 [(0, .ref h0), (1, .int x1), (2, .ref h_p2)]) : W p l e rm_X2_give s m args below meth c H locs 0 0 Q (F0 m 0 ls []) := by
  obtain ⟨hx, hb, hml, hown, hts⟩ := id hC
  have hD0 := hD
  unfold F_X2_give at hF
  refine lv_aload_n hx hb dX2_give_0 rfl (lv_at hl 2 rfl) ?_
  refine lv_aload_n hx hb dX2_give_1 rfl (lv_at hl 0 rfl) ?_
  refine va_get (D := (dC, dI)) (ci := 2) (v := .ref h_cells) (C := RX2) (T := TX2) (N := 2) hx hb hts inn_X2_give_X2 hown hK hP 0 rfl rfl 0 (by decide) (hts (.fieldLink RX2 9 "RingBases$Images" "cells" "[I") (List.mem_of_getElem? (i := 1) rfl)) (fun _ h9 => h9) rfl dX2_give_2 ?_
  refine lv_iload_n hx hb dX2_give_5 rfl (lv_at hl 1 rfl) ?_
  refine lv_bipush (v := (10 : Int32)) hx hb dX2_give_6 (by decide) ?_
  refine lv_imul hx hb dX2_give_8 ?_
  obtain ⟨o_1, hc_o_1, hF⟩ := bd_s hF
  refine wrVv (wc' := (wd_X3_copyFrom h_p2 h_p2_base h_p2_ms h_p2_ns h_cells c_p2_ms c_p2_ns c_cells 20 o_1.1 o_1.2.1 o_1.2.2.1 o_1.2.2.2 v_cells)) (As := [.ref h_cells, .int (x1 * (10 : Int32))]) (rest := []) (b := h_p2) hC (c_X3_copyFrom l dC dI H.size h_p2 h_p2_base h_p2_ms h_p2_ns h_cells c_p2_ms c_p2_ns c_cells 20 v_p2_base_a v_p2_base_b v_p2_ms v_p2_ns v_cells (x1 * (10 : Int32)) o_1 hc_o_1) (cwV 2 hts gX2_give_X3_copyFrom rfl rfl rfl (by decide +kernel) ⟨Nat.le_of_ble_eq_true rfl, Nat.le_of_ble_eq_true rfl⟩) hN (hK.sub (tys' := [(c_p2_ms, .int), (c_p2_ns, .int), (c_cells, .int)]) [1, 2, 0] rfl) hP hD hS hA [2, 3, 4, 5, 1] rfl rfl rfl rfl 0 3 rfl rfl rfl rfl hl.1 (Nat.le_of_ble_eq_true rfl) dX2_give_9 ⟨Nat.zero_le _, Nat.zero_le _⟩ (fun H locs hP hS => ?_)
  have hP : va_P (dC, dI) vwCl (wd_X2_give h0 h_cells h_kept h_p2 h_p2_base h_p2_ms h_p2_ns c_cells c_p2_ms c_p2_ns v_cells o_1.1 o_1.2.1 o_1.2.2.1 o_1.2.2.2) H := hP
  have hD : va_D A (wd_X2_give h0 h_cells h_kept h_p2 h_p2_base h_p2_ms h_p2_ns c_cells c_p2_ms c_p2_ns v_cells o_1.1 o_1.2.1 o_1.2.2.1 o_1.2.2.2) := va_D.re hD rfl
  obtain ⟨rfl, rfl, rfl, rfl⟩ := oks4 hF; exact hE _ _ _ _ hP hS dX2_give_12
set_option maxRecDepth 100000 in
set_option maxHeartbeats 4000000 in
theorem c_X2_give (l : Launch) (dC : Nat → ClassId) (dI : Nat → Nat → Nat) (sz : Nat) (h0 h_cells h_kept h_p2 h_p2_base h_p2_ms h_p2_ns : Nat) (c_cells c_p2_ms c_p2_ns : ClassId) (v_cells : (Nat → Int32)) (v_p2_base_a : Int32) (v_p2_base_b : Int32) (v_p2_ms : (Nat → Int32)) (v_p2_ns : (Nat → Int32)) (x1 : Int32) (o : Int32 × Int32 × (Nat → Int32) × (Nat → Int32)) (hF : F_X2_give x1 v_cells v_p2_base_a v_p2_base_b v_p2_ms v_p2_ns = some o) : Met l yX2_give wsX2_give rm_X2_give (va_Pc [.ref h0, .int x1, .ref h_p2] (PcW dC dI sz (wd_X2_give h0 h_cells h_kept h_p2 h_p2_base h_p2_ms h_p2_ns c_cells c_p2_ms c_p2_ns v_cells v_p2_base_a v_p2_base_b v_p2_ms v_p2_ns) [(c_cells, .int), (c_p2_ms, .int), (c_p2_ns, .int)])) (va_Qv (fun (_ : Unit) => True) (fun _ t => va_P (dC, dI) vwCl (wd_X2_give h0 h_cells h_kept h_p2 h_p2_base h_p2_ms h_p2_ns c_cells c_p2_ms c_p2_ns v_cells o.1 o.2.1 o.2.2.1 o.2.2.2) t.heap) (va_A (wd_X2_give h0 h_cells h_kept h_p2 h_p2_base h_p2_ms h_p2_ns c_cells c_p2_ms c_p2_ns v_cells v_p2_base_a v_p2_base_b v_p2_ms v_p2_ns) sz)) 0 0 (va_A (wd_X2_give h0 h_cells h_kept h_p2 h_p2_base h_p2_ms h_p2_ns c_cells c_p2_ms c_p2_ns v_cells v_p2_base_a v_p2_base_b v_p2_ms v_p2_ns) sz) := by
  refine Met.ofW (cc := cX2_give) (maxL := 3) (ret := none) (by decide) rfl ?_
  intro p e s m args below meth c s₁ B hml hv
  obtain ⟨rfl, hsz, hP, hK, hD0, hN⟩ := hv
  subst hsz
  have hl := lv_entry ([.ref h0, .int x1, .ref h_p2]) (n := 3) (Nat.le_of_ble_eq_true rfl)
  rw [lg_entry_eq]
  generalize (lg_sl ([.ref h0, .int x1, .ref h_p2]) ++ List.replicate (3 - (lg_sl ([.ref h0, .int x1, .ref h_p2])).length) Slot.unset).toArray = ls at hl ⊢
  exact b_X2_give h0 h_cells h_kept h_p2 h_p2_base h_p2_ms h_p2_ns c_cells c_p2_ms c_p2_ns v_cells v_p2_base_a v_p2_base_b v_p2_ms v_p2_ns x1 o.1 o.2.1 o.2.2.1 o.2.2.2 hF ⟨B.exec, B.bytes, hml, findClass_of_methodNamed B.named, atoms_spec (ws := wsX2_give) B.pre⟩ hN hK hP (fun q h => Or.inr h) (hD0.self (sz := s.heap.size)) va_S.rf (fun H locs ls pc hP hS hd => W.vret B.exec B.bytes B.returns (fun t ht hW => ⟨⟨(), rfl, trivial, by show va_P (dC, dI) vwCl _ t.heap; rw [ht]; exact hP⟩, hS.F ht⟩) hS.2.2 hd B.notSynchronized) hl
