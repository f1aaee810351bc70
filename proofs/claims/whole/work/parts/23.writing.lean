theorem inn_X5_highestPlace_X5 : ∀ w ∈ wsX50, w ∈ wsX5_highestPlace := fun _ h => List.mem_cons_of_mem _ (List.mem_append_left _ (List.mem_append_right _ h))
abbrev wd_X5_highestPlace (h0 h_figures h_powerMs h_powerNs h_restMs h_restNs h_p1 : Nat) (c_powerMs c_powerNs : ClassId) (v_ahead : Int32) (v_behind : Int32) (v_ends : Int32) (v_lead : Int32) (v_round : Int32) (v_leftM : Int64) (v_leftN : Int64) (v_ofA : Int32) (v_ofB : Int32) (v_ofM : Int32) (v_ofN : Int32) (v_powerMs : (Nat → Int64)) (v_powerNs : (Nat → Int64)) (v_p1_a : Int32) (v_p1_b : Int32) : va_W := [(h0, .inr (5, [.ref h_figures, .int v_ahead, .int v_behind, .int v_ends, .int v_lead, .int v_round, .ref h_powerMs, .ref h_powerNs, .ref h_restMs, .ref h_restNs, .long v_leftM, .long v_leftN, .int v_ofA, .int v_ofB, .int v_ofM, .int v_ofN])), (h_powerMs, .inl (c_powerMs, 61, .inr (.inl v_powerMs))), (h_powerNs, .inl (c_powerNs, 61, .inr (.inl v_powerNs))), (h_p1, .inr (0, [.int v_p1_a, .int v_p1_b]))]
abbrev rm_X5_highestPlace : Room := { frames := 2, cells := 0, slots := 0, locals := 51 }
def F_X5_highestPlace_16 (v_leftM : Int64) (v_leftN : Int64) (v_p1_a : Int32) (v_p1_b : Int32) : Nat → Int32 → (Nat → Int64) → (Nat → Int64) → Option (Int32 × (Nat → Int64) × (Nat → Int64))
  | 0, _, _, _ => none
  | fu + 1, x2, v_powerMs, v_powerNs => (if (60 : Int32) ≤ x2 then (some ((60 : Int32), v_powerMs, v_powerNs)) else (ck x2 61 (if 0 ≤ (F_X0_sign (v_leftM - (F_X0_raisedM (v_powerNs x2.toNatClampNeg) v_p1_b)) (v_leftN - (F_X0_raisedN (v_powerMs x2.toNatClampNeg) (v_powerNs x2.toNatClampNeg) v_p1_a)) v_p1_a v_p1_b) then (ck (x2 + (1 : Int32)) 61 (F_X5_highestPlace_16 v_leftM v_leftN v_p1_a v_p1_b fu (x2 + (1 : Int32)) (vp_updL v_powerMs (x2 + (1 : Int32)).toNatClampNeg (F_X0_raisedM (v_powerNs x2.toNatClampNeg) v_p1_b)) (vp_updL v_powerNs (x2 + (1 : Int32)).toNatClampNeg (F_X0_raisedN (v_powerMs x2.toNatClampNeg) (v_powerNs x2.toNatClampNeg) v_p1_a)))) else (some (x2, v_powerMs, v_powerNs)))))
def F_X5_highestPlace (v_leftM : Int64) (v_leftN : Int64) (v_powerMs : (Nat → Int64)) (v_powerNs : (Nat → Int64)) (v_p1_a : Int32) (v_p1_b : Int32) : Option (Int32 × (Nat → Int64) × (Nat → Int64)) := (F_X5_highestPlace_16  v_leftM v_leftN v_p1_a v_p1_b 128 (0 : Int32) (vp_updL v_powerMs (0 : Int32).toNatClampNeg (1 : Int64)) (vp_updL v_powerNs (0 : Int32).toNatClampNeg (0 : Int64)))
set_option maxRecDepth 100000 in
set_option maxHeartbeats 4000000 in
theorem b_X5_highestPlace {p : Program} {l : Launch} {e : Env} {s : State} {m : MethodId} {args : Array Value} {below : List Frame} {meth : Method} {c : Code} {Q : State → Prop} {dC : Nat → ClassId} {dI : Nat → Nat → Nat} {H : Heap} {locs : List Loc} {ls : Array Slot} {A : Nat → Prop} (h0 h_figures h_powerMs h_powerNs h_restMs h_restNs h_p1 : Nat) (c_powerMs c_powerNs : ClassId) (v_ahead : Int32) (v_behind : Int32) (v_ends : Int32) (v_lead : Int32) (v_round : Int32) (v_leftM : Int64) (v_leftN : Int64) (v_ofA : Int32) (v_ofB : Int32) (v_ofM : Int32) (v_ofN : Int32) (v_powerMs : (Nat → Int64)) (v_powerNs : (Nat → Int64)) (v_p1_a : Int32) (v_p1_b : Int32) (ou0 : Int32) (ou1 : (Nat → Int64)) (ou2 : (Nat → Int64)) (hF : F_X5_highestPlace v_leftM v_leftN v_powerMs v_powerNs v_p1_a v_p1_b = some (ou0, ou1, ou2)) (hC : CallFix p m c cX5_highestPlace 7 s args wsX5_highestPlace RX5) (hN : NW s) (hK : va_K (dC, dI) vwCl [(c_powerMs, .long), (c_powerNs, .long)] s) (hP : va_P (dC, dI) vwCl (wd_X5_highestPlace h0 h_figures h_powerMs h_powerNs h_restMs h_restNs h_p1 c_powerMs c_powerNs v_ahead v_behind v_ends v_lead v_round v_leftM v_leftN v_ofA v_ofB v_ofM v_ofN v_powerMs v_powerNs v_p1_a v_p1_b) H) (hA : ∀ q, s.heap.size ≤ q → A q) (hD : va_D A (wd_X5_highestPlace h0 h_figures h_powerMs h_powerNs h_restMs h_restNs h_p1 c_powerMs c_powerNs v_ahead v_behind v_ends v_lead v_round v_leftM v_leftN v_ofA v_ofB v_ofM v_ofN v_powerMs v_powerNs v_p1_a v_p1_b)) (hS : va_S A s.heap H locs) (hE : ∀ (H : Heap) (locs : List Loc) (ls : Array Slot) (pc : Nat), va_P (dC, dI) vwCl (wd_X5_highestPlace h0 h_figures h_powerMs h_powerNs h_restMs h_restNs h_p1 c_powerMs c_powerNs v_ahead v_behind v_ends v_lead v_round v_leftM v_leftN v_ofA v_ofB v_ofM v_ofN ou1 ou2 v_p1_a v_p1_b) H → va_S A s.heap H locs → decode cX5_highestPlace pc = .ok (.ireturn, 1) → W p l e rm_X5_highestPlace s m args below meth c H locs 0 0 Q (F0 m pc ls [.int ou0])) (hl : lv_has ls 7 [(0, .ref h0), (1, .ref h_p1)]) : W p l e rm_X5_highestPlace s m args below meth c H locs 0 0 Q (F0 m 0 ls []) := by
  obtain ⟨hx, hb, hml, hown, hts⟩ := id hC
  have hD0 := hD
  unfold F_X5_highestPlace at hF
  have k_16 : ∀ (fu_16 : Nat) (x2 : Int32) (v_powerMs : (Nat → Int64)) (v_powerNs : (Nat → Int64)), F_X5_highestPlace_16  v_leftM v_leftN v_p1_a v_p1_b fu_16 x2 v_powerMs v_powerNs = some (ou0, ou1, ou2) → ∀ (H : Heap) (locs : List Loc), va_P (dC, dI) vwCl (wd_X5_highestPlace h0 h_figures h_powerMs h_powerNs h_restMs h_restNs h_p1 c_powerMs c_powerNs v_ahead v_behind v_ends v_lead v_round v_leftM v_leftN v_ofA v_ofB v_ofM v_ofN v_powerMs v_powerNs v_p1_a v_p1_b) H → va_S A s.heap H locs → ∀ ls : Array Slot, lv_has ls 7 [(0, .ref h0), (1, .ref h_p1), (2, .int x2)] → W p l e rm_X5_highestPlace s m args below meth c H locs 0 0 Q (F0 m 16 ls []) := by
    intro fu_16
    induction fu_16 with
    | zero => intro x2 v_powerMs v_powerNs hF; rw [F_X5_highestPlace_16] at hF; cases hF
    | succ fu_16 ih =>
      intro x2 v_powerMs v_powerNs hF H locs hP hS ls hl
      rw [F_X5_highestPlace_16] at hF
      have ih_16 := ih
      have hD : va_D A (wd_X5_highestPlace h0 h_figures h_powerMs h_powerNs h_restMs h_restNs h_p1 c_powerMs c_powerNs v_ahead v_behind v_ends v_lead v_round v_leftM v_leftN v_ofA v_ofB v_ofM v_ofN v_powerMs v_powerNs v_p1_a v_p1_b) := hD0.re rfl
      refine lv_iload_n hx hb dX5_highestPlace_16 rfl (lv_at hl 2 rfl) ?_
      refine lv_bipush (v := (60 : Int32)) hx hb dX5_highestPlace_17 (by decide) ?_
      refine lv_icmp_ge (tgt := 98) hx hb dX5_highestPlace_19 (by decide) (fun g_1 => ?_) (fun g_1 => ?_)
      · replace hF := ite_t g_1 hF
        refine lv_bipush (v := (60 : Int32)) hx hb dX5_highestPlace_98 (by decide) ?_
        obtain ⟨rfl, rfl, rfl⟩ := oks3 hF; exact hE _ _ _ _ hP hS dX5_highestPlace_100
      · replace hF := ite_f g_1 hF
        refine lv_aload_n hx hb dX5_highestPlace_22 rfl (lv_at hl 1 rfl) ?_
        refine lv_aload_n hx hb dX5_highestPlace_23 rfl (lv_at hl 0 rfl) ?_
        refine va_get (D := (dC, dI)) (ci := 5) (v := .ref h_powerNs) (C := RX5) (T := TX5) (N := 16) hx hb hts inn_X5_highestPlace_X5 hown hK hP 0 rfl rfl 7 (by decide) (hts (.fieldLink RX5 36 "RingBases$Writing" "powerNs" "[J") (List.mem_of_getElem? (i := 2) rfl)) (fun _ h9 => h9) rfl dX5_highestPlace_24 ?_
        refine lv_iload_n hx hb dX5_highestPlace_27 rfl (lv_at hl 2 rfl) ?_
        obtain ⟨i_2, hF⟩ := ck_s hF
        refine va_lald hx hb hK hP 2 1 rfl rfl i_2 dX5_highestPlace_28 ?_
        refine rdVl (As := [.long (v_powerNs x2.toNatClampNeg)]) (rest := []) (b := h_p1) hC (c_X0_raisedM l dC dI h_p1 v_p1_a v_p1_b (v_powerNs x2.toNatClampNeg) (F_X0_raisedM (v_powerNs x2.toNatClampNeg) v_p1_b) rfl) (cwV 1 hts gX5_highestPlace_X0_raisedM rfl rfl rfl (by decide +kernel) ⟨Nat.le_of_ble_eq_true rfl, Nat.le_of_ble_eq_true rfl⟩) hN (hK.sub (tys' := []) [] rfl) (hP.sub (ws' := (wd_X0_raisedM h_p1 v_p1_a v_p1_b)) [3] rfl) 0 0 rfl rfl rfl rfl hl.1 (Nat.le_of_ble_eq_true rfl) dX5_highestPlace_29 ⟨Nat.zero_le _, Nat.zero_le _⟩ ?_
        refine lv_lstore_n (lv' := [(3, .long (F_X0_raisedM (v_powerNs x2.toNatClampNeg) v_p1_b)), (0, .ref h0), (1, .ref h_p1), (2, .int x2)]) hx hb dX5_highestPlace_32 rfl hl (by decide) rfl (fun ls hl => ?_)
        refine lv_aload_n hx hb dX5_highestPlace_33 rfl (lv_at hl 2 rfl) ?_
        refine lv_aload_n hx hb dX5_highestPlace_34 rfl (lv_at hl 1 rfl) ?_
        refine va_get (D := (dC, dI)) (ci := 5) (v := .ref h_powerMs) (C := RX5) (T := TX5) (N := 16) hx hb hts inn_X5_highestPlace_X5 hown hK hP 0 rfl rfl 6 (by decide) (hts (.fieldLink RX5 32 "RingBases$Writing" "powerMs" "[J") (List.mem_of_getElem? (i := 1) rfl)) (fun _ h9 => h9) rfl dX5_highestPlace_35 ?_
        refine lv_iload_n hx hb dX5_highestPlace_38 rfl (lv_at hl 3 rfl) ?_
        refine va_lald hx hb hK hP 1 0 rfl rfl i_2 dX5_highestPlace_39 ?_
        refine lv_aload_n hx hb dX5_highestPlace_40 rfl (lv_at hl 1 rfl) ?_
        refine va_get (D := (dC, dI)) (ci := 5) (v := .ref h_powerNs) (C := RX5) (T := TX5) (N := 16) hx hb hts inn_X5_highestPlace_X5 hown hK hP 0 rfl rfl 7 (by decide) (hts (.fieldLink RX5 36 "RingBases$Writing" "powerNs" "[J") (List.mem_of_getElem? (i := 2) rfl)) (fun _ h9 => h9) rfl dX5_highestPlace_41 ?_
        refine lv_iload_n hx hb dX5_highestPlace_44 rfl (lv_at hl 3 rfl) ?_
        refine va_lald hx hb hK hP 2 1 rfl rfl i_2 dX5_highestPlace_45 ?_
        refine rdVl (As := [.long (v_powerMs x2.toNatClampNeg), .long (v_powerNs x2.toNatClampNeg)]) (rest := []) (b := h_p1) hC (c_X0_raisedN l dC dI h_p1 v_p1_a v_p1_b (v_powerMs x2.toNatClampNeg) (v_powerNs x2.toNatClampNeg) (F_X0_raisedN (v_powerMs x2.toNatClampNeg) (v_powerNs x2.toNatClampNeg) v_p1_a) rfl) (cwV 2 hts gX5_highestPlace_X0_raisedN rfl rfl rfl (by decide +kernel) ⟨Nat.le_of_ble_eq_true rfl, Nat.le_of_ble_eq_true rfl⟩) hN (hK.sub (tys' := []) [] rfl) (hP.sub (ws' := (wd_X0_raisedN h_p1 v_p1_a v_p1_b)) [3] rfl) 0 0 rfl rfl rfl rfl hl.1 (Nat.le_of_ble_eq_true rfl) dX5_highestPlace_46 ⟨Nat.zero_le _, Nat.zero_le _⟩ ?_
        refine lv_lstore (lv' := [(5, .long (F_X0_raisedN (v_powerMs x2.toNatClampNeg) (v_powerNs x2.toNatClampNeg) v_p1_a)), (3, .long (F_X0_raisedM (v_powerNs x2.toNatClampNeg) v_p1_b)), (0, .ref h0), (1, .ref h_p1), (2, .int x2)]) hx hb dX5_highestPlace_49 hl (by decide) rfl (fun ls hl => ?_)
        refine lv_aload_n hx hb dX5_highestPlace_51 rfl (lv_at hl 3 rfl) ?_
        refine lv_aload_n hx hb dX5_highestPlace_52 rfl (lv_at hl 2 rfl) ?_
        refine va_get (D := (dC, dI)) (ci := 5) (v := .long v_leftM) (C := RX5) (T := TX5) (N := 16) hx hb hts inn_X5_highestPlace_X5 hown hK hP 0 rfl rfl 10 (by decide) (hts (.fieldLink RX5 45 "RingBases$Writing" "leftM" "J") (List.mem_of_getElem? (i := 3) rfl)) (fun _ h9 => h9) rfl dX5_highestPlace_53 ?_
        refine lv_lload_n hx hb dX5_highestPlace_56 rfl (lv_at hl 1 rfl) ?_
        refine lv_lsub hx hb dX5_highestPlace_57 ?_
        refine lv_aload_n hx hb dX5_highestPlace_58 rfl (lv_at hl 2 rfl) ?_
        refine va_get (D := (dC, dI)) (ci := 5) (v := .long v_leftN) (C := RX5) (T := TX5) (N := 16) hx hb hts inn_X5_highestPlace_X5 hown hK hP 0 rfl rfl 11 (by decide) (hts (.fieldLink RX5 49 "RingBases$Writing" "leftN" "J") (List.mem_of_getElem? (i := 4) rfl)) (fun _ h9 => h9) rfl dX5_highestPlace_59 ?_
        refine lv_lload hx hb dX5_highestPlace_62 (lv_at hl 0 rfl) ?_
        refine lv_lsub hx hb dX5_highestPlace_64 ?_
        refine rdVi (As := [.long (v_leftM - (F_X0_raisedM (v_powerNs x2.toNatClampNeg) v_p1_b)), .long (v_leftN - (F_X0_raisedN (v_powerMs x2.toNatClampNeg) (v_powerNs x2.toNatClampNeg) v_p1_a))]) (rest := []) (b := h_p1) hC (c_X0_sign l dC dI h_p1 v_p1_a v_p1_b (v_leftM - (F_X0_raisedM (v_powerNs x2.toNatClampNeg) v_p1_b)) (v_leftN - (F_X0_raisedN (v_powerMs x2.toNatClampNeg) (v_powerNs x2.toNatClampNeg) v_p1_a)) (F_X0_sign (v_leftM - (F_X0_raisedM (v_powerNs x2.toNatClampNeg) v_p1_b)) (v_leftN - (F_X0_raisedN (v_powerMs x2.toNatClampNeg) (v_powerNs x2.toNatClampNeg) v_p1_a)) v_p1_a v_p1_b) rfl) (cwV 2 hts gX5_highestPlace_X0_sign rfl rfl rfl (by decide +kernel) ⟨Nat.le_of_ble_eq_true rfl, Nat.le_of_ble_eq_true rfl⟩) hN (hK.sub (tys' := []) [] rfl) (hP.sub (ws' := (wd_X0_sign h_p1 v_p1_a v_p1_b)) [3] rfl) 0 0 rfl rfl rfl rfl hl.1 (Nat.le_of_ble_eq_true rfl) dX5_highestPlace_65 ⟨Nat.zero_le _, Nat.zero_le _⟩ ?_
        refine lv_if_ge (tgt := 73) hx hb dX5_highestPlace_68 (by decide) (fun g_3 => ?_) (fun g_3 => ?_)
        · replace hF := ite_t g_3 hF
          refine lv_aload_n hx hb dX5_highestPlace_73 rfl (lv_at hl 2 rfl) ?_
          refine va_get (D := (dC, dI)) (ci := 5) (v := .ref h_powerMs) (C := RX5) (T := TX5) (N := 16) hx hb hts inn_X5_highestPlace_X5 hown hK hP 0 rfl rfl 6 (by decide) (hts (.fieldLink RX5 32 "RingBases$Writing" "powerMs" "[J") (List.mem_of_getElem? (i := 1) rfl)) (fun _ h9 => h9) rfl dX5_highestPlace_74 ?_
          refine lv_iload_n hx hb dX5_highestPlace_77 rfl (lv_at hl 4 rfl) ?_
          refine lv_iconst (v := (1 : Int32)) hx hb dX5_highestPlace_78 (by decide) ?_
          refine lv_iadd hx hb dX5_highestPlace_79 ?_
          refine lv_lload_n hx hb dX5_highestPlace_80 rfl (lv_at hl 1 rfl) ?_
          obtain ⟨i_4, hF⟩ := ck_s hF
          refine va_last hx hb hK hP hD hS 1 0 rfl rfl i_4 dX5_highestPlace_81 (fun H locs hP hD hS => ?_)
          have hP : va_P (dC, dI) vwCl (wd_X5_highestPlace h0 h_figures h_powerMs h_powerNs h_restMs h_restNs h_p1 c_powerMs c_powerNs v_ahead v_behind v_ends v_lead v_round v_leftM v_leftN v_ofA v_ofB v_ofM v_ofN (vp_updL v_powerMs (x2 + (1 : Int32)).toNatClampNeg (F_X0_raisedM (v_powerNs x2.toNatClampNeg) v_p1_b)) v_powerNs v_p1_a v_p1_b) H := hP
          have hD : va_D A (wd_X5_highestPlace h0 h_figures h_powerMs h_powerNs h_restMs h_restNs h_p1 c_powerMs c_powerNs v_ahead v_behind v_ends v_lead v_round v_leftM v_leftN v_ofA v_ofB v_ofM v_ofN (vp_updL v_powerMs (x2 + (1 : Int32)).toNatClampNeg (F_X0_raisedM (v_powerNs x2.toNatClampNeg) v_p1_b)) v_powerNs v_p1_a v_p1_b) := hD
          refine lv_aload_n hx hb dX5_highestPlace_82 rfl (lv_at hl 2 rfl) ?_
          refine va_get (D := (dC, dI)) (ci := 5) (v := .ref h_powerNs) (C := RX5) (T := TX5) (N := 16) hx hb hts inn_X5_highestPlace_X5 hown hK hP 0 rfl rfl 7 (by decide) (hts (.fieldLink RX5 36 "RingBases$Writing" "powerNs" "[J") (List.mem_of_getElem? (i := 2) rfl)) (fun _ h9 => h9) rfl dX5_highestPlace_83 ?_
          refine lv_iload_n hx hb dX5_highestPlace_86 rfl (lv_at hl 4 rfl) ?_
          refine lv_iconst (v := (1 : Int32)) hx hb dX5_highestPlace_87 (by decide) ?_
          refine lv_iadd hx hb dX5_highestPlace_88 ?_
          refine lv_lload hx hb dX5_highestPlace_89 (lv_at hl 0 rfl) ?_
          refine va_last hx hb hK hP hD hS 2 1 rfl rfl i_4 dX5_highestPlace_91 (fun H locs hP hD hS => ?_)
          have hP : va_P (dC, dI) vwCl (wd_X5_highestPlace h0 h_figures h_powerMs h_powerNs h_restMs h_restNs h_p1 c_powerMs c_powerNs v_ahead v_behind v_ends v_lead v_round v_leftM v_leftN v_ofA v_ofB v_ofM v_ofN (vp_updL v_powerMs (x2 + (1 : Int32)).toNatClampNeg (F_X0_raisedM (v_powerNs x2.toNatClampNeg) v_p1_b)) (vp_updL v_powerNs (x2 + (1 : Int32)).toNatClampNeg (F_X0_raisedN (v_powerMs x2.toNatClampNeg) (v_powerNs x2.toNatClampNeg) v_p1_a)) v_p1_a v_p1_b) H := hP
          have hD : va_D A (wd_X5_highestPlace h0 h_figures h_powerMs h_powerNs h_restMs h_restNs h_p1 c_powerMs c_powerNs v_ahead v_behind v_ends v_lead v_round v_leftM v_leftN v_ofA v_ofB v_ofM v_ofN (vp_updL v_powerMs (x2 + (1 : Int32)).toNatClampNeg (F_X0_raisedM (v_powerNs x2.toNatClampNeg) v_p1_b)) (vp_updL v_powerNs (x2 + (1 : Int32)).toNatClampNeg (F_X0_raisedN (v_powerMs x2.toNatClampNeg) (v_powerNs x2.toNatClampNeg) v_p1_a)) v_p1_a v_p1_b) := hD
          refine lv_iinc (v := (x2 + (1 : Int32))) (lv' := [(2, .int (x2 + (1 : Int32))), (5, .long (F_X0_raisedN (v_powerMs x2.toNatClampNeg) (v_powerNs x2.toNatClampNeg) v_p1_a)), (3, .long (F_X0_raisedM (v_powerNs x2.toNatClampNeg) v_p1_b)), (0, .ref h0), (1, .ref h_p1)]) hx hb dX5_highestPlace_92 hl (k := 4) rfl rfl (by decide) rfl (fun ls hl => ?_)
          refine lv_goto (tgt := 16) hx hb dX5_highestPlace_95 (by decide) ?_
          exact ih (x2 + (1 : Int32)) (vp_updL v_powerMs (x2 + (1 : Int32)).toNatClampNeg (F_X0_raisedM (v_powerNs x2.toNatClampNeg) v_p1_b)) (vp_updL v_powerNs (x2 + (1 : Int32)).toNatClampNeg (F_X0_raisedN (v_powerMs x2.toNatClampNeg) (v_powerNs x2.toNatClampNeg) v_p1_a)) hF H locs hP hS ls (lv_sub hl [3, 4, 0] rfl)
        · replace hF := ite_f g_3 hF
          refine lv_iload_n hx hb dX5_highestPlace_71 rfl (lv_at hl 4 rfl) ?_
          obtain ⟨rfl, rfl, rfl⟩ := oks3 hF; exact hE _ _ _ _ hP hS dX5_highestPlace_72
  refine lv_aload_n hx hb dX5_highestPlace_0 rfl (lv_at hl 0 rfl) ?_
  refine va_get (D := (dC, dI)) (ci := 5) (v := .ref h_powerMs) (C := RX5) (T := TX5) (N := 16) hx hb hts inn_X5_highestPlace_X5 hown hK hP 0 rfl rfl 6 (by decide) (hts (.fieldLink RX5 32 "RingBases$Writing" "powerMs" "[J") (List.mem_of_getElem? (i := 1) rfl)) (fun _ h9 => h9) rfl dX5_highestPlace_1 ?_
  refine lv_iconst (v := (0 : Int32)) hx hb dX5_highestPlace_4 (by decide) ?_
  refine lv_lconst (v := (1 : Int64)) hx hb dX5_highestPlace_5 (by decide) ?_
  refine va_last hx hb hK hP hD hS 1 0 rfl rfl (by unfold vp_in; decide) dX5_highestPlace_6 (fun H locs hP hD hS => ?_)
  have hP : va_P (dC, dI) vwCl (wd_X5_highestPlace h0 h_figures h_powerMs h_powerNs h_restMs h_restNs h_p1 c_powerMs c_powerNs v_ahead v_behind v_ends v_lead v_round v_leftM v_leftN v_ofA v_ofB v_ofM v_ofN (vp_updL v_powerMs (0 : Int32).toNatClampNeg (1 : Int64)) v_powerNs v_p1_a v_p1_b) H := hP
  have hD : va_D A (wd_X5_highestPlace h0 h_figures h_powerMs h_powerNs h_restMs h_restNs h_p1 c_powerMs c_powerNs v_ahead v_behind v_ends v_lead v_round v_leftM v_leftN v_ofA v_ofB v_ofM v_ofN (vp_updL v_powerMs (0 : Int32).toNatClampNeg (1 : Int64)) v_powerNs v_p1_a v_p1_b) := hD
  refine lv_aload_n hx hb dX5_highestPlace_7 rfl (lv_at hl 0 rfl) ?_
  refine va_get (D := (dC, dI)) (ci := 5) (v := .ref h_powerNs) (C := RX5) (T := TX5) (N := 16) hx hb hts inn_X5_highestPlace_X5 hown hK hP 0 rfl rfl 7 (by decide) (hts (.fieldLink RX5 36 "RingBases$Writing" "powerNs" "[J") (List.mem_of_getElem? (i := 2) rfl)) (fun _ h9 => h9) rfl dX5_highestPlace_8 ?_
  refine lv_iconst (v := (0 : Int32)) hx hb dX5_highestPlace_11 (by decide) ?_
  refine lv_lconst (v := (0 : Int64)) hx hb dX5_highestPlace_12 (by decide) ?_
  refine va_last hx hb hK hP hD hS 2 1 rfl rfl (by unfold vp_in; decide) dX5_highestPlace_13 (fun H locs hP hD hS => ?_)
  have hP : va_P (dC, dI) vwCl (wd_X5_highestPlace h0 h_figures h_powerMs h_powerNs h_restMs h_restNs h_p1 c_powerMs c_powerNs v_ahead v_behind v_ends v_lead v_round v_leftM v_leftN v_ofA v_ofB v_ofM v_ofN (vp_updL v_powerMs (0 : Int32).toNatClampNeg (1 : Int64)) (vp_updL v_powerNs (0 : Int32).toNatClampNeg (0 : Int64)) v_p1_a v_p1_b) H := hP
  have hD : va_D A (wd_X5_highestPlace h0 h_figures h_powerMs h_powerNs h_restMs h_restNs h_p1 c_powerMs c_powerNs v_ahead v_behind v_ends v_lead v_round v_leftM v_leftN v_ofA v_ofB v_ofM v_ofN (vp_updL v_powerMs (0 : Int32).toNatClampNeg (1 : Int64)) (vp_updL v_powerNs (0 : Int32).toNatClampNeg (0 : Int64)) v_p1_a v_p1_b) := hD
  refine lv_iconst (v := (0 : Int32)) hx hb dX5_highestPlace_14 (by decide) ?_
  refine lv_istore_n (lv' := [(2, .int (0 : Int32)), (0, .ref h0), (1, .ref h_p1)]) hx hb dX5_highestPlace_15 rfl hl (by decide) rfl (fun ls hl => ?_)
  exact k_16 _ (0 : Int32) (vp_updL v_powerMs (0 : Int32).toNatClampNeg (1 : Int64)) (vp_updL v_powerNs (0 : Int32).toNatClampNeg (0 : Int64)) hF H locs hP hS ls (lv_sub hl [1, 2, 0] rfl)
set_option maxRecDepth 100000 in
set_option maxHeartbeats 4000000 in
theorem c_X5_highestPlace (l : Launch) (dC : Nat → ClassId) (dI : Nat → Nat → Nat) (sz : Nat) (h0 h_figures h_powerMs h_powerNs h_restMs h_restNs h_p1 : Nat) (c_powerMs c_powerNs : ClassId) (v_ahead : Int32) (v_behind : Int32) (v_ends : Int32) (v_lead : Int32) (v_round : Int32) (v_leftM : Int64) (v_leftN : Int64) (v_ofA : Int32) (v_ofB : Int32) (v_ofM : Int32) (v_ofN : Int32) (v_powerMs : (Nat → Int64)) (v_powerNs : (Nat → Int64)) (v_p1_a : Int32) (v_p1_b : Int32) (o : Int32 × (Nat → Int64) × (Nat → Int64)) (hF : F_X5_highestPlace v_leftM v_leftN v_powerMs v_powerNs v_p1_a v_p1_b = some o) : Met l yX5_highestPlace wsX5_highestPlace rm_X5_highestPlace (va_Pc [.ref h0, .ref h_p1] (PcW dC dI sz (wd_X5_highestPlace h0 h_figures h_powerMs h_powerNs h_restMs h_restNs h_p1 c_powerMs c_powerNs v_ahead v_behind v_ends v_lead v_round v_leftM v_leftN v_ofA v_ofB v_ofM v_ofN v_powerMs v_powerNs v_p1_a v_p1_b) [(c_powerMs, .long), (c_powerNs, .long)])) (va_Qi (fun (r : Int32) (_ : Unit) => r = o.1) (fun _ t => va_P (dC, dI) vwCl (wd_X5_highestPlace h0 h_figures h_powerMs h_powerNs h_restMs h_restNs h_p1 c_powerMs c_powerNs v_ahead v_behind v_ends v_lead v_round v_leftM v_leftN v_ofA v_ofB v_ofM v_ofN o.2.1 o.2.2 v_p1_a v_p1_b) t.heap) (va_A (wd_X5_highestPlace h0 h_figures h_powerMs h_powerNs h_restMs h_restNs h_p1 c_powerMs c_powerNs v_ahead v_behind v_ends v_lead v_round v_leftM v_leftN v_ofA v_ofB v_ofM v_ofN v_powerMs v_powerNs v_p1_a v_p1_b) sz)) 0 0 (va_A (wd_X5_highestPlace h0 h_figures h_powerMs h_powerNs h_restMs h_restNs h_p1 c_powerMs c_powerNs v_ahead v_behind v_ends v_lead v_round v_leftM v_leftN v_ofA v_ofB v_ofM v_ofN v_powerMs v_powerNs v_p1_a v_p1_b) sz) := by
  refine Met.ofW (cc := cX5_highestPlace) (maxL := 7) (ret := (some .int)) (by decide) rfl ?_
  intro p e s m args below meth c s₁ B hml hv
  obtain ⟨rfl, hsz, hP, hK, hD0, hN⟩ := hv
  subst hsz
  have hl := lv_entry ([.ref h0, .ref h_p1]) (n := 7) (Nat.le_of_ble_eq_true rfl)
  rw [lg_entry_eq]
  generalize (lg_sl ([.ref h0, .ref h_p1]) ++ List.replicate (7 - (lg_sl ([.ref h0, .ref h_p1])).length) Slot.unset).toArray = ls at hl ⊢
  exact b_X5_highestPlace h0 h_figures h_powerMs h_powerNs h_restMs h_restNs h_p1 c_powerMs c_powerNs v_ahead v_behind v_ends v_lead v_round v_leftM v_leftN v_ofA v_ofB v_ofM v_ofN v_powerMs v_powerNs v_p1_a v_p1_b o.1 o.2.1 o.2.2 hF ⟨B.exec, B.bytes, hml, findClass_of_methodNamed B.named, atoms_spec (ws := wsX5_highestPlace) B.pre⟩ hN hK hP (fun q h => Or.inr h) (hD0.self (sz := s.heap.size)) va_S.rf (fun H locs ls pc hP hS hd => W.iret B.exec B.bytes B.returns (fun t ht hW => ⟨⟨_, (), rfl, rfl, by show va_P (dC, dI) vwCl _ t.heap; rw [ht]; exact hP⟩, hS.F ht⟩) hS.2.2 hd B.notSynchronized) hl
theorem inn_X5_takeOut_X5 : ∀ w ∈ wsX50, w ∈ wsX5_takeOut := fun _ h => List.mem_cons_of_mem _ (List.mem_append_left _ (List.mem_append_right _ h))
abbrev wd_X5_takeOut (h0 h_figures h_powerMs h_powerNs h_restMs h_restNs h_p1 : Nat) (v_ahead : Int32) (v_behind : Int32) (v_ends : Int32) (v_lead : Int32) (v_round : Int32) (v_leftM : Int64) (v_leftN : Int64) (v_ofA : Int32) (v_ofB : Int32) (v_ofM : Int32) (v_ofN : Int32) (v_p1_a : Int32) (v_p1_b : Int32) : va_W := [(h0, .inr (5, [.ref h_figures, .int v_ahead, .int v_behind, .int v_ends, .int v_lead, .int v_round, .ref h_powerMs, .ref h_powerNs, .ref h_restMs, .ref h_restNs, .long v_leftM, .long v_leftN, .int v_ofA, .int v_ofB, .int v_ofM, .int v_ofN])), (h_p1, .inr (0, [.int v_p1_a, .int v_p1_b]))]
abbrev rm_X5_takeOut : Room := { frames := 2, cells := 0, slots := 0, locals := 51 }
def F_X5_takeOut_3 (x2 : Int64) (x4 : Int64) (v_p1_a : Int32) (v_p1_b : Int32) : Nat → Int32 → Int64 → Int64 → Option (Int32 × Int64 × Int64)
  | 0, _, _, _ => none
  | fu + 1, x6, v_leftM, v_leftN => (if (9 : Int32) ≤ x6 then (some (x6, v_leftM, v_leftN)) else (if (F_X0_sign (v_leftM - x2) (v_leftN - x4) v_p1_a v_p1_b) < 0 then (some (x6, v_leftM, v_leftN)) else (F_X5_takeOut_3 x2 x4 v_p1_a v_p1_b fu (x6 + (1 : Int32)) (v_leftM - x2) (v_leftN - x4))))
def F_X5_takeOut (x2 : Int64) (x4 : Int64) (v_leftM : Int64) (v_leftN : Int64) (v_p1_a : Int32) (v_p1_b : Int32) : Option (Int32 × Int64 × Int64) := (F_X5_takeOut_3  x2 x4 v_p1_a v_p1_b 128 (0 : Int32) v_leftM v_leftN)
set_option maxRecDepth 100000 in
set_option maxHeartbeats 4000000 in
theorem b_X5_takeOut {p : Program} {l : Launch} {e : Env} {s : State} {m : MethodId} {args : Array Value} {below : List Frame} {meth : Method} {c : Code} {Q : State → Prop} {dC : Nat → ClassId} {dI : Nat → Nat → Nat} {H : Heap} {locs : List Loc} {ls : Array Slot} {A : Nat → Prop} (h0 h_figures h_powerMs h_powerNs h_restMs h_restNs h_p1 : Nat) (v_ahead : Int32) (v_behind : Int32) (v_ends : Int32) (v_lead : Int32) (v_round : Int32) (v_leftM : Int64) (v_leftN : Int64) (v_ofA : Int32) (v_ofB : Int32) (v_ofM : Int32) (v_ofN : Int32) (v_p1_a : Int32) (v_p1_b : Int32) (x2 : Int64) (x4 : Int64) (ou0 : Int32) (ou1 : Int64) (ou2 : Int64) (hF : F_X5_takeOut x2 x4 v_leftM v_leftN v_p1_a v_p1_b = some (ou0, ou1, ou2)) (hC : CallFix p m c cX5_takeOut 7 s args wsX5_takeOut RX5) (hN : NW s) (hK : va_K (dC, dI) vwCl [] s) (hP : va_P (dC, dI) vwCl (wd_X5_takeOut h0 h_figures h_powerMs h_powerNs h_restMs h_restNs h_p1 v_ahead v_behind v_ends v_lead v_round v_leftM v_leftN v_ofA v_ofB v_ofM v_ofN v_p1_a v_p1_b) H) (hA : ∀ q, s.heap.size ≤ q → A q) (hD : va_D A (wd_X5_takeOut h0 h_figures h_powerMs h_powerNs h_restMs h_restNs h_p1 v_ahead v_behind v_ends v_lead v_round v_leftM v_leftN v_ofA v_ofB v_ofM v_ofN v_p1_a v_p1_b)) (hS : va_S A s.heap H locs) (hE : ∀ (H : Heap) (locs : List Loc) (ls : Array Slot) (pc : Nat), va_P (dC, dI) vwCl (wd_X5_takeOut h0 h_figures h_powerMs h_powerNs h_restMs h_restNs h_p1 v_ahead v_behind v_ends v_lead v_round ou1 ou2 v_ofA v_ofB v_ofM v_ofN v_p1_a v_p1_b) H → va_S A s.heap H locs → decode cX5_takeOut pc = .ok (.ireturn, 1) → W p l e rm_X5_takeOut s m args below meth c H locs 0 0 Q (F0 m pc ls [.int ou0])) (hl : lv_has ls 7 [(0, .ref h0), (1, .ref h_p1), (2, .long x2), (4, .long x4)]) : W p l e rm_X5_takeOut s m args below meth c H locs 0 0 Q (F0 m 0 ls []) := by
  obtain ⟨hx, hb, hml, hown, hts⟩ := id hC
  have hD0 := hD
  unfold F_X5_takeOut at hF
  have k_3 : ∀ (fu_3 : Nat) (x6 : Int32) (v_leftM : Int64) (v_leftN : Int64), F_X5_takeOut_3  x2 x4 v_p1_a v_p1_b fu_3 x6 v_leftM v_leftN = some (ou0, ou1, ou2) → ∀ (H : Heap) (locs : List Loc), va_P (dC, dI) vwCl (wd_X5_takeOut h0 h_figures h_powerMs h_powerNs h_restMs h_restNs h_p1 v_ahead v_behind v_ends v_lead v_round v_leftM v_leftN v_ofA v_ofB v_ofM v_ofN v_p1_a v_p1_b) H → va_S A s.heap H locs → ∀ ls : Array Slot, lv_has ls 7 [(0, .ref h0), (1, .ref h_p1), (2, .long x2), (4, .long x4), (6, .int x6)] → W p l e rm_X5_takeOut s m args below meth c H locs 0 0 Q (F0 m 3 ls []) := by
    intro fu_3
    induction fu_3 with
    | zero => intro x6 v_leftM v_leftN hF; rw [F_X5_takeOut_3] at hF; cases hF
    | succ fu_3 ih =>
      intro x6 v_leftM v_leftN hF H locs hP hS ls hl
      rw [F_X5_takeOut_3] at hF
      have ih_3 := ih
      have hD : va_D A (wd_X5_takeOut h0 h_figures h_powerMs h_powerNs h_restMs h_restNs h_p1 v_ahead v_behind v_ends v_lead v_round v_leftM v_leftN v_ofA v_ofB v_ofM v_ofN v_p1_a v_p1_b) := hD0.re rfl
      refine lv_iload hx hb dX5_takeOut_3 (lv_at hl 4 rfl) ?_
      refine lv_bipush (v := (9 : Int32)) hx hb dX5_takeOut_5 (by decide) ?_
      refine lv_icmp_ge (tgt := 57) hx hb dX5_takeOut_7 (by decide) (fun g_1 => ?_) (fun g_1 => ?_)
      · replace hF := ite_t g_1 hF
        refine lv_iload hx hb dX5_takeOut_57 (lv_at hl 4 rfl) ?_
        obtain ⟨rfl, rfl, rfl⟩ := oks3 hF; exact hE _ _ _ _ hP hS dX5_takeOut_59
      · replace hF := ite_f g_1 hF
        refine lv_aload_n hx hb dX5_takeOut_10 rfl (lv_at hl 1 rfl) ?_
        refine lv_aload_n hx hb dX5_takeOut_11 rfl (lv_at hl 0 rfl) ?_
        refine va_get (D := (dC, dI)) (ci := 5) (v := .long v_leftM) (C := RX5) (T := TX5) (N := 16) hx hb hts inn_X5_takeOut_X5 hown hK hP 0 rfl rfl 10 (by decide) (hts (.fieldLink RX5 45 "RingBases$Writing" "leftM" "J") (List.mem_of_getElem? (i := 1) rfl)) (fun _ h9 => h9) rfl dX5_takeOut_12 ?_
        refine lv_lload_n hx hb dX5_takeOut_15 rfl (lv_at hl 2 rfl) ?_
        refine lv_lsub hx hb dX5_takeOut_16 ?_
        refine lv_aload_n hx hb dX5_takeOut_17 rfl (lv_at hl 0 rfl) ?_
        refine va_get (D := (dC, dI)) (ci := 5) (v := .long v_leftN) (C := RX5) (T := TX5) (N := 16) hx hb hts inn_X5_takeOut_X5 hown hK hP 0 rfl rfl 11 (by decide) (hts (.fieldLink RX5 49 "RingBases$Writing" "leftN" "J") (List.mem_of_getElem? (i := 2) rfl)) (fun _ h9 => h9) rfl dX5_takeOut_18 ?_
        refine lv_lload hx hb dX5_takeOut_21 (lv_at hl 3 rfl) ?_
        refine lv_lsub hx hb dX5_takeOut_23 ?_
        refine rdVi (As := [.long (v_leftM - x2), .long (v_leftN - x4)]) (rest := []) (b := h_p1) hC (c_X0_sign l dC dI h_p1 v_p1_a v_p1_b (v_leftM - x2) (v_leftN - x4) (F_X0_sign (v_leftM - x2) (v_leftN - x4) v_p1_a v_p1_b) rfl) (cwV 2 hts gX5_takeOut_X0_sign rfl rfl rfl (by decide +kernel) ⟨Nat.le_of_ble_eq_true rfl, Nat.le_of_ble_eq_true rfl⟩) hN (hK.sub (tys' := []) [] rfl) (hP.sub (ws' := (wd_X0_sign h_p1 v_p1_a v_p1_b)) [1] rfl) 0 0 rfl rfl rfl rfl hl.1 (Nat.le_of_ble_eq_true rfl) dX5_takeOut_24 ⟨Nat.zero_le _, Nat.zero_le _⟩ ?_
        refine lv_if_lt (tgt := 57) hx hb dX5_takeOut_27 (by decide) (fun g_2 => ?_) (fun g_2 => ?_)
        · replace hF := ite_t g_2 hF
          refine lv_iload hx hb dX5_takeOut_57 (lv_at hl 4 rfl) ?_
          obtain ⟨rfl, rfl, rfl⟩ := oks3 hF; exact hE _ _ _ _ hP hS dX5_takeOut_59
        · replace hF := ite_f g_2 hF
          refine lv_aload_n hx hb dX5_takeOut_30 rfl (lv_at hl 0 rfl) ?_
          refine lv_dup hx hb dX5_takeOut_31 rfl ?_
          refine va_get (D := (dC, dI)) (ci := 5) (v := .long v_leftM) (C := RX5) (T := TX5) (N := 16) hx hb hts inn_X5_takeOut_X5 hown hK hP 0 rfl rfl 10 (by decide) (hts (.fieldLink RX5 45 "RingBases$Writing" "leftM" "J") (List.mem_of_getElem? (i := 1) rfl)) (fun _ h9 => h9) rfl dX5_takeOut_32 ?_
          refine lv_lload_n hx hb dX5_takeOut_35 rfl (lv_at hl 2 rfl) ?_
          refine lv_lsub hx hb dX5_takeOut_36 ?_
          refine va_put (D := (dC, dI)) (ty := .long) (ci := 5) (v := .long (v_leftM - x2)) (C := RX5) (T := TX5) (N := 16) hx hb hts inn_X5_takeOut_X5 tyX5 tyX5_ok nmX5 hown hK hP hD hS 0 rfl rfl 10 (by decide) (hts (.fieldLink RX5 45 "RingBases$Writing" "leftM" "J") (List.mem_of_getElem? (i := 1) rfl)) (fun _ h9 => h9) rfl (by decide +kernel) rfl rfl (Nat.le_of_ble_eq_true rfl) dX5_takeOut_37 (fun H locs hP hD hS => ?_)
          have hP : va_P (dC, dI) vwCl (wd_X5_takeOut h0 h_figures h_powerMs h_powerNs h_restMs h_restNs h_p1 v_ahead v_behind v_ends v_lead v_round (v_leftM - x2) v_leftN v_ofA v_ofB v_ofM v_ofN v_p1_a v_p1_b) H := hP
          have hD : va_D A (wd_X5_takeOut h0 h_figures h_powerMs h_powerNs h_restMs h_restNs h_p1 v_ahead v_behind v_ends v_lead v_round (v_leftM - x2) v_leftN v_ofA v_ofB v_ofM v_ofN v_p1_a v_p1_b) := hD
          refine lv_aload_n hx hb dX5_takeOut_40 rfl (lv_at hl 0 rfl) ?_
          refine lv_dup hx hb dX5_takeOut_41 rfl ?_
          refine va_get (D := (dC, dI)) (ci := 5) (v := .long v_leftN) (C := RX5) (T := TX5) (N := 16) hx hb hts inn_X5_takeOut_X5 hown hK hP 0 rfl rfl 11 (by decide) (hts (.fieldLink RX5 49 "RingBases$Writing" "leftN" "J") (List.mem_of_getElem? (i := 2) rfl)) (fun _ h9 => h9) rfl dX5_takeOut_42 ?_
          refine lv_lload hx hb dX5_takeOut_45 (lv_at hl 3 rfl) ?_
          refine lv_lsub hx hb dX5_takeOut_47 ?_
          refine va_put (D := (dC, dI)) (ty := .long) (ci := 5) (v := .long (v_leftN - x4)) (C := RX5) (T := TX5) (N := 16) hx hb hts inn_X5_takeOut_X5 tyX5 tyX5_ok nmX5 hown hK hP hD hS 0 rfl rfl 11 (by decide) (hts (.fieldLink RX5 49 "RingBases$Writing" "leftN" "J") (List.mem_of_getElem? (i := 2) rfl)) (fun _ h9 => h9) rfl (by decide +kernel) rfl rfl (Nat.le_of_ble_eq_true rfl) dX5_takeOut_48 (fun H locs hP hD hS => ?_)
          have hP : va_P (dC, dI) vwCl (wd_X5_takeOut h0 h_figures h_powerMs h_powerNs h_restMs h_restNs h_p1 v_ahead v_behind v_ends v_lead v_round (v_leftM - x2) (v_leftN - x4) v_ofA v_ofB v_ofM v_ofN v_p1_a v_p1_b) H := hP
          have hD : va_D A (wd_X5_takeOut h0 h_figures h_powerMs h_powerNs h_restMs h_restNs h_p1 v_ahead v_behind v_ends v_lead v_round (v_leftM - x2) (v_leftN - x4) v_ofA v_ofB v_ofM v_ofN v_p1_a v_p1_b) := hD
          refine lv_iinc (v := (x6 + (1 : Int32))) (lv' := [(6, .int (x6 + (1 : Int32))), (0, .ref h0), (1, .ref h_p1), (2, .long x2), (4, .long x4)]) hx hb dX5_takeOut_51 hl (k := 4) rfl rfl (by decide) rfl (fun ls hl => ?_)
          refine lv_goto (tgt := 3) hx hb dX5_takeOut_54 (by decide) ?_
          exact ih (x6 + (1 : Int32)) (v_leftM - x2) (v_leftN - x4) hF H locs hP hS ls (lv_sub hl [1, 2, 3, 4, 0] rfl)
  refine lv_iconst (v := (0 : Int32)) hx hb dX5_takeOut_0 (by decide) ?_
  refine lv_istore (lv' := [(6, .int (0 : Int32)), (0, .ref h0), (1, .ref h_p1), (2, .long x2), (4, .long x4)]) hx hb dX5_takeOut_1 hl (by decide) rfl (fun ls hl => ?_)
  exact k_3 _ (0 : Int32) v_leftM v_leftN hF H locs hP hS ls (lv_sub hl [1, 2, 3, 4, 0] rfl)
set_option maxRecDepth 100000 in
set_option maxHeartbeats 4000000 in
theorem c_X5_takeOut (l : Launch) (dC : Nat → ClassId) (dI : Nat → Nat → Nat) (sz : Nat) (h0 h_figures h_powerMs h_powerNs h_restMs h_restNs h_p1 : Nat) (v_ahead : Int32) (v_behind : Int32) (v_ends : Int32) (v_lead : Int32) (v_round : Int32) (v_leftM : Int64) (v_leftN : Int64) (v_ofA : Int32) (v_ofB : Int32) (v_ofM : Int32) (v_ofN : Int32) (v_p1_a : Int32) (v_p1_b : Int32) (x2 : Int64) (x4 : Int64) (o : Int32 × Int64 × Int64) (hF : F_X5_takeOut x2 x4 v_leftM v_leftN v_p1_a v_p1_b = some o) : Met l yX5_takeOut wsX5_takeOut rm_X5_takeOut (va_Pc [.ref h0, .ref h_p1, .long x2, .long x4] (PcW dC dI sz (wd_X5_takeOut h0 h_figures h_powerMs h_powerNs h_restMs h_restNs h_p1 v_ahead v_behind v_ends v_lead v_round v_leftM v_leftN v_ofA v_ofB v_ofM v_ofN v_p1_a v_p1_b) [])) (va_Qi (fun (r : Int32) (_ : Unit) => r = o.1) (fun _ t => va_P (dC, dI) vwCl (wd_X5_takeOut h0 h_figures h_powerMs h_powerNs h_restMs h_restNs h_p1 v_ahead v_behind v_ends v_lead v_round o.2.1 o.2.2 v_ofA v_ofB v_ofM v_ofN v_p1_a v_p1_b) t.heap) (va_A (wd_X5_takeOut h0 h_figures h_powerMs h_powerNs h_restMs h_restNs h_p1 v_ahead v_behind v_ends v_lead v_round v_leftM v_leftN v_ofA v_ofB v_ofM v_ofN v_p1_a v_p1_b) sz)) 0 0 (va_A (wd_X5_takeOut h0 h_figures h_powerMs h_powerNs h_restMs h_restNs h_p1 v_ahead v_behind v_ends v_lead v_round v_leftM v_leftN v_ofA v_ofB v_ofM v_ofN v_p1_a v_p1_b) sz) := by
  refine Met.ofW (cc := cX5_takeOut) (maxL := 7) (ret := (some .int)) (by decide) rfl ?_
  intro p e s m args below meth c s₁ B hml hv
  obtain ⟨rfl, hsz, hP, hK, hD0, hN⟩ := hv
  subst hsz
  have hl := lv_entry ([.ref h0, .ref h_p1, .long x2, .long x4]) (n := 7) (Nat.le_of_ble_eq_true rfl)
  rw [lg_entry_eq]
  generalize (lg_sl ([.ref h0, .ref h_p1, .long x2, .long x4]) ++ List.replicate (7 - (lg_sl ([.ref h0, .ref h_p1, .long x2, .long x4])).length) Slot.unset).toArray = ls at hl ⊢
  exact b_X5_takeOut h0 h_figures h_powerMs h_powerNs h_restMs h_restNs h_p1 v_ahead v_behind v_ends v_lead v_round v_leftM v_leftN v_ofA v_ofB v_ofM v_ofN v_p1_a v_p1_b x2 x4 o.1 o.2.1 o.2.2 hF ⟨B.exec, B.bytes, hml, findClass_of_methodNamed B.named, atoms_spec (ws := wsX5_takeOut) B.pre⟩ hN hK hP (fun q h => Or.inr h) (hD0.self (sz := s.heap.size)) va_S.rf (fun H locs ls pc hP hS hd => W.iret B.exec B.bytes B.returns (fun t ht hW => ⟨⟨_, (), rfl, rfl, by show va_P (dC, dI) vwCl _ t.heap; rw [ht]; exact hP⟩, hS.F ht⟩) hS.2.2 hd B.notSynchronized) hl
theorem inn_X5_spellAhead_X5 : ∀ w ∈ wsX50, w ∈ wsX5_spellAhead := fun _ h => List.mem_cons_of_mem _ (List.mem_append_left _ (List.mem_append_right _ h))
abbrev wd_X5_spellAhead (h0 h_figures h_powerMs h_powerNs h_restMs h_restNs h_p1 : Nat) (c_figures c_powerMs c_powerNs : ClassId) (v_ahead : Int32) (v_behind : Int32) (v_ends : Int32) (v_lead : Int32) (v_round : Int32) (v_leftM : Int64) (v_leftN : Int64) (v_ofA : Int32) (v_ofB : Int32) (v_ofM : Int32) (v_ofN : Int32) (v_figures : (Nat → Int32)) (v_powerMs : (Nat → Int64)) (v_powerNs : (Nat → Int64)) (v_p1_a : Int32) (v_p1_b : Int32) : va_W := [(h0, .inr (5, [.ref h_figures, .int v_ahead, .int v_behind, .int v_ends, .int v_lead, .int v_round, .ref h_powerMs, .ref h_powerNs, .ref h_restMs, .ref h_restNs, .long v_leftM, .long v_leftN, .int v_ofA, .int v_ofB, .int v_ofM, .int v_ofN])), (h_figures, .inl (c_figures, 101, .inl v_figures)), (h_powerMs, .inl (c_powerMs, 61, .inr (.inl v_powerMs))), (h_powerNs, .inl (c_powerNs, 61, .inr (.inl v_powerNs))), (h_p1, .inr (0, [.int v_p1_a, .int v_p1_b]))]
abbrev rm_X5_spellAhead : Room := { frames := 3, cells := 0, slots := 0, locals := 77 }
def F_X5_spellAhead_7 (v_powerMs : (Nat → Int64)) (v_powerNs : (Nat → Int64)) (v_p1_a : Int32) (v_p1_b : Int32) : Nat → Int32 → Int32 → Int64 → Int64 → (Nat → Int32) → Option (Int32 × Int64 × Int64 × (Nat → Int32))
  | 0, _, _, _, _, _ => none
  | fu + 1, x3, v_ahead, v_leftM, v_leftN, v_figures => (if x3 < 0 then (some (v_ahead, v_leftM, v_leftN, v_figures)) else (ck x3 61 ((F_X5_takeOut (v_powerMs x3.toNatClampNeg) (v_powerNs x3.toNatClampNeg) v_leftM v_leftN v_p1_a v_p1_b).bind fun o_3 => (ck v_ahead 101 (F_X5_spellAhead_7 v_powerMs v_powerNs v_p1_a v_p1_b fu (x3 + (-1 : Int32)) (v_ahead + (1 : Int32)) o_3.2.1 o_3.2.2 (upd v_figures v_ahead.toNatClampNeg o_3.1))))))
def F_X5_spellAhead (x2 : Int32) (v_leftM : Int64) (v_leftN : Int64) (v_figures : (Nat → Int32)) (v_powerMs : (Nat → Int64)) (v_powerNs : (Nat → Int64)) (v_p1_a : Int32) (v_p1_b : Int32) : Option (Int32 × Int64 × Int64 × (Nat → Int32)) := (F_X5_spellAhead_7  v_powerMs v_powerNs v_p1_a v_p1_b 128 x2 (0 : Int32) v_leftM v_leftN v_figures)
set_option maxRecDepth 100000 in
set_option maxHeartbeats 4000000 in
theorem b_X5_spellAhead {p : Program} {l : Launch} {e : Env} {s : State} {m : MethodId} {args : Array Value} {below : List Frame} {meth : Method} {c : Code} {Q : State → Prop} {dC : Nat → ClassId} {dI : Nat → Nat → Nat} {H : Heap} {locs : List Loc} {ls : Array Slot} {A : Nat → Prop} (h0 h_figures h_powerMs h_powerNs h_restMs h_restNs h_p1 : Nat) (c_figures c_powerMs c_powerNs : ClassId) (v_ahead : Int32) (v_behind : Int32) (v_ends : Int32) (v_lead : Int32) (v_round : Int32) (v_leftM : Int64) (v_leftN : Int64) (v_ofA : Int32) (v_ofB : Int32) (v_ofM : Int32) (v_ofN : Int32) (v_figures : (Nat → Int32)) (v_powerMs : (Nat → Int64)) (v_powerNs : (Nat → Int64)) (v_p1_a : Int32) (v_p1_b : Int32) (x2 : Int32) (ou0 : Int32) (ou1 : Int64) (ou2 : Int64) (ou3 : (Nat → Int32)) (hF : F_X5_spellAhead x2 v_leftM v_leftN v_figures v_powerMs v_powerNs v_p1_a v_p1_b = some (ou0, ou1, ou2, ou3)) (hC : CallFix p m c cX5_spellAhead 4 s args wsX5_spellAhead RX5) (hN : NW s) (hK : va_K (dC, dI) vwCl [(c_figures, .int), (c_powerMs, .long), (c_powerNs, .long)] s) (hP : va_P (dC, dI) vwCl (wd_X5_spellAhead h0 h_figures h_powerMs h_powerNs h_restMs h_restNs h_p1 c_figures c_powerMs c_powerNs v_ahead v_behind v_ends v_lead v_round v_leftM v_leftN v_ofA v_ofB v_ofM v_ofN v_figures v_powerMs v_powerNs v_p1_a v_p1_b) H) (hA : ∀ q, s.heap.size ≤ q → A q) (hD : va_D A (wd_X5_spellAhead h0 h_figures h_powerMs h_powerNs h_restMs h_restNs h_p1 c_figures c_powerMs c_powerNs v_ahead v_behind v_ends v_lead v_round v_leftM v_leftN v_ofA v_ofB v_ofM v_ofN v_figures v_powerMs v_powerNs v_p1_a v_p1_b)) (hS : va_S A s.heap H locs) (hE : ∀ (H : Heap) (locs : List Loc) (ls : Array Slot) (pc : Nat), va_P (dC, dI) vwCl (wd_X5_spellAhead h0 h_figures h_powerMs h_powerNs h_restMs h_restNs h_p1 c_figures c_powerMs c_powerNs ou0 v_behind v_ends v_lead v_round ou1 ou2 v_ofA v_ofB v_ofM v_ofN ou3 v_powerMs v_powerNs v_p1_a v_p1_b) H → va_S A s.heap H locs → decode cX5_spellAhead pc = .ok (.return_, 1) → W p l e rm_X5_spellAhead s m args below meth c H locs 0 0 Q (F0 m pc ls [])) (hl : lv_has ls 4 [(0, .ref h0), (1, .ref h_p1), (2, .int x2)]) : W p l e rm_X5_spellAhead s m args below meth c H locs 0 0 Q (F0 m 0 ls []) := by
  obtain ⟨hx, hb, hml, hown, hts⟩ := id hC
  have hD0 := hD
  unfold F_X5_spellAhead at hF
  have k_7 : ∀ (fu_7 : Nat) (x3 : Int32) (v_ahead : Int32) (v_leftM : Int64) (v_leftN : Int64) (v_figures : (Nat → Int32)), F_X5_spellAhead_7  v_powerMs v_powerNs v_p1_a v_p1_b fu_7 x3 v_ahead v_leftM v_leftN v_figures = some (ou0, ou1, ou2, ou3) → ∀ (H : Heap) (locs : List Loc), va_P (dC, dI) vwCl (wd_X5_spellAhead h0 h_figures h_powerMs h_powerNs h_restMs h_restNs h_p1 c_figures c_powerMs c_powerNs v_ahead v_behind v_ends v_lead v_round v_leftM v_leftN v_ofA v_ofB v_ofM v_ofN v_figures v_powerMs v_powerNs v_p1_a v_p1_b) H → va_S A s.heap H locs → ∀ ls : Array Slot, lv_has ls 4 [(0, .ref h0), (1, .ref h_p1), (3, .int x3)] → W p l e rm_X5_spellAhead s m args below meth c H locs 0 0 Q (F0 m 7 ls []) := by
    intro fu_7
    induction fu_7 with
    | zero => intro x3 v_ahead v_leftM v_leftN v_figures hF; rw [F_X5_spellAhead_7] at hF; cases hF
    | succ fu_7 ih =>
      intro x3 v_ahead v_leftM v_leftN v_figures hF H locs hP hS ls hl
      rw [F_X5_spellAhead_7] at hF
      have ih_7 := ih
      have hD : va_D A (wd_X5_spellAhead h0 h_figures h_powerMs h_powerNs h_restMs h_restNs h_p1 c_figures c_powerMs c_powerNs v_ahead v_behind v_ends v_lead v_round v_leftM v_leftN v_ofA v_ofB v_ofM v_ofN v_figures v_powerMs v_powerNs v_p1_a v_p1_b) := hD0.re rfl
      refine lv_iload_n hx hb dX5_spellAhead_7 rfl (lv_at hl 2 rfl) ?_
      refine lv_if_lt (tgt := 53) hx hb dX5_spellAhead_8 (by decide) (fun g_1 => ?_) (fun g_1 => ?_)
      · replace hF := ite_t g_1 hF
        obtain ⟨rfl, rfl, rfl, rfl⟩ := oks4 hF; exact hE _ _ _ _ hP hS dX5_spellAhead_53
      · replace hF := ite_f g_1 hF
        refine lv_aload_n hx hb dX5_spellAhead_11 rfl (lv_at hl 0 rfl) ?_
        refine va_get (D := (dC, dI)) (ci := 5) (v := .ref h_figures) (C := RX5) (T := TX5) (N := 16) hx hb hts inn_X5_spellAhead_X5 hown hK hP 0 rfl rfl 0 (by decide) (hts (.fieldLink RX5 9 "RingBases$Writing" "figures" "[I") (List.mem_of_getElem? (i := 2) rfl)) (fun _ h9 => h9) rfl dX5_spellAhead_12 ?_
        refine lv_aload_n hx hb dX5_spellAhead_15 rfl (lv_at hl 0 rfl) ?_
        refine va_get (D := (dC, dI)) (ci := 5) (v := .int v_ahead) (C := RX5) (T := TX5) (N := 16) hx hb hts inn_X5_spellAhead_X5 hown hK hP 0 rfl rfl 1 (by decide) (hts (.fieldLink RX5 15 "RingBases$Writing" "ahead" "I") (List.mem_of_getElem? (i := 1) rfl)) (fun _ h9 => h9) rfl dX5_spellAhead_16 ?_
        refine lv_aload_n hx hb dX5_spellAhead_19 rfl (lv_at hl 0 rfl) ?_
        refine lv_aload_n hx hb dX5_spellAhead_20 rfl (lv_at hl 1 rfl) ?_
        refine lv_aload_n hx hb dX5_spellAhead_21 rfl (lv_at hl 0 rfl) ?_
        refine va_get (D := (dC, dI)) (ci := 5) (v := .ref h_powerMs) (C := RX5) (T := TX5) (N := 16) hx hb hts inn_X5_spellAhead_X5 hown hK hP 0 rfl rfl 6 (by decide) (hts (.fieldLink RX5 32 "RingBases$Writing" "powerMs" "[J") (List.mem_of_getElem? (i := 3) rfl)) (fun _ h9 => h9) rfl dX5_spellAhead_22 ?_
        refine lv_iload_n hx hb dX5_spellAhead_25 rfl (lv_at hl 2 rfl) ?_
        obtain ⟨i_2, hF⟩ := ck_s hF
        refine va_lald hx hb hK hP 2 1 rfl rfl i_2 dX5_spellAhead_26 ?_
        refine lv_aload_n hx hb dX5_spellAhead_27 rfl (lv_at hl 0 rfl) ?_
        refine va_get (D := (dC, dI)) (ci := 5) (v := .ref h_powerNs) (C := RX5) (T := TX5) (N := 16) hx hb hts inn_X5_spellAhead_X5 hown hK hP 0 rfl rfl 7 (by decide) (hts (.fieldLink RX5 36 "RingBases$Writing" "powerNs" "[J") (List.mem_of_getElem? (i := 4) rfl)) (fun _ h9 => h9) rfl dX5_spellAhead_28 ?_
        refine lv_iload_n hx hb dX5_spellAhead_31 rfl (lv_at hl 2 rfl) ?_
        refine va_lald hx hb hK hP 3 2 rfl rfl i_2 dX5_spellAhead_32 ?_
        obtain ⟨o_3, hc_o_3, hF⟩ := bd_s hF
        refine wrVi (o := o_3.1) (wc' := (wd_X5_takeOut h0 h_figures h_powerMs h_powerNs h_restMs h_restNs h_p1 v_ahead v_behind v_ends v_lead v_round o_3.2.1 o_3.2.2 v_ofA v_ofB v_ofM v_ofN v_p1_a v_p1_b)) (As := [.ref h_p1, .long (v_powerMs x3.toNatClampNeg), .long (v_powerNs x3.toNatClampNeg)]) (rest := [.int v_ahead, .ref h_figures]) (b := h0) hC (c_X5_takeOut l dC dI H.size h0 h_figures h_powerMs h_powerNs h_restMs h_restNs h_p1 v_ahead v_behind v_ends v_lead v_round v_leftM v_leftN v_ofA v_ofB v_ofM v_ofN v_p1_a v_p1_b (v_powerMs x3.toNatClampNeg) (v_powerNs x3.toNatClampNeg) o_3 hc_o_3) (cwV 3 hts gX5_spellAhead_X5_takeOut rfl rfl rfl (by decide +kernel) ⟨Nat.le_of_ble_eq_true rfl, Nat.le_of_ble_eq_true rfl⟩) hN (hK.sub (tys' := []) [] rfl) hP hD hS hA [0, 4] rfl rfl rfl rfl 0 5 rfl rfl rfl rfl hl.1 (Nat.le_of_ble_eq_true rfl) dX5_spellAhead_33 ⟨Nat.zero_le _, Nat.zero_le _⟩ (fun H locs hP hS => ?_)
        have hP : va_P (dC, dI) vwCl (wd_X5_spellAhead h0 h_figures h_powerMs h_powerNs h_restMs h_restNs h_p1 c_figures c_powerMs c_powerNs v_ahead v_behind v_ends v_lead v_round o_3.2.1 o_3.2.2 v_ofA v_ofB v_ofM v_ofN v_figures v_powerMs v_powerNs v_p1_a v_p1_b) H := hP
        have hD : va_D A (wd_X5_spellAhead h0 h_figures h_powerMs h_powerNs h_restMs h_restNs h_p1 c_figures c_powerMs c_powerNs v_ahead v_behind v_ends v_lead v_round o_3.2.1 o_3.2.2 v_ofA v_ofB v_ofM v_ofN v_figures v_powerMs v_powerNs v_p1_a v_p1_b) := va_D.re hD rfl
        obtain ⟨i_4, hF⟩ := ck_s hF
        refine va_iast hx hb hK hP hD hS 1 0 rfl rfl i_4 dX5_spellAhead_36 (fun H locs hP hD hS => ?_)
        have hP : va_P (dC, dI) vwCl (wd_X5_spellAhead h0 h_figures h_powerMs h_powerNs h_restMs h_restNs h_p1 c_figures c_powerMs c_powerNs v_ahead v_behind v_ends v_lead v_round o_3.2.1 o_3.2.2 v_ofA v_ofB v_ofM v_ofN (upd v_figures v_ahead.toNatClampNeg o_3.1) v_powerMs v_powerNs v_p1_a v_p1_b) H := hP
        have hD : va_D A (wd_X5_spellAhead h0 h_figures h_powerMs h_powerNs h_restMs h_restNs h_p1 c_figures c_powerMs c_powerNs v_ahead v_behind v_ends v_lead v_round o_3.2.1 o_3.2.2 v_ofA v_ofB v_ofM v_ofN (upd v_figures v_ahead.toNatClampNeg o_3.1) v_powerMs v_powerNs v_p1_a v_p1_b) := hD
        refine lv_aload_n hx hb dX5_spellAhead_37 rfl (lv_at hl 0 rfl) ?_
        refine lv_dup hx hb dX5_spellAhead_38 rfl ?_
        refine va_get (D := (dC, dI)) (ci := 5) (v := .int v_ahead) (C := RX5) (T := TX5) (N := 16) hx hb hts inn_X5_spellAhead_X5 hown hK hP 0 rfl rfl 1 (by decide) (hts (.fieldLink RX5 15 "RingBases$Writing" "ahead" "I") (List.mem_of_getElem? (i := 1) rfl)) (fun _ h9 => h9) rfl dX5_spellAhead_39 ?_
        refine lv_iconst (v := (1 : Int32)) hx hb dX5_spellAhead_42 (by decide) ?_
        refine lv_iadd hx hb dX5_spellAhead_43 ?_
        refine va_put (D := (dC, dI)) (ty := .int) (ci := 5) (v := .int (v_ahead + (1 : Int32))) (C := RX5) (T := TX5) (N := 16) hx hb hts inn_X5_spellAhead_X5 tyX5 tyX5_ok nmX5 hown hK hP hD hS 0 rfl rfl 1 (by decide) (hts (.fieldLink RX5 15 "RingBases$Writing" "ahead" "I") (List.mem_of_getElem? (i := 1) rfl)) (fun _ h9 => h9) rfl (by decide +kernel) rfl rfl (Nat.le_of_ble_eq_true rfl) dX5_spellAhead_44 (fun H locs hP hD hS => ?_)
        have hP : va_P (dC, dI) vwCl (wd_X5_spellAhead h0 h_figures h_powerMs h_powerNs h_restMs h_restNs h_p1 c_figures c_powerMs c_powerNs (v_ahead + (1 : Int32)) v_behind v_ends v_lead v_round o_3.2.1 o_3.2.2 v_ofA v_ofB v_ofM v_ofN (upd v_figures v_ahead.toNatClampNeg o_3.1) v_powerMs v_powerNs v_p1_a v_p1_b) H := hP
        have hD : va_D A (wd_X5_spellAhead h0 h_figures h_powerMs h_powerNs h_restMs h_restNs h_p1 c_figures c_powerMs c_powerNs (v_ahead + (1 : Int32)) v_behind v_ends v_lead v_round o_3.2.1 o_3.2.2 v_ofA v_ofB v_ofM v_ofN (upd v_figures v_ahead.toNatClampNeg o_3.1) v_powerMs v_powerNs v_p1_a v_p1_b) := hD
        refine lv_iinc (v := (x3 + (-1 : Int32))) (lv' := [(3, .int (x3 + (-1 : Int32))), (0, .ref h0), (1, .ref h_p1)]) hx hb dX5_spellAhead_47 hl (k := 2) rfl rfl (by decide) rfl (fun ls hl => ?_)
        refine lv_goto (tgt := 7) hx hb dX5_spellAhead_50 (by decide) ?_
        exact ih (x3 + (-1 : Int32)) (v_ahead + (1 : Int32)) o_3.2.1 o_3.2.2 (upd v_figures v_ahead.toNatClampNeg o_3.1) hF H locs hP hS ls (lv_sub hl [1, 2, 0] rfl)
  refine lv_aload_n hx hb dX5_spellAhead_0 rfl (lv_at hl 0 rfl) ?_
  refine lv_iconst (v := (0 : Int32)) hx hb dX5_spellAhead_1 (by decide) ?_
  refine va_put (D := (dC, dI)) (ty := .int) (ci := 5) (v := .int (0 : Int32)) (C := RX5) (T := TX5) (N := 16) hx hb hts inn_X5_spellAhead_X5 tyX5 tyX5_ok nmX5 hown hK hP hD hS 0 rfl rfl 1 (by decide) (hts (.fieldLink RX5 15 "RingBases$Writing" "ahead" "I") (List.mem_of_getElem? (i := 1) rfl)) (fun _ h9 => h9) rfl (by decide +kernel) rfl rfl (Nat.le_of_ble_eq_true rfl) dX5_spellAhead_2 (fun H locs hP hD hS => ?_)
  have hP : va_P (dC, dI) vwCl (wd_X5_spellAhead h0 h_figures h_powerMs h_powerNs h_restMs h_restNs h_p1 c_figures c_powerMs c_powerNs (0 : Int32) v_behind v_ends v_lead v_round v_leftM v_leftN v_ofA v_ofB v_ofM v_ofN v_figures v_powerMs v_powerNs v_p1_a v_p1_b) H := hP
  have hD : va_D A (wd_X5_spellAhead h0 h_figures h_powerMs h_powerNs h_restMs h_restNs h_p1 c_figures c_powerMs c_powerNs (0 : Int32) v_behind v_ends v_lead v_round v_leftM v_leftN v_ofA v_ofB v_ofM v_ofN v_figures v_powerMs v_powerNs v_p1_a v_p1_b) := hD
  refine lv_iload_n hx hb dX5_spellAhead_5 rfl (lv_at hl 2 rfl) ?_
  refine lv_istore_n (lv' := [(3, .int x2), (0, .ref h0), (1, .ref h_p1), (2, .int x2)]) hx hb dX5_spellAhead_6 rfl hl (by decide) rfl (fun ls hl => ?_)
  exact k_7 _ x2 (0 : Int32) v_leftM v_leftN v_figures hF H locs hP hS ls (lv_sub hl [1, 2, 0] rfl)
set_option maxRecDepth 100000 in
set_option maxHeartbeats 4000000 in
theorem c_X5_spellAhead (l : Launch) (dC : Nat → ClassId) (dI : Nat → Nat → Nat) (sz : Nat) (h0 h_figures h_powerMs h_powerNs h_restMs h_restNs h_p1 : Nat) (c_figures c_powerMs c_powerNs : ClassId) (v_ahead : Int32) (v_behind : Int32) (v_ends : Int32) (v_lead : Int32) (v_round : Int32) (v_leftM : Int64) (v_leftN : Int64) (v_ofA : Int32) (v_ofB : Int32) (v_ofM : Int32) (v_ofN : Int32) (v_figures : (Nat → Int32)) (v_powerMs : (Nat → Int64)) (v_powerNs : (Nat → Int64)) (v_p1_a : Int32) (v_p1_b : Int32) (x2 : Int32) (o : Int32 × Int64 × Int64 × (Nat → Int32)) (hF : F_X5_spellAhead x2 v_leftM v_leftN v_figures v_powerMs v_powerNs v_p1_a v_p1_b = some o) : Met l yX5_spellAhead wsX5_spellAhead rm_X5_spellAhead (va_Pc [.ref h0, .ref h_p1, .int x2] (PcW dC dI sz (wd_X5_spellAhead h0 h_figures h_powerMs h_powerNs h_restMs h_restNs h_p1 c_figures c_powerMs c_powerNs v_ahead v_behind v_ends v_lead v_round v_leftM v_leftN v_ofA v_ofB v_ofM v_ofN v_figures v_powerMs v_powerNs v_p1_a v_p1_b) [(c_figures, .int), (c_powerMs, .long), (c_powerNs, .long)])) (va_Qv (fun (_ : Unit) => True) (fun _ t => va_P (dC, dI) vwCl (wd_X5_spellAhead h0 h_figures h_powerMs h_powerNs h_restMs h_restNs h_p1 c_figures c_powerMs c_powerNs o.1 v_behind v_ends v_lead v_round o.2.1 o.2.2.1 v_ofA v_ofB v_ofM v_ofN o.2.2.2 v_powerMs v_powerNs v_p1_a v_p1_b) t.heap) (va_A (wd_X5_spellAhead h0 h_figures h_powerMs h_powerNs h_restMs h_restNs h_p1 c_figures c_powerMs c_powerNs v_ahead v_behind v_ends v_lead v_round v_leftM v_leftN v_ofA v_ofB v_ofM v_ofN v_figures v_powerMs v_powerNs v_p1_a v_p1_b) sz)) 0 0 (va_A (wd_X5_spellAhead h0 h_figures h_powerMs h_powerNs h_restMs h_restNs h_p1 c_figures c_powerMs c_powerNs v_ahead v_behind v_ends v_lead v_round v_leftM v_leftN v_ofA v_ofB v_ofM v_ofN v_figures v_powerMs v_powerNs v_p1_a v_p1_b) sz) := by
  refine Met.ofW (cc := cX5_spellAhead) (maxL := 4) (ret := none) (by decide) rfl ?_
  intro p e s m args below meth c s₁ B hml hv
  obtain ⟨rfl, hsz, hP, hK, hD0, hN⟩ := hv
  subst hsz
  have hl := lv_entry ([.ref h0, .ref h_p1, .int x2]) (n := 4) (Nat.le_of_ble_eq_true rfl)
  rw [lg_entry_eq]
  generalize (lg_sl ([.ref h0, .ref h_p1, .int x2]) ++ List.replicate (4 - (lg_sl ([.ref h0, .ref h_p1, .int x2])).length) Slot.unset).toArray = ls at hl ⊢
  exact b_X5_spellAhead h0 h_figures h_powerMs h_powerNs h_restMs h_restNs h_p1 c_figures c_powerMs c_powerNs v_ahead v_behind v_ends v_lead v_round v_leftM v_leftN v_ofA v_ofB v_ofM v_ofN v_figures v_powerMs v_powerNs v_p1_a v_p1_b x2 o.1 o.2.1 o.2.2.1 o.2.2.2 hF ⟨B.exec, B.bytes, hml, findClass_of_methodNamed B.named, atoms_spec (ws := wsX5_spellAhead) B.pre⟩ hN hK hP (fun q h => Or.inr h) (hD0.self (sz := s.heap.size)) va_S.rf (fun H locs ls pc hP hS hd => W.vret B.exec B.bytes B.returns (fun t ht hW => ⟨⟨(), rfl, trivial, by show va_P (dC, dI) vwCl _ t.heap; rw [ht]; exact hP⟩, hS.F ht⟩) hS.2.2 hd B.notSynchronized) hl
theorem inn_X5_isAnythingLeft_X5 : ∀ w ∈ wsX50, w ∈ wsX5_isAnythingLeft := fun _ h => List.mem_cons_of_mem _ (List.mem_append_right _ h)
abbrev wd_X5_isAnythingLeft (h0 h_figures h_powerMs h_powerNs h_restMs h_restNs : Nat) (v_ahead : Int32) (v_behind : Int32) (v_ends : Int32) (v_lead : Int32) (v_round : Int32) (v_leftM : Int64) (v_leftN : Int64) (v_ofA : Int32) (v_ofB : Int32) (v_ofM : Int32) (v_ofN : Int32) : va_W := [(h0, .inr (5, [.ref h_figures, .int v_ahead, .int v_behind, .int v_ends, .int v_lead, .int v_round, .ref h_powerMs, .ref h_powerNs, .ref h_restMs, .ref h_restNs, .long v_leftM, .long v_leftN, .int v_ofA, .int v_ofB, .int v_ofM, .int v_ofN]))]
abbrev rm_X5_isAnythingLeft : Room := { frames := 0, cells := 0, slots := 0, locals := 0 }
def F_X5_isAnythingLeft (v_leftM : Int64) (v_leftN : Int64) : Int32 := (if (lg_cmp v_leftM (0 : Int64)) = 0 then (if (lg_cmp v_leftN (0 : Int64)) = 0 then (0 : Int32) else (1 : Int32)) else (1 : Int32))
theorem B_X5_isAnythingLeft (v_leftM : Int64) (v_leftN : Int64) : narrow .boolean (.int (F_X5_isAnythingLeft v_leftM v_leftN)) = .int (F_X5_isAnythingLeft v_leftM v_leftN) := by
  unfold F_X5_isAnythingLeft
  repeat' split
  all_goals first | rfl | exact B_X7_in _ _ _
set_option maxRecDepth 100000 in
set_option maxHeartbeats 4000000 in
theorem b_X5_isAnythingLeft {p : Program} {l : Launch} {e : Env} {s : State} {m : MethodId} {args : Array Value} {below : List Frame} {meth : Method} {c : Code} {Q : State → Prop} {dC : Nat → ClassId} {dI : Nat → Nat → Nat} {H : Heap} {locs : List Loc} {ls : Array Slot} (h0 h_figures h_powerMs h_powerNs h_restMs h_restNs : Nat) (v_ahead : Int32) (v_behind : Int32) (v_ends : Int32) (v_lead : Int32) (v_round : Int32) (v_leftM : Int64) (v_leftN : Int64) (v_ofA : Int32) (v_ofB : Int32) (v_ofM : Int32) (v_ofN : Int32) (ou0 : Int32) (hF : F_X5_isAnythingLeft v_leftM v_leftN = ou0) (hC : CallFix p m c cX5_isAnythingLeft 1 s args wsX5_isAnythingLeft RX5) (hN : NW s) (hK : va_K (dC, dI) vwCl [] s) (hP : va_P (dC, dI) vwCl (wd_X5_isAnythingLeft h0 h_figures h_powerMs h_powerNs h_restMs h_restNs v_ahead v_behind v_ends v_lead v_round v_leftM v_leftN v_ofA v_ofB v_ofM v_ofN) H) (hE : ∀ (ls : Array Slot) (pc : Nat), narrow .boolean (.int ou0) = .int ou0 → decode cX5_isAnythingLeft pc = .ok (.ireturn, 1) → W p l e rm_X5_isAnythingLeft s m args below meth c H locs 0 0 Q (F0 m pc ls [.int ou0])) (hl : lv_has ls 1 [(0, .ref h0)]) : W p l e rm_X5_isAnythingLeft s m args below meth c H locs 0 0 Q (F0 m 0 ls []) := by
  obtain ⟨hx, hb, hml, hown, hts⟩ := id hC
  unfold F_X5_isAnythingLeft at hF
  refine lv_aload_n hx hb dX5_isAnythingLeft_0 rfl (lv_at hl 0 rfl) ?_
  refine va_get (D := (dC, dI)) (ci := 5) (v := .long v_leftM) (C := RX5) (T := TX5) (N := 16) hx hb hts inn_X5_isAnythingLeft_X5 hown hK hP 0 rfl rfl 10 (by decide) (hts (.fieldLink RX5 45 "RingBases$Writing" "leftM" "J") (List.mem_of_getElem? (i := 1) rfl)) (fun _ h9 => h9) rfl dX5_isAnythingLeft_1 ?_
  refine lv_lconst (v := (0 : Int64)) hx hb dX5_isAnythingLeft_4 (by decide) ?_
  refine W.lcmp hx hb dX5_isAnythingLeft_5 ?_
  refine lv_if_ne (tgt := 18) hx hb dX5_isAnythingLeft_6 (by decide) (fun g_1 => ?_) (fun g_1 => ?_)
  · replace hF := ite_f g_1 hF
    refine lv_iconst (v := (1 : Int32)) hx hb dX5_isAnythingLeft_18 (by decide) ?_
    refine lv_goto (tgt := 23) hx hb dX5_isAnythingLeft_19 (by decide) ?_
    obtain rfl := hF; exact hE _ _ (zk_n (Or.inr rfl)) dX5_isAnythingLeft_23
  · replace hF := ite_t g_1 hF
    refine lv_aload_n hx hb dX5_isAnythingLeft_9 rfl (lv_at hl 0 rfl) ?_
    refine va_get (D := (dC, dI)) (ci := 5) (v := .long v_leftN) (C := RX5) (T := TX5) (N := 16) hx hb hts inn_X5_isAnythingLeft_X5 hown hK hP 0 rfl rfl 11 (by decide) (hts (.fieldLink RX5 49 "RingBases$Writing" "leftN" "J") (List.mem_of_getElem? (i := 2) rfl)) (fun _ h9 => h9) rfl dX5_isAnythingLeft_10 ?_
    refine lv_lconst (v := (0 : Int64)) hx hb dX5_isAnythingLeft_13 (by decide) ?_
    refine W.lcmp hx hb dX5_isAnythingLeft_14 ?_
    refine lv_if_eq (tgt := 22) hx hb dX5_isAnythingLeft_15 (by decide) (fun g_2 => ?_) (fun g_2 => ?_)
    · replace hF := ite_t g_2 hF
      refine lv_iconst (v := (0 : Int32)) hx hb dX5_isAnythingLeft_22 (by decide) ?_
      obtain rfl := hF; exact hE _ _ (zk_n (Or.inl rfl)) dX5_isAnythingLeft_23
    · replace hF := ite_f g_2 hF
      refine lv_iconst (v := (1 : Int32)) hx hb dX5_isAnythingLeft_18 (by decide) ?_
      refine lv_goto (tgt := 23) hx hb dX5_isAnythingLeft_19 (by decide) ?_
      obtain rfl := hF; exact hE _ _ (zk_n (Or.inr rfl)) dX5_isAnythingLeft_23
set_option maxRecDepth 100000 in
set_option maxHeartbeats 4000000 in
theorem c_X5_isAnythingLeft (l : Launch) (dC : Nat → ClassId) (dI : Nat → Nat → Nat) (h0 h_figures h_powerMs h_powerNs h_restMs h_restNs : Nat) (v_ahead : Int32) (v_behind : Int32) (v_ends : Int32) (v_lead : Int32) (v_round : Int32) (v_leftM : Int64) (v_leftN : Int64) (v_ofA : Int32) (v_ofB : Int32) (v_ofM : Int32) (v_ofN : Int32) (o : Int32) (hF : F_X5_isAnythingLeft v_leftM v_leftN = o) : Met l yX5_isAnythingLeft wsX5_isAnythingLeft rm_X5_isAnythingLeft (va_Pc [.ref h0] (PcR dC dI (wd_X5_isAnythingLeft h0 h_figures h_powerMs h_powerNs h_restMs h_restNs v_ahead v_behind v_ends v_lead v_round v_leftM v_leftN v_ofA v_ofB v_ofM v_ofN) [])) (vp_Si (fun r => r = o)) 0 0 (fun _ => False) := by
  refine Met.ofW (cc := cX5_isAnythingLeft) (maxL := 1) (ret := (some .boolean)) (by decide) rfl ?_
  intro p e s m args below meth c s₁ B hml hv
  obtain ⟨rfl, hP, hK, hN⟩ := hv
  have hl := lv_entry ([.ref h0]) (n := 1) (Nat.le_of_ble_eq_true rfl)
  rw [lg_entry_eq]
  generalize (lg_sl ([.ref h0]) ++ List.replicate (1 - (lg_sl ([.ref h0])).length) Slot.unset).toArray = ls at hl ⊢
  exact b_X5_isAnythingLeft h0 h_figures h_powerMs h_powerNs h_restMs h_restNs v_ahead v_behind v_ends v_lead v_round v_leftM v_leftN v_ofA v_ofB v_ofM v_ofN o hF ⟨B.exec, B.bytes, hml, findClass_of_methodNamed B.named, atoms_spec (ws := wsX5_isAnythingLeft) B.pre⟩ hN hK hP (fun ls pc hn hd => W.zret B.exec B.bytes B.returns hn (fun t ht hW => ⟨_, rfl, rfl, ht⟩) (fun q h => by cases h) hd B.notSynchronized) hl
theorem inn_X5_lookForRound_X5 : ∀ w ∈ wsX50, w ∈ wsX5_lookForRound := fun _ h => List.mem_cons_of_mem _ (List.mem_append_right _ h)
abbrev wd_X5_lookForRound (h0 h_figures h_powerMs h_powerNs h_restMs h_restNs : Nat) (c_restMs c_restNs : ClassId) (v_ahead : Int32) (v_behind : Int32) (v_ends : Int32) (v_lead : Int32) (v_round : Int32) (v_leftM : Int64) (v_leftN : Int64) (v_ofA : Int32) (v_ofB : Int32) (v_ofM : Int32) (v_ofN : Int32) (v_restMs : (Nat → Int64)) (v_restNs : (Nat → Int64)) : va_W := [(h0, .inr (5, [.ref h_figures, .int v_ahead, .int v_behind, .int v_ends, .int v_lead, .int v_round, .ref h_powerMs, .ref h_powerNs, .ref h_restMs, .ref h_restNs, .long v_leftM, .long v_leftN, .int v_ofA, .int v_ofB, .int v_ofM, .int v_ofN])), (h_restMs, .inl (c_restMs, 40, .inr (.inl v_restMs))), (h_restNs, .inl (c_restNs, 40, .inr (.inl v_restNs)))]
abbrev rm_X5_lookForRound : Room := { frames := 0, cells := 0, slots := 0, locals := 0 }
def F_X5_lookForRound_44 (x1 : Int32) (x2 : Int32) (v_lead : Int32) (v_round : Int32) : Option (Int32 × Int32) := (some (x2, (x1 - x2)))
def F_X5_lookForRound_11 (x1 : Int32) (v_leftM : Int64) (v_leftN : Int64) (v_restMs : (Nat → Int64)) (v_restNs : (Nat → Int64)) : Nat → Int32 → Int32 → Int32 → Option (Int32 × Int32)
  | 0, _, _, _ => none
  | fu + 1, x2, v_lead, v_round => (if x1 ≤ x2 then (some (v_lead, v_round)) else (ck x2 40 (if (lg_cmp (v_restMs x2.toNatClampNeg) v_leftM) = 0 then (if (lg_cmp (v_restNs x2.toNatClampNeg) v_leftN) = 0 then (F_X5_lookForRound_44  x1 x2 v_lead v_round) else (F_X5_lookForRound_11 x1 v_leftM v_leftN v_restMs v_restNs fu (x2 + (1 : Int32)) v_lead v_round)) else (F_X5_lookForRound_11 x1 v_leftM v_leftN v_restMs v_restNs fu (x2 + (1 : Int32)) v_lead v_round))))
def F_X5_lookForRound (x1 : Int32) (v_lead : Int32) (v_round : Int32) (v_leftM : Int64) (v_leftN : Int64) (v_restMs : (Nat → Int64)) (v_restNs : (Nat → Int64)) : Option (Int32 × Int32) := (if v_round = (-1 : Int32) then (F_X5_lookForRound_11  x1 v_leftM v_leftN v_restMs v_restNs 128 (0 : Int32) v_lead v_round) else (some (v_lead, v_round)))
set_option maxRecDepth 100000 in
set_option maxHeartbeats 4000000 in
theorem b_X5_lookForRound {p : Program} {l : Launch} {e : Env} {s : State} {m : MethodId} {args : Array Value} {below : List Frame} {meth : Method} {c : Code} {Q : State → Prop} {dC : Nat → ClassId} {dI : Nat → Nat → Nat} {H : Heap} {locs : List Loc} {ls : Array Slot} {A : Nat → Prop} (h0 h_figures h_powerMs h_powerNs h_restMs h_restNs : Nat) (c_restMs c_restNs : ClassId) (v_ahead : Int32) (v_behind : Int32) (v_ends : Int32) (v_lead : Int32) (v_round : Int32) (v_leftM : Int64) (v_leftN : Int64) (v_ofA : Int32) (v_ofB : Int32) (v_ofM : Int32) (v_ofN : Int32) (v_restMs : (Nat → Int64)) (v_restNs : (Nat → Int64)) (x1 : Int32) (ou0 : Int32) (ou1 : Int32) (hF : F_X5_lookForRound x1 v_lead v_round v_leftM v_leftN v_restMs v_restNs = some (ou0, ou1)) (hC : CallFix p m c cX5_lookForRound 3 s args wsX5_lookForRound RX5) (hN : NW s) (hK : va_K (dC, dI) vwCl [(c_restMs, .long), (c_restNs, .long)] s) (hP : va_P (dC, dI) vwCl (wd_X5_lookForRound h0 h_figures h_powerMs h_powerNs h_restMs h_restNs c_restMs c_restNs v_ahead v_behind v_ends v_lead v_round v_leftM v_leftN v_ofA v_ofB v_ofM v_ofN v_restMs v_restNs) H) (hA : ∀ q, s.heap.size ≤ q → A q) (hD : va_D A (wd_X5_lookForRound h0 h_figures h_powerMs h_powerNs h_restMs h_restNs c_restMs c_restNs v_ahead v_behind v_ends v_lead v_round v_leftM v_leftN v_ofA v_ofB v_ofM v_ofN v_restMs v_restNs)) (hS : va_S A s.heap H locs) (hE : ∀ (H : Heap) (locs : List Loc) (ls : Array Slot) (pc : Nat), va_P (dC, dI) vwCl (wd_X5_lookForRound h0 h_figures h_powerMs h_powerNs h_restMs h_restNs c_restMs c_restNs v_ahead v_behind v_ends ou0 ou1 v_leftM v_leftN v_ofA v_ofB v_ofM v_ofN v_restMs v_restNs) H → va_S A s.heap H locs → decode cX5_lookForRound pc = .ok (.return_, 1) → W p l e rm_X5_lookForRound s m args below meth c H locs 0 0 Q (F0 m pc ls [])) (hl : lv_has ls 3 [(0, .ref h0), (1, .int x1)]) : W p l e rm_X5_lookForRound s m args below meth c H locs 0 0 Q (F0 m 0 ls []) := by
  obtain ⟨hx, hb, hml, hown, hts⟩ := id hC
  have hD0 := hD
  unfold F_X5_lookForRound at hF
  have k_11 : ∀ (fu_11 : Nat) (x2 : Int32) (v_lead : Int32) (v_round : Int32), F_X5_lookForRound_11  x1 v_leftM v_leftN v_restMs v_restNs fu_11 x2 v_lead v_round = some (ou0, ou1) → ∀ (H : Heap) (locs : List Loc), va_P (dC, dI) vwCl (wd_X5_lookForRound h0 h_figures h_powerMs h_powerNs h_restMs h_restNs c_restMs c_restNs v_ahead v_behind v_ends v_lead v_round v_leftM v_leftN v_ofA v_ofB v_ofM v_ofN v_restMs v_restNs) H → va_S A s.heap H locs → ∀ ls : Array Slot, lv_has ls 3 [(0, .ref h0), (1, .int x1), (2, .int x2)] → W p l e rm_X5_lookForRound s m args below meth c H locs 0 0 Q (F0 m 11 ls []) := by
    intro fu_11
    induction fu_11 with
    | zero => intro x2 v_lead v_round hF; rw [F_X5_lookForRound_11] at hF; cases hF
    | succ fu_11 ih =>
      intro x2 v_lead v_round hF H locs hP hS ls hl
      rw [F_X5_lookForRound_11] at hF
      have ih_11 := ih
      have hD : va_D A (wd_X5_lookForRound h0 h_figures h_powerMs h_powerNs h_restMs h_restNs c_restMs c_restNs v_ahead v_behind v_ends v_lead v_round v_leftM v_leftN v_ofA v_ofB v_ofM v_ofN v_restMs v_restNs) := hD0.re rfl
      have k_44 : ∀ (x2 : Int32) (v_lead : Int32) (v_round : Int32), F_X5_lookForRound_44  x1 x2 v_lead v_round = some (ou0, ou1) → ∀ (H : Heap) (locs : List Loc), va_P (dC, dI) vwCl (wd_X5_lookForRound h0 h_figures h_powerMs h_powerNs h_restMs h_restNs c_restMs c_restNs v_ahead v_behind v_ends v_lead v_round v_leftM v_leftN v_ofA v_ofB v_ofM v_ofN v_restMs v_restNs) H → va_S A s.heap H locs → ∀ ls : Array Slot, lv_has ls 3 [(0, .ref h0), (1, .int x1), (2, .int x2)] → W p l e rm_X5_lookForRound s m args below meth c H locs 0 0 Q (F0 m 44 ls []) := by
        intro x2 v_lead v_round hF H locs hP hS ls hl
        rw [F_X5_lookForRound_44] at hF
        have hD : va_D A (wd_X5_lookForRound h0 h_figures h_powerMs h_powerNs h_restMs h_restNs c_restMs c_restNs v_ahead v_behind v_ends v_lead v_round v_leftM v_leftN v_ofA v_ofB v_ofM v_ofN v_restMs v_restNs) := hD0.re rfl
        refine lv_aload_n hx hb dX5_lookForRound_44 rfl (lv_at hl 0 rfl) ?_
        refine lv_iload_n hx hb dX5_lookForRound_45 rfl (lv_at hl 2 rfl) ?_
        refine va_put (D := (dC, dI)) (ty := .int) (ci := 5) (v := .int x2) (C := RX5) (T := TX5) (N := 16) hx hb hts inn_X5_lookForRound_X5 tyX5 tyX5_ok nmX5 hown hK hP hD hS 0 rfl rfl 4 (by decide) (hts (.fieldLink RX5 26 "RingBases$Writing" "lead" "I") (List.mem_of_getElem? (i := 6) rfl)) (fun _ h9 => h9) rfl (by decide +kernel) rfl rfl (Nat.le_of_ble_eq_true rfl) dX5_lookForRound_46 (fun H locs hP hD hS => ?_)
        have hP : va_P (dC, dI) vwCl (wd_X5_lookForRound h0 h_figures h_powerMs h_powerNs h_restMs h_restNs c_restMs c_restNs v_ahead v_behind v_ends x2 v_round v_leftM v_leftN v_ofA v_ofB v_ofM v_ofN v_restMs v_restNs) H := hP
        have hD : va_D A (wd_X5_lookForRound h0 h_figures h_powerMs h_powerNs h_restMs h_restNs c_restMs c_restNs v_ahead v_behind v_ends x2 v_round v_leftM v_leftN v_ofA v_ofB v_ofM v_ofN v_restMs v_restNs) := hD
        refine lv_aload_n hx hb dX5_lookForRound_49 rfl (lv_at hl 0 rfl) ?_
        refine lv_iload_n hx hb dX5_lookForRound_50 rfl (lv_at hl 1 rfl) ?_
        refine lv_iload_n hx hb dX5_lookForRound_51 rfl (lv_at hl 2 rfl) ?_
        refine lv_isub hx hb dX5_lookForRound_52 ?_
        refine va_put (D := (dC, dI)) (ty := .int) (ci := 5) (v := .int (x1 - x2)) (C := RX5) (T := TX5) (N := 16) hx hb hts inn_X5_lookForRound_X5 tyX5 tyX5_ok nmX5 hown hK hP hD hS 0 rfl rfl 5 (by decide) (hts (.fieldLink RX5 29 "RingBases$Writing" "round" "I") (List.mem_of_getElem? (i := 1) rfl)) (fun _ h9 => h9) rfl (by decide +kernel) rfl rfl (Nat.le_of_ble_eq_true rfl) dX5_lookForRound_53 (fun H locs hP hD hS => ?_)
        have hP : va_P (dC, dI) vwCl (wd_X5_lookForRound h0 h_figures h_powerMs h_powerNs h_restMs h_restNs c_restMs c_restNs v_ahead v_behind v_ends x2 (x1 - x2) v_leftM v_leftN v_ofA v_ofB v_ofM v_ofN v_restMs v_restNs) H := hP
        have hD : va_D A (wd_X5_lookForRound h0 h_figures h_powerMs h_powerNs h_restMs h_restNs c_restMs c_restNs v_ahead v_behind v_ends x2 (x1 - x2) v_leftM v_leftN v_ofA v_ofB v_ofM v_ofN v_restMs v_restNs) := hD
        obtain ⟨rfl, rfl⟩ := oks2 hF; exact hE _ _ _ _ hP hS dX5_lookForRound_56
      refine lv_iload_n hx hb dX5_lookForRound_11 rfl (lv_at hl 2 rfl) ?_
      refine lv_iload_n hx hb dX5_lookForRound_12 rfl (lv_at hl 1 rfl) ?_
      refine lv_icmp_ge (tgt := 63) hx hb dX5_lookForRound_13 (by decide) (fun g_1 => ?_) (fun g_1 => ?_)
      · replace hF := ite_t g_1 hF
        obtain ⟨rfl, rfl⟩ := oks2 hF; exact hE _ _ _ _ hP hS dX5_lookForRound_63
      · replace hF := ite_f g_1 hF
        refine lv_aload_n hx hb dX5_lookForRound_16 rfl (lv_at hl 0 rfl) ?_
        refine va_get (D := (dC, dI)) (ci := 5) (v := .ref h_restMs) (C := RX5) (T := TX5) (N := 16) hx hb hts inn_X5_lookForRound_X5 hown hK hP 0 rfl rfl 8 (by decide) (hts (.fieldLink RX5 39 "RingBases$Writing" "restMs" "[J") (List.mem_of_getElem? (i := 2) rfl)) (fun _ h9 => h9) rfl dX5_lookForRound_17 ?_
        refine lv_iload_n hx hb dX5_lookForRound_20 rfl (lv_at hl 2 rfl) ?_
        obtain ⟨i_2, hF⟩ := ck_s hF
        refine va_lald hx hb hK hP 1 0 rfl rfl i_2 dX5_lookForRound_21 ?_
        refine lv_aload_n hx hb dX5_lookForRound_22 rfl (lv_at hl 0 rfl) ?_
        refine va_get (D := (dC, dI)) (ci := 5) (v := .long v_leftM) (C := RX5) (T := TX5) (N := 16) hx hb hts inn_X5_lookForRound_X5 hown hK hP 0 rfl rfl 10 (by decide) (hts (.fieldLink RX5 45 "RingBases$Writing" "leftM" "J") (List.mem_of_getElem? (i := 3) rfl)) (fun _ h9 => h9) rfl dX5_lookForRound_23 ?_
        refine W.lcmp hx hb dX5_lookForRound_26 ?_
        refine lv_if_ne (tgt := 57) hx hb dX5_lookForRound_27 (by decide) (fun g_3 => ?_) (fun g_3 => ?_)
        · replace hF := ite_f g_3 hF
          refine lv_iinc (v := (x2 + (1 : Int32))) (lv' := [(2, .int (x2 + (1 : Int32))), (0, .ref h0), (1, .int x1)]) hx hb dX5_lookForRound_57 hl (k := 2) rfl rfl (by decide) rfl (fun ls hl => ?_)
          refine lv_goto (tgt := 11) hx hb dX5_lookForRound_60 (by decide) ?_
          exact ih (x2 + (1 : Int32)) v_lead v_round hF H locs hP hS ls (lv_sub hl [1, 2, 0] rfl)
        · replace hF := ite_t g_3 hF
          refine lv_aload_n hx hb dX5_lookForRound_30 rfl (lv_at hl 0 rfl) ?_
          refine va_get (D := (dC, dI)) (ci := 5) (v := .ref h_restNs) (C := RX5) (T := TX5) (N := 16) hx hb hts inn_X5_lookForRound_X5 hown hK hP 0 rfl rfl 9 (by decide) (hts (.fieldLink RX5 42 "RingBases$Writing" "restNs" "[J") (List.mem_of_getElem? (i := 4) rfl)) (fun _ h9 => h9) rfl dX5_lookForRound_31 ?_
          refine lv_iload_n hx hb dX5_lookForRound_34 rfl (lv_at hl 2 rfl) ?_
          refine va_lald hx hb hK hP 2 1 rfl rfl i_2 dX5_lookForRound_35 ?_
          refine lv_aload_n hx hb dX5_lookForRound_36 rfl (lv_at hl 0 rfl) ?_
          refine va_get (D := (dC, dI)) (ci := 5) (v := .long v_leftN) (C := RX5) (T := TX5) (N := 16) hx hb hts inn_X5_lookForRound_X5 hown hK hP 0 rfl rfl 11 (by decide) (hts (.fieldLink RX5 49 "RingBases$Writing" "leftN" "J") (List.mem_of_getElem? (i := 5) rfl)) (fun _ h9 => h9) rfl dX5_lookForRound_37 ?_
          refine W.lcmp hx hb dX5_lookForRound_40 ?_
          refine lv_if_ne (tgt := 57) hx hb dX5_lookForRound_41 (by decide) (fun g_4 => ?_) (fun g_4 => ?_)
          · replace hF := ite_f g_4 hF
            refine lv_iinc (v := (x2 + (1 : Int32))) (lv' := [(2, .int (x2 + (1 : Int32))), (0, .ref h0), (1, .int x1)]) hx hb dX5_lookForRound_57 hl (k := 2) rfl rfl (by decide) rfl (fun ls hl => ?_)
            refine lv_goto (tgt := 11) hx hb dX5_lookForRound_60 (by decide) ?_
            exact ih (x2 + (1 : Int32)) v_lead v_round hF H locs hP hS ls (lv_sub hl [1, 2, 0] rfl)
          · replace hF := ite_t g_4 hF
            exact k_44 x2 v_lead v_round hF H locs hP hS ls (lv_sub hl [0, 1, 2] rfl)
  refine lv_aload_n hx hb dX5_lookForRound_0 rfl (lv_at hl 0 rfl) ?_
  refine va_get (D := (dC, dI)) (ci := 5) (v := .int v_round) (C := RX5) (T := TX5) (N := 16) hx hb hts inn_X5_lookForRound_X5 hown hK hP 0 rfl rfl 5 (by decide) (hts (.fieldLink RX5 29 "RingBases$Writing" "round" "I") (List.mem_of_getElem? (i := 1) rfl)) (fun _ h9 => h9) rfl dX5_lookForRound_1 ?_
  refine lv_iconst (v := (-1 : Int32)) hx hb dX5_lookForRound_4 (by decide) ?_
  refine lv_icmp_eq (tgt := 9) hx hb dX5_lookForRound_5 (by decide) (fun g_5 => ?_) (fun g_5 => ?_)
  · replace hF := ite_t g_5 hF
    refine lv_iconst (v := (0 : Int32)) hx hb dX5_lookForRound_9 (by decide) ?_
    refine lv_istore_n (lv' := [(2, .int (0 : Int32)), (0, .ref h0), (1, .int x1)]) hx hb dX5_lookForRound_10 rfl hl (by decide) rfl (fun ls hl => ?_)
    exact k_11 _ (0 : Int32) v_lead v_round hF H locs hP hS ls (lv_sub hl [1, 2, 0] rfl)
  · replace hF := ite_f g_5 hF
    obtain ⟨rfl, rfl⟩ := oks2 hF; exact hE _ _ _ _ hP hS dX5_lookForRound_8
set_option maxRecDepth 100000 in
set_option maxHeartbeats 4000000 in
theorem c_X5_lookForRound (l : Launch) (dC : Nat → ClassId) (dI : Nat → Nat → Nat) (sz : Nat) (h0 h_figures h_powerMs h_powerNs h_restMs h_restNs : Nat) (c_restMs c_restNs : ClassId) (v_ahead : Int32) (v_behind : Int32) (v_ends : Int32) (v_lead : Int32) (v_round : Int32) (v_leftM : Int64) (v_leftN : Int64) (v_ofA : Int32) (v_ofB : Int32) (v_ofM : Int32) (v_ofN : Int32) (v_restMs : (Nat → Int64)) (v_restNs : (Nat → Int64)) (x1 : Int32) (o : Int32 × Int32) (hF : F_X5_lookForRound x1 v_lead v_round v_leftM v_leftN v_restMs v_restNs = some o) : Met l yX5_lookForRound wsX5_lookForRound rm_X5_lookForRound (va_Pc [.ref h0, .int x1] (PcW dC dI sz (wd_X5_lookForRound h0 h_figures h_powerMs h_powerNs h_restMs h_restNs c_restMs c_restNs v_ahead v_behind v_ends v_lead v_round v_leftM v_leftN v_ofA v_ofB v_ofM v_ofN v_restMs v_restNs) [(c_restMs, .long), (c_restNs, .long)])) (va_Qv (fun (_ : Unit) => True) (fun _ t => va_P (dC, dI) vwCl (wd_X5_lookForRound h0 h_figures h_powerMs h_powerNs h_restMs h_restNs c_restMs c_restNs v_ahead v_behind v_ends o.1 o.2 v_leftM v_leftN v_ofA v_ofB v_ofM v_ofN v_restMs v_restNs) t.heap) (va_A (wd_X5_lookForRound h0 h_figures h_powerMs h_powerNs h_restMs h_restNs c_restMs c_restNs v_ahead v_behind v_ends v_lead v_round v_leftM v_leftN v_ofA v_ofB v_ofM v_ofN v_restMs v_restNs) sz)) 0 0 (va_A (wd_X5_lookForRound h0 h_figures h_powerMs h_powerNs h_restMs h_restNs c_restMs c_restNs v_ahead v_behind v_ends v_lead v_round v_leftM v_leftN v_ofA v_ofB v_ofM v_ofN v_restMs v_restNs) sz) := by
  refine Met.ofW (cc := cX5_lookForRound) (maxL := 3) (ret := none) (by decide) rfl ?_
  intro p e s m args below meth c s₁ B hml hv
  obtain ⟨rfl, hsz, hP, hK, hD0, hN⟩ := hv
  subst hsz
  have hl := lv_entry ([.ref h0, .int x1]) (n := 3) (Nat.le_of_ble_eq_true rfl)
  rw [lg_entry_eq]
  generalize (lg_sl ([.ref h0, .int x1]) ++ List.replicate (3 - (lg_sl ([.ref h0, .int x1])).length) Slot.unset).toArray = ls at hl ⊢
  exact b_X5_lookForRound h0 h_figures h_powerMs h_powerNs h_restMs h_restNs c_restMs c_restNs v_ahead v_behind v_ends v_lead v_round v_leftM v_leftN v_ofA v_ofB v_ofM v_ofN v_restMs v_restNs x1 o.1 o.2 hF ⟨B.exec, B.bytes, hml, findClass_of_methodNamed B.named, atoms_spec (ws := wsX5_lookForRound) B.pre⟩ hN hK hP (fun q h => Or.inr h) (hD0.self (sz := s.heap.size)) va_S.rf (fun H locs ls pc hP hS hd => W.vret B.exec B.bytes B.returns (fun t ht hW => ⟨⟨(), rfl, trivial, by show va_P (dC, dI) vwCl _ t.heap; rw [ht]; exact hP⟩, hS.F ht⟩) hS.2.2 hd B.notSynchronized) hl
theorem inn_X5_spellBehind_X5 : ∀ w ∈ wsX50, w ∈ wsX5_spellBehind := fun _ h => List.mem_cons_of_mem _ (List.mem_append_left _ (List.mem_append_right _ h))
abbrev wd_X5_spellBehind (h0 h_figures h_powerMs h_powerNs h_restMs h_restNs h_p1 : Nat) (c_figures c_restMs c_restNs : ClassId) (v_ahead : Int32) (v_behind : Int32) (v_ends : Int32) (v_lead : Int32) (v_round : Int32) (v_leftM : Int64) (v_leftN : Int64) (v_ofA : Int32) (v_ofB : Int32) (v_ofM : Int32) (v_ofN : Int32) (v_figures : (Nat → Int32)) (v_restMs : (Nat → Int64)) (v_restNs : (Nat → Int64)) (v_p1_a : Int32) (v_p1_b : Int32) : va_W := [(h0, .inr (5, [.ref h_figures, .int v_ahead, .int v_behind, .int v_ends, .int v_lead, .int v_round, .ref h_powerMs, .ref h_powerNs, .ref h_restMs, .ref h_restNs, .long v_leftM, .long v_leftN, .int v_ofA, .int v_ofB, .int v_ofM, .int v_ofN])), (h_figures, .inl (c_figures, 101, .inl v_figures)), (h_restMs, .inl (c_restMs, 40, .inr (.inl v_restMs))), (h_restNs, .inl (c_restNs, 40, .inr (.inl v_restNs))), (h_p1, .inr (0, [.int v_p1_a, .int v_p1_b]))]
abbrev rm_X5_spellBehind : Room := { frames := 3, cells := 0, slots := 0, locals := 77 }
def F_X5_spellBehind_120 (v_behind : Int32) (v_ends : Int32) (v_lead : Int32) (v_round : Int32) (v_leftM : Int64) (v_leftN : Int64) (v_figures : (Nat → Int32)) (v_restMs : (Nat → Int64)) (v_restNs : (Nat → Int64)) : Option (Int32 × Int32 × Int32 × Int32 × Int64 × Int64 × (Nat → Int32) × (Nat → Int64) × (Nat → Int64)) := (if (F_X5_isAnythingLeft v_leftM v_leftN) = 0 then (if (1 : Int32) = 0 then ((F_X5_lookForRound (40 : Int32) v_lead v_round v_leftM v_leftN v_restMs v_restNs).bind fun o_5 => (some (v_behind, (1 : Int32), o_5.1, o_5.2, v_leftM, v_leftN, v_figures, v_restMs, v_restNs))) else (some (v_behind, (1 : Int32), v_lead, v_round, v_leftM, v_leftN, v_figures, v_restMs, v_restNs))) else (if (0 : Int32) = 0 then ((F_X5_lookForRound (40 : Int32) v_lead v_round v_leftM v_leftN v_restMs v_restNs).bind fun o_3 => (some (v_behind, (0 : Int32), o_3.1, o_3.2, v_leftM, v_leftN, v_figures, v_restMs, v_restNs))) else (some (v_behind, (0 : Int32), v_lead, v_round, v_leftM, v_leftN, v_figures, v_restMs, v_restNs))))
def F_X5_spellBehind_17 (v_ahead : Int32) (v_p1_a : Int32) (v_p1_b : Int32) : Nat → Int32 → Int32 → Int32 → Int32 → Int32 → Int64 → Int64 → (Nat → Int32) → (Nat → Int64) → (Nat → Int64) → Option (Int32 × Int32 × Int32 × Int32 × Int64 × Int64 × (Nat → Int32) × (Nat → Int64) × (Nat → Int64))
  | 0, _, _, _, _, _, _, _, _, _, _ => none
  | fu + 1, x2, v_behind, v_ends, v_lead, v_round, v_leftM, v_leftN, v_figures, v_restMs, v_restNs => (if (40 : Int32) ≤ x2 then (F_X5_spellBehind_120   v_behind v_ends v_lead v_round v_leftM v_leftN v_figures v_restMs v_restNs) else (if (F_X5_isAnythingLeft v_leftM v_leftN) = 0 then (F_X5_spellBehind_120   v_behind v_ends v_lead v_round v_leftM v_leftN v_figures v_restMs v_restNs) else ((F_X5_lookForRound x2 v_lead v_round v_leftM v_leftN v_restMs v_restNs).bind fun o_8 => (ck x2 40 ((F_X5_takeOut (1 : Int64) (0 : Int64) (F_X0_raisedM ((vp_updL v_restNs x2.toNatClampNeg v_leftN) x2.toNatClampNeg) v_p1_b) (F_X0_raisedN ((vp_updL v_restMs x2.toNatClampNeg v_leftM) x2.toNatClampNeg) ((vp_updL v_restNs x2.toNatClampNeg v_leftN) x2.toNatClampNeg) v_p1_a) v_p1_a v_p1_b).bind fun o_10 => (ck (v_ahead + x2) 101 (F_X5_spellBehind_17 v_ahead v_p1_a v_p1_b fu (x2 + (1 : Int32)) (x2 + (1 : Int32)) v_ends o_8.1 o_8.2 o_10.2.1 o_10.2.2 (upd v_figures (v_ahead + x2).toNatClampNeg o_10.1) (vp_updL v_restMs x2.toNatClampNeg v_leftM) (vp_updL v_restNs x2.toNatClampNeg v_leftN))))))))
def F_X5_spellBehind (v_ahead : Int32) (v_ends : Int32) (v_leftM : Int64) (v_leftN : Int64) (v_figures : (Nat → Int32)) (v_restMs : (Nat → Int64)) (v_restNs : (Nat → Int64)) (v_p1_a : Int32) (v_p1_b : Int32) : Option (Int32 × Int32 × Int32 × Int32 × Int64 × Int64 × (Nat → Int32) × (Nat → Int64) × (Nat → Int64)) := (F_X5_spellBehind_17  v_ahead v_p1_a v_p1_b 128 (0 : Int32) (0 : Int32) v_ends (-1 : Int32) (-1 : Int32) v_leftM v_leftN v_figures v_restMs v_restNs)
set_option maxRecDepth 100000 in
set_option maxHeartbeats 4000000 in
theorem b_X5_spellBehind {p : Program} {l : Launch} {e : Env} {s : State} {m : MethodId} {args : Array Value} {below : List Frame} {meth : Method} {c : Code} {Q : State → Prop} {dC : Nat → ClassId} {dI : Nat → Nat → Nat} {H : Heap} {locs : List Loc} {ls : Array Slot} {A : Nat → Prop} (h0 h_figures h_powerMs h_powerNs h_restMs h_restNs h_p1 : Nat) (c_figures c_restMs c_restNs : ClassId) (v_ahead : Int32) (v_behind : Int32) (v_ends : Int32) (v_lead : Int32) (v_round : Int32) (v_leftM : Int64) (v_leftN : Int64) (v_ofA : Int32) (v_ofB : Int32) (v_ofM : Int32) (v_ofN : Int32) (v_figures : (Nat → Int32)) (v_restMs : (Nat → Int64)) (v_restNs : (Nat → Int64)) (v_p1_a : Int32) (v_p1_b : Int32) (ou0 : Int32) (ou1 : Int32) (ou2 : Int32) (ou3 : Int32) (ou4 : Int64) (ou5 : Int64) (ou6 : (Nat → Int32)) (ou7 : (Nat → Int64)) (ou8 : (Nat → Int64)) (hF : F_X5_spellBehind v_ahead v_ends v_leftM v_leftN v_figures v_restMs v_restNs v_p1_a v_p1_b = some (ou0, ou1, ou2, ou3, ou4, ou5, ou6, ou7, ou8)) (hC : CallFix p m c cX5_spellBehind 3 s args wsX5_spellBehind RX5) (hN : NW s) (hK : va_K (dC, dI) vwCl [(c_figures, .int), (c_restMs, .long), (c_restNs, .long)] s) (hP : va_P (dC, dI) vwCl (wd_X5_spellBehind h0 h_figures h_powerMs h_powerNs h_restMs h_restNs h_p1 c_figures c_restMs c_restNs v_ahead v_behind v_ends v_lead v_round v_leftM v_leftN v_ofA v_ofB v_ofM v_ofN v_figures v_restMs v_restNs v_p1_a v_p1_b) H) (hA : ∀ q, s.heap.size ≤ q → A q) (hD : va_D A (wd_X5_spellBehind h0 h_figures h_powerMs h_powerNs h_restMs h_restNs h_p1 c_figures c_restMs c_restNs v_ahead v_behind v_ends v_lead v_round v_leftM v_leftN v_ofA v_ofB v_ofM v_ofN v_figures v_restMs v_restNs v_p1_a v_p1_b)) (hS : va_S A s.heap H locs) (hE : ∀ (H : Heap) (locs : List Loc) (ls : Array Slot) (pc : Nat), va_P (dC, dI) vwCl (wd_X5_spellBehind h0 h_figures h_powerMs h_powerNs h_restMs h_restNs h_p1 c_figures c_restMs c_restNs v_ahead ou0 ou1 ou2 ou3 ou4 ou5 v_ofA v_ofB v_ofM v_ofN ou6 ou7 ou8 v_p1_a v_p1_b) H → va_S A s.heap H locs → decode cX5_spellBehind pc = .ok (.return_, 1) → W p l e rm_X5_spellBehind s m args below meth c H locs 0 0 Q (F0 m pc ls [])) (hl : lv_has ls 3 [(0, .ref h0), (1, .ref h_p1)]) : W p l e rm_X5_spellBehind s m args below meth c H locs 0 0 Q (F0 m 0 ls []) := by
  obtain ⟨hx, hb, hml, hown, hts⟩ := id hC
  have hD0 := hD
  unfold F_X5_spellBehind at hF
  have k_17 : ∀ (fu_17 : Nat) (x2 : Int32) (v_behind : Int32) (v_ends : Int32) (v_lead : Int32) (v_round : Int32) (v_leftM : Int64) (v_leftN : Int64) (v_figures : (Nat → Int32)) (v_restMs : (Nat → Int64)) (v_restNs : (Nat → Int64)), F_X5_spellBehind_17  v_ahead v_p1_a v_p1_b fu_17 x2 v_behind v_ends v_lead v_round v_leftM v_leftN v_figures v_restMs v_restNs = some (ou0, ou1, ou2, ou3, ou4, ou5, ou6, ou7, ou8) → ∀ (H : Heap) (locs : List Loc), va_P (dC, dI) vwCl (wd_X5_spellBehind h0 h_figures h_powerMs h_powerNs h_restMs h_restNs h_p1 c_figures c_restMs c_restNs v_ahead v_behind v_ends v_lead v_round v_leftM v_leftN v_ofA v_ofB v_ofM v_ofN v_figures v_restMs v_restNs v_p1_a v_p1_b) H → va_S A s.heap H locs → ∀ ls : Array Slot, lv_has ls 3 [(0, .ref h0), (1, .ref h_p1), (2, .int x2)] → W p l e rm_X5_spellBehind s m args below meth c H locs 0 0 Q (F0 m 17 ls []) := by
    intro fu_17
    induction fu_17 with
    | zero => intro x2 v_behind v_ends v_lead v_round v_leftM v_leftN v_figures v_restMs v_restNs hF; rw [F_X5_spellBehind_17] at hF; cases hF
    | succ fu_17 ih =>
      intro x2 v_behind v_ends v_lead v_round v_leftM v_leftN v_figures v_restMs v_restNs hF H locs hP hS ls hl
      rw [F_X5_spellBehind_17] at hF
      have ih_17 := ih
      have hD : va_D A (wd_X5_spellBehind h0 h_figures h_powerMs h_powerNs h_restMs h_restNs h_p1 c_figures c_restMs c_restNs v_ahead v_behind v_ends v_lead v_round v_leftM v_leftN v_ofA v_ofB v_ofM v_ofN v_figures v_restMs v_restNs v_p1_a v_p1_b) := hD0.re rfl
      have k_120 : ∀ (v_behind : Int32) (v_ends : Int32) (v_lead : Int32) (v_round : Int32) (v_leftM : Int64) (v_leftN : Int64) (v_figures : (Nat → Int32)) (v_restMs : (Nat → Int64)) (v_restNs : (Nat → Int64)), F_X5_spellBehind_120   v_behind v_ends v_lead v_round v_leftM v_leftN v_figures v_restMs v_restNs = some (ou0, ou1, ou2, ou3, ou4, ou5, ou6, ou7, ou8) → ∀ (H : Heap) (locs : List Loc), va_P (dC, dI) vwCl (wd_X5_spellBehind h0 h_figures h_powerMs h_powerNs h_restMs h_restNs h_p1 c_figures c_restMs c_restNs v_ahead v_behind v_ends v_lead v_round v_leftM v_leftN v_ofA v_ofB v_ofM v_ofN v_figures v_restMs v_restNs v_p1_a v_p1_b) H → va_S A s.heap H locs → ∀ ls : Array Slot, lv_has ls 3 [(0, .ref h0)] → W p l e rm_X5_spellBehind s m args below meth c H locs 0 0 Q (F0 m 120 ls []) := by
        intro v_behind v_ends v_lead v_round v_leftM v_leftN v_figures v_restMs v_restNs hF H locs hP hS ls hl
        rw [F_X5_spellBehind_120] at hF
        have hD : va_D A (wd_X5_spellBehind h0 h_figures h_powerMs h_powerNs h_restMs h_restNs h_p1 c_figures c_restMs c_restNs v_ahead v_behind v_ends v_lead v_round v_leftM v_leftN v_ofA v_ofB v_ofM v_ofN v_figures v_restMs v_restNs v_p1_a v_p1_b) := hD0.re rfl
        refine lv_aload_n hx hb dX5_spellBehind_120 rfl (lv_at hl 0 rfl) ?_
        refine lv_aload_n hx hb dX5_spellBehind_121 rfl (lv_at hl 0 rfl) ?_
        refine rdVi (As := []) (rest := [.ref h0]) (b := h0) hC (c_X5_isAnythingLeft l dC dI h0 h_figures h_powerMs h_powerNs h_restMs h_restNs v_ahead v_behind v_ends v_lead v_round v_leftM v_leftN v_ofA v_ofB v_ofM v_ofN  (F_X5_isAnythingLeft v_leftM v_leftN) rfl) (cwV 0 hts gX5_spellBehind_X5_isAnythingLeft rfl rfl rfl (by decide +kernel) ⟨Nat.le_of_ble_eq_true rfl, Nat.le_of_ble_eq_true rfl⟩) hN (hK.sub (tys' := []) [] rfl) (hP.sub (ws' := (wd_X5_isAnythingLeft h0 h_figures h_powerMs h_powerNs h_restMs h_restNs v_ahead v_behind v_ends v_lead v_round v_leftM v_leftN v_ofA v_ofB v_ofM v_ofN)) [0] rfl) 0 5 rfl rfl rfl rfl hl.1 (Nat.le_of_ble_eq_true rfl) dX5_spellBehind_122 ⟨Nat.zero_le _, Nat.zero_le _⟩ ?_
        refine lv_if_ne (tgt := 132) hx hb dX5_spellBehind_125 (by decide) (fun g_1 => ?_) (fun g_1 => ?_)
        · replace hF := ite_f g_1 hF
          refine lv_iconst (v := (0 : Int32)) hx hb dX5_spellBehind_132 (by decide) ?_
          refine va_put (D := (dC, dI)) (ty := .boolean) (ci := 5) (v := .int (0 : Int32)) (C := RX5) (T := TX5) (N := 16) hx hb hts inn_X5_spellBehind_X5 tyX5 tyX5_ok nmX5 hown hK hP hD hS 0 rfl rfl 3 (by decide) (hts (.fieldLink RX5 22 "RingBases$Writing" "ends" "Z") (List.mem_of_getElem? (i := 10) rfl)) (fun _ h9 => h9) rfl (by decide +kernel) rfl rfl (Nat.le_of_ble_eq_true rfl) dX5_spellBehind_133 (fun H locs hP hD hS => ?_)
          have hP : va_P (dC, dI) vwCl (wd_X5_spellBehind h0 h_figures h_powerMs h_powerNs h_restMs h_restNs h_p1 c_figures c_restMs c_restNs v_ahead v_behind (0 : Int32) v_lead v_round v_leftM v_leftN v_ofA v_ofB v_ofM v_ofN v_figures v_restMs v_restNs v_p1_a v_p1_b) H := hP
          have hD : va_D A (wd_X5_spellBehind h0 h_figures h_powerMs h_powerNs h_restMs h_restNs h_p1 c_figures c_restMs c_restNs v_ahead v_behind (0 : Int32) v_lead v_round v_leftM v_leftN v_ofA v_ofB v_ofM v_ofN v_figures v_restMs v_restNs v_p1_a v_p1_b) := hD
          refine lv_aload_n hx hb dX5_spellBehind_136 rfl (lv_at hl 0 rfl) ?_
          refine va_get (D := (dC, dI)) (ci := 5) (v := .int (0 : Int32)) (C := RX5) (T := TX5) (N := 16) hx hb hts inn_X5_spellBehind_X5 hown hK hP 0 rfl rfl 3 (by decide) (hts (.fieldLink RX5 22 "RingBases$Writing" "ends" "Z") (List.mem_of_getElem? (i := 10) rfl)) (fun _ h9 => h9) rfl dX5_spellBehind_137 ?_
          refine lv_if_ne (tgt := 149) hx hb dX5_spellBehind_140 (by decide) (fun g_2 => ?_) (fun g_2 => ?_)
          · replace hF := ite_f g_2 hF
            obtain ⟨rfl, rfl, rfl, rfl, rfl, rfl, rfl, rfl, rfl⟩ := oks9 hF; exact hE _ _ _ _ hP hS dX5_spellBehind_149
          · replace hF := ite_t g_2 hF
            refine lv_aload_n hx hb dX5_spellBehind_143 rfl (lv_at hl 0 rfl) ?_
            refine lv_bipush (v := (40 : Int32)) hx hb dX5_spellBehind_144 (by decide) ?_
            obtain ⟨o_3, hc_o_3, hF⟩ := bd_s hF
            refine wrVv (wc' := (wd_X5_lookForRound h0 h_figures h_powerMs h_powerNs h_restMs h_restNs c_restMs c_restNs v_ahead v_behind (0 : Int32) o_3.1 o_3.2 v_leftM v_leftN v_ofA v_ofB v_ofM v_ofN v_restMs v_restNs)) (As := [.int (40 : Int32)]) (rest := []) (b := h0) hC (c_X5_lookForRound l dC dI H.size h0 h_figures h_powerMs h_powerNs h_restMs h_restNs c_restMs c_restNs v_ahead v_behind (0 : Int32) v_lead v_round v_leftM v_leftN v_ofA v_ofB v_ofM v_ofN v_restMs v_restNs (40 : Int32) o_3 hc_o_3) (cwV 1 hts gX5_spellBehind_X5_lookForRound rfl rfl rfl (by decide +kernel) ⟨Nat.le_of_ble_eq_true rfl, Nat.le_of_ble_eq_true rfl⟩) hN (hK.sub (tys' := [(c_restMs, .long), (c_restNs, .long)]) [1, 2] rfl) hP hD hS hA [0, 2, 3] rfl rfl rfl rfl 0 5 rfl rfl rfl rfl hl.1 (Nat.le_of_ble_eq_true rfl) dX5_spellBehind_146 ⟨Nat.zero_le _, Nat.zero_le _⟩ (fun H locs hP hS => ?_)
            have hP : va_P (dC, dI) vwCl (wd_X5_spellBehind h0 h_figures h_powerMs h_powerNs h_restMs h_restNs h_p1 c_figures c_restMs c_restNs v_ahead v_behind (0 : Int32) o_3.1 o_3.2 v_leftM v_leftN v_ofA v_ofB v_ofM v_ofN v_figures v_restMs v_restNs v_p1_a v_p1_b) H := hP
            have hD : va_D A (wd_X5_spellBehind h0 h_figures h_powerMs h_powerNs h_restMs h_restNs h_p1 c_figures c_restMs c_restNs v_ahead v_behind (0 : Int32) o_3.1 o_3.2 v_leftM v_leftN v_ofA v_ofB v_ofM v_ofN v_figures v_restMs v_restNs v_p1_a v_p1_b) := va_D.re hD rfl
            obtain ⟨rfl, rfl, rfl, rfl, rfl, rfl, rfl, rfl, rfl⟩ := oks9 hF; exact hE _ _ _ _ hP hS dX5_spellBehind_149
        · replace hF := ite_t g_1 hF
          refine lv_iconst (v := (1 : Int32)) hx hb dX5_spellBehind_128 (by decide) ?_
          refine lv_goto (tgt := 133) hx hb dX5_spellBehind_129 (by decide) ?_
          refine va_put (D := (dC, dI)) (ty := .boolean) (ci := 5) (v := .int (1 : Int32)) (C := RX5) (T := TX5) (N := 16) hx hb hts inn_X5_spellBehind_X5 tyX5 tyX5_ok nmX5 hown hK hP hD hS 0 rfl rfl 3 (by decide) (hts (.fieldLink RX5 22 "RingBases$Writing" "ends" "Z") (List.mem_of_getElem? (i := 10) rfl)) (fun _ h9 => h9) rfl (by decide +kernel) rfl rfl (Nat.le_of_ble_eq_true rfl) dX5_spellBehind_133 (fun H locs hP hD hS => ?_)
          have hP : va_P (dC, dI) vwCl (wd_X5_spellBehind h0 h_figures h_powerMs h_powerNs h_restMs h_restNs h_p1 c_figures c_restMs c_restNs v_ahead v_behind (1 : Int32) v_lead v_round v_leftM v_leftN v_ofA v_ofB v_ofM v_ofN v_figures v_restMs v_restNs v_p1_a v_p1_b) H := hP
          have hD : va_D A (wd_X5_spellBehind h0 h_figures h_powerMs h_powerNs h_restMs h_restNs h_p1 c_figures c_restMs c_restNs v_ahead v_behind (1 : Int32) v_lead v_round v_leftM v_leftN v_ofA v_ofB v_ofM v_ofN v_figures v_restMs v_restNs v_p1_a v_p1_b) := hD
          refine lv_aload_n hx hb dX5_spellBehind_136 rfl (lv_at hl 0 rfl) ?_
          refine va_get (D := (dC, dI)) (ci := 5) (v := .int (1 : Int32)) (C := RX5) (T := TX5) (N := 16) hx hb hts inn_X5_spellBehind_X5 hown hK hP 0 rfl rfl 3 (by decide) (hts (.fieldLink RX5 22 "RingBases$Writing" "ends" "Z") (List.mem_of_getElem? (i := 10) rfl)) (fun _ h9 => h9) rfl dX5_spellBehind_137 ?_
          refine lv_if_ne (tgt := 149) hx hb dX5_spellBehind_140 (by decide) (fun g_4 => ?_) (fun g_4 => ?_)
          · replace hF := ite_f g_4 hF
            obtain ⟨rfl, rfl, rfl, rfl, rfl, rfl, rfl, rfl, rfl⟩ := oks9 hF; exact hE _ _ _ _ hP hS dX5_spellBehind_149
          · replace hF := ite_t g_4 hF
            refine lv_aload_n hx hb dX5_spellBehind_143 rfl (lv_at hl 0 rfl) ?_
            refine lv_bipush (v := (40 : Int32)) hx hb dX5_spellBehind_144 (by decide) ?_
            obtain ⟨o_5, hc_o_5, hF⟩ := bd_s hF
            refine wrVv (wc' := (wd_X5_lookForRound h0 h_figures h_powerMs h_powerNs h_restMs h_restNs c_restMs c_restNs v_ahead v_behind (1 : Int32) o_5.1 o_5.2 v_leftM v_leftN v_ofA v_ofB v_ofM v_ofN v_restMs v_restNs)) (As := [.int (40 : Int32)]) (rest := []) (b := h0) hC (c_X5_lookForRound l dC dI H.size h0 h_figures h_powerMs h_powerNs h_restMs h_restNs c_restMs c_restNs v_ahead v_behind (1 : Int32) v_lead v_round v_leftM v_leftN v_ofA v_ofB v_ofM v_ofN v_restMs v_restNs (40 : Int32) o_5 hc_o_5) (cwV 1 hts gX5_spellBehind_X5_lookForRound rfl rfl rfl (by decide +kernel) ⟨Nat.le_of_ble_eq_true rfl, Nat.le_of_ble_eq_true rfl⟩) hN (hK.sub (tys' := [(c_restMs, .long), (c_restNs, .long)]) [1, 2] rfl) hP hD hS hA [0, 2, 3] rfl rfl rfl rfl 0 5 rfl rfl rfl rfl hl.1 (Nat.le_of_ble_eq_true rfl) dX5_spellBehind_146 ⟨Nat.zero_le _, Nat.zero_le _⟩ (fun H locs hP hS => ?_)
            have hP : va_P (dC, dI) vwCl (wd_X5_spellBehind h0 h_figures h_powerMs h_powerNs h_restMs h_restNs h_p1 c_figures c_restMs c_restNs v_ahead v_behind (1 : Int32) o_5.1 o_5.2 v_leftM v_leftN v_ofA v_ofB v_ofM v_ofN v_figures v_restMs v_restNs v_p1_a v_p1_b) H := hP
            have hD : va_D A (wd_X5_spellBehind h0 h_figures h_powerMs h_powerNs h_restMs h_restNs h_p1 c_figures c_restMs c_restNs v_ahead v_behind (1 : Int32) o_5.1 o_5.2 v_leftM v_leftN v_ofA v_ofB v_ofM v_ofN v_figures v_restMs v_restNs v_p1_a v_p1_b) := va_D.re hD rfl
            obtain ⟨rfl, rfl, rfl, rfl, rfl, rfl, rfl, rfl, rfl⟩ := oks9 hF; exact hE _ _ _ _ hP hS dX5_spellBehind_149
      refine lv_iload_n hx hb dX5_spellBehind_17 rfl (lv_at hl 2 rfl) ?_
      refine lv_bipush (v := (40 : Int32)) hx hb dX5_spellBehind_18 (by decide) ?_
      refine lv_icmp_ge (tgt := 120) hx hb dX5_spellBehind_20 (by decide) (fun g_6 => ?_) (fun g_6 => ?_)
      · replace hF := ite_t g_6 hF
        exact k_120 v_behind v_ends v_lead v_round v_leftM v_leftN v_figures v_restMs v_restNs hF H locs hP hS ls (lv_sub hl [0] rfl)
      · replace hF := ite_f g_6 hF
        refine lv_aload_n hx hb dX5_spellBehind_23 rfl (lv_at hl 0 rfl) ?_
        refine rdVi (As := []) (rest := []) (b := h0) hC (c_X5_isAnythingLeft l dC dI h0 h_figures h_powerMs h_powerNs h_restMs h_restNs v_ahead v_behind v_ends v_lead v_round v_leftM v_leftN v_ofA v_ofB v_ofM v_ofN  (F_X5_isAnythingLeft v_leftM v_leftN) rfl) (cwV 0 hts gX5_spellBehind_X5_isAnythingLeft rfl rfl rfl (by decide +kernel) ⟨Nat.le_of_ble_eq_true rfl, Nat.le_of_ble_eq_true rfl⟩) hN (hK.sub (tys' := []) [] rfl) (hP.sub (ws' := (wd_X5_isAnythingLeft h0 h_figures h_powerMs h_powerNs h_restMs h_restNs v_ahead v_behind v_ends v_lead v_round v_leftM v_leftN v_ofA v_ofB v_ofM v_ofN)) [0] rfl) 0 5 rfl rfl rfl rfl hl.1 (Nat.le_of_ble_eq_true rfl) dX5_spellBehind_24 ⟨Nat.zero_le _, Nat.zero_le _⟩ ?_
        refine lv_if_eq (tgt := 120) hx hb dX5_spellBehind_27 (by decide) (fun g_7 => ?_) (fun g_7 => ?_)
        · replace hF := ite_t g_7 hF
          exact k_120 v_behind v_ends v_lead v_round v_leftM v_leftN v_figures v_restMs v_restNs hF H locs hP hS ls (lv_sub hl [0] rfl)
        · replace hF := ite_f g_7 hF
          refine lv_aload_n hx hb dX5_spellBehind_30 rfl (lv_at hl 0 rfl) ?_
          refine lv_iload_n hx hb dX5_spellBehind_31 rfl (lv_at hl 2 rfl) ?_
          obtain ⟨o_8, hc_o_8, hF⟩ := bd_s hF
          refine wrVv (wc' := (wd_X5_lookForRound h0 h_figures h_powerMs h_powerNs h_restMs h_restNs c_restMs c_restNs v_ahead v_behind v_ends o_8.1 o_8.2 v_leftM v_leftN v_ofA v_ofB v_ofM v_ofN v_restMs v_restNs)) (As := [.int x2]) (rest := []) (b := h0) hC (c_X5_lookForRound l dC dI H.size h0 h_figures h_powerMs h_powerNs h_restMs h_restNs c_restMs c_restNs v_ahead v_behind v_ends v_lead v_round v_leftM v_leftN v_ofA v_ofB v_ofM v_ofN v_restMs v_restNs x2 o_8 hc_o_8) (cwV 1 hts gX5_spellBehind_X5_lookForRound rfl rfl rfl (by decide +kernel) ⟨Nat.le_of_ble_eq_true rfl, Nat.le_of_ble_eq_true rfl⟩) hN (hK.sub (tys' := [(c_restMs, .long), (c_restNs, .long)]) [1, 2] rfl) hP hD hS hA [0, 2, 3] rfl rfl rfl rfl 0 5 rfl rfl rfl rfl hl.1 (Nat.le_of_ble_eq_true rfl) dX5_spellBehind_32 ⟨Nat.zero_le _, Nat.zero_le _⟩ (fun H locs hP hS => ?_)
          have hP : va_P (dC, dI) vwCl (wd_X5_spellBehind h0 h_figures h_powerMs h_powerNs h_restMs h_restNs h_p1 c_figures c_restMs c_restNs v_ahead v_behind v_ends o_8.1 o_8.2 v_leftM v_leftN v_ofA v_ofB v_ofM v_ofN v_figures v_restMs v_restNs v_p1_a v_p1_b) H := hP
          have hD : va_D A (wd_X5_spellBehind h0 h_figures h_powerMs h_powerNs h_restMs h_restNs h_p1 c_figures c_restMs c_restNs v_ahead v_behind v_ends o_8.1 o_8.2 v_leftM v_leftN v_ofA v_ofB v_ofM v_ofN v_figures v_restMs v_restNs v_p1_a v_p1_b) := va_D.re hD rfl
          refine lv_aload_n hx hb dX5_spellBehind_35 rfl (lv_at hl 0 rfl) ?_
          refine va_get (D := (dC, dI)) (ci := 5) (v := .ref h_restMs) (C := RX5) (T := TX5) (N := 16) hx hb hts inn_X5_spellBehind_X5 hown hK hP 0 rfl rfl 8 (by decide) (hts (.fieldLink RX5 39 "RingBases$Writing" "restMs" "[J") (List.mem_of_getElem? (i := 4) rfl)) (fun _ h9 => h9) rfl dX5_spellBehind_36 ?_
          refine lv_iload_n hx hb dX5_spellBehind_39 rfl (lv_at hl 2 rfl) ?_
          refine lv_aload_n hx hb dX5_spellBehind_40 rfl (lv_at hl 0 rfl) ?_
          refine va_get (D := (dC, dI)) (ci := 5) (v := .long v_leftM) (C := RX5) (T := TX5) (N := 16) hx hb hts inn_X5_spellBehind_X5 hown hK hP 0 rfl rfl 10 (by decide) (hts (.fieldLink RX5 45 "RingBases$Writing" "leftM" "J") (List.mem_of_getElem? (i := 5) rfl)) (fun _ h9 => h9) rfl dX5_spellBehind_41 ?_
          obtain ⟨i_9, hF⟩ := ck_s hF
          refine va_last hx hb hK hP hD hS 2 1 rfl rfl i_9 dX5_spellBehind_44 (fun H locs hP hD hS => ?_)
          have hP : va_P (dC, dI) vwCl (wd_X5_spellBehind h0 h_figures h_powerMs h_powerNs h_restMs h_restNs h_p1 c_figures c_restMs c_restNs v_ahead v_behind v_ends o_8.1 o_8.2 v_leftM v_leftN v_ofA v_ofB v_ofM v_ofN v_figures (vp_updL v_restMs x2.toNatClampNeg v_leftM) v_restNs v_p1_a v_p1_b) H := hP
          have hD : va_D A (wd_X5_spellBehind h0 h_figures h_powerMs h_powerNs h_restMs h_restNs h_p1 c_figures c_restMs c_restNs v_ahead v_behind v_ends o_8.1 o_8.2 v_leftM v_leftN v_ofA v_ofB v_ofM v_ofN v_figures (vp_updL v_restMs x2.toNatClampNeg v_leftM) v_restNs v_p1_a v_p1_b) := hD
          refine lv_aload_n hx hb dX5_spellBehind_45 rfl (lv_at hl 0 rfl) ?_
          refine va_get (D := (dC, dI)) (ci := 5) (v := .ref h_restNs) (C := RX5) (T := TX5) (N := 16) hx hb hts inn_X5_spellBehind_X5 hown hK hP 0 rfl rfl 9 (by decide) (hts (.fieldLink RX5 42 "RingBases$Writing" "restNs" "[J") (List.mem_of_getElem? (i := 6) rfl)) (fun _ h9 => h9) rfl dX5_spellBehind_46 ?_
          refine lv_iload_n hx hb dX5_spellBehind_49 rfl (lv_at hl 2 rfl) ?_
          refine lv_aload_n hx hb dX5_spellBehind_50 rfl (lv_at hl 0 rfl) ?_
          refine va_get (D := (dC, dI)) (ci := 5) (v := .long v_leftN) (C := RX5) (T := TX5) (N := 16) hx hb hts inn_X5_spellBehind_X5 hown hK hP 0 rfl rfl 11 (by decide) (hts (.fieldLink RX5 49 "RingBases$Writing" "leftN" "J") (List.mem_of_getElem? (i := 7) rfl)) (fun _ h9 => h9) rfl dX5_spellBehind_51 ?_
          refine va_last hx hb hK hP hD hS 3 2 rfl rfl i_9 dX5_spellBehind_54 (fun H locs hP hD hS => ?_)
          have hP : va_P (dC, dI) vwCl (wd_X5_spellBehind h0 h_figures h_powerMs h_powerNs h_restMs h_restNs h_p1 c_figures c_restMs c_restNs v_ahead v_behind v_ends o_8.1 o_8.2 v_leftM v_leftN v_ofA v_ofB v_ofM v_ofN v_figures (vp_updL v_restMs x2.toNatClampNeg v_leftM) (vp_updL v_restNs x2.toNatClampNeg v_leftN) v_p1_a v_p1_b) H := hP
          have hD : va_D A (wd_X5_spellBehind h0 h_figures h_powerMs h_powerNs h_restMs h_restNs h_p1 c_figures c_restMs c_restNs v_ahead v_behind v_ends o_8.1 o_8.2 v_leftM v_leftN v_ofA v_ofB v_ofM v_ofN v_figures (vp_updL v_restMs x2.toNatClampNeg v_leftM) (vp_updL v_restNs x2.toNatClampNeg v_leftN) v_p1_a v_p1_b) := hD
          refine lv_aload_n hx hb dX5_spellBehind_55 rfl (lv_at hl 0 rfl) ?_
          refine lv_aload_n hx hb dX5_spellBehind_56 rfl (lv_at hl 1 rfl) ?_
          refine lv_aload_n hx hb dX5_spellBehind_57 rfl (lv_at hl 0 rfl) ?_
          refine va_get (D := (dC, dI)) (ci := 5) (v := .ref h_restNs) (C := RX5) (T := TX5) (N := 16) hx hb hts inn_X5_spellBehind_X5 hown hK hP 0 rfl rfl 9 (by decide) (hts (.fieldLink RX5 42 "RingBases$Writing" "restNs" "[J") (List.mem_of_getElem? (i := 6) rfl)) (fun _ h9 => h9) rfl dX5_spellBehind_58 ?_
          refine lv_iload_n hx hb dX5_spellBehind_61 rfl (lv_at hl 2 rfl) ?_
          refine va_lald hx hb hK hP 3 2 rfl rfl i_9 dX5_spellBehind_62 ?_
          refine rdVl (As := [.long ((vp_updL v_restNs x2.toNatClampNeg v_leftN) x2.toNatClampNeg)]) (rest := [.ref h0]) (b := h_p1) hC (c_X0_raisedM l dC dI h_p1 v_p1_a v_p1_b ((vp_updL v_restNs x2.toNatClampNeg v_leftN) x2.toNatClampNeg) (F_X0_raisedM ((vp_updL v_restNs x2.toNatClampNeg v_leftN) x2.toNatClampNeg) v_p1_b) rfl) (cwV 1 hts gX5_spellBehind_X0_raisedM rfl rfl rfl (by decide +kernel) ⟨Nat.le_of_ble_eq_true rfl, Nat.le_of_ble_eq_true rfl⟩) hN (hK.sub (tys' := []) [] rfl) (hP.sub (ws' := (wd_X0_raisedM h_p1 v_p1_a v_p1_b)) [4] rfl) 0 0 rfl rfl rfl rfl hl.1 (Nat.le_of_ble_eq_true rfl) dX5_spellBehind_63 ⟨Nat.zero_le _, Nat.zero_le _⟩ ?_
          refine va_put (D := (dC, dI)) (ty := .long) (ci := 5) (v := .long (F_X0_raisedM ((vp_updL v_restNs x2.toNatClampNeg v_leftN) x2.toNatClampNeg) v_p1_b)) (C := RX5) (T := TX5) (N := 16) hx hb hts inn_X5_spellBehind_X5 tyX5 tyX5_ok nmX5 hown hK hP hD hS 0 rfl rfl 10 (by decide) (hts (.fieldLink RX5 45 "RingBases$Writing" "leftM" "J") (List.mem_of_getElem? (i := 5) rfl)) (fun _ h9 => h9) rfl (by decide +kernel) rfl rfl (Nat.le_of_ble_eq_true rfl) dX5_spellBehind_66 (fun H locs hP hD hS => ?_)
          have hP : va_P (dC, dI) vwCl (wd_X5_spellBehind h0 h_figures h_powerMs h_powerNs h_restMs h_restNs h_p1 c_figures c_restMs c_restNs v_ahead v_behind v_ends o_8.1 o_8.2 (F_X0_raisedM ((vp_updL v_restNs x2.toNatClampNeg v_leftN) x2.toNatClampNeg) v_p1_b) v_leftN v_ofA v_ofB v_ofM v_ofN v_figures (vp_updL v_restMs x2.toNatClampNeg v_leftM) (vp_updL v_restNs x2.toNatClampNeg v_leftN) v_p1_a v_p1_b) H := hP
          have hD : va_D A (wd_X5_spellBehind h0 h_figures h_powerMs h_powerNs h_restMs h_restNs h_p1 c_figures c_restMs c_restNs v_ahead v_behind v_ends o_8.1 o_8.2 (F_X0_raisedM ((vp_updL v_restNs x2.toNatClampNeg v_leftN) x2.toNatClampNeg) v_p1_b) v_leftN v_ofA v_ofB v_ofM v_ofN v_figures (vp_updL v_restMs x2.toNatClampNeg v_leftM) (vp_updL v_restNs x2.toNatClampNeg v_leftN) v_p1_a v_p1_b) := hD
          refine lv_aload_n hx hb dX5_spellBehind_69 rfl (lv_at hl 0 rfl) ?_
          refine lv_aload_n hx hb dX5_spellBehind_70 rfl (lv_at hl 1 rfl) ?_
          refine lv_aload_n hx hb dX5_spellBehind_71 rfl (lv_at hl 0 rfl) ?_
          refine va_get (D := (dC, dI)) (ci := 5) (v := .ref h_restMs) (C := RX5) (T := TX5) (N := 16) hx hb hts inn_X5_spellBehind_X5 hown hK hP 0 rfl rfl 8 (by decide) (hts (.fieldLink RX5 39 "RingBases$Writing" "restMs" "[J") (List.mem_of_getElem? (i := 4) rfl)) (fun _ h9 => h9) rfl dX5_spellBehind_72 ?_
          refine lv_iload_n hx hb dX5_spellBehind_75 rfl (lv_at hl 2 rfl) ?_
          refine va_lald hx hb hK hP 2 1 rfl rfl i_9 dX5_spellBehind_76 ?_
          refine lv_aload_n hx hb dX5_spellBehind_77 rfl (lv_at hl 0 rfl) ?_
          refine va_get (D := (dC, dI)) (ci := 5) (v := .ref h_restNs) (C := RX5) (T := TX5) (N := 16) hx hb hts inn_X5_spellBehind_X5 hown hK hP 0 rfl rfl 9 (by decide) (hts (.fieldLink RX5 42 "RingBases$Writing" "restNs" "[J") (List.mem_of_getElem? (i := 6) rfl)) (fun _ h9 => h9) rfl dX5_spellBehind_78 ?_
          refine lv_iload_n hx hb dX5_spellBehind_81 rfl (lv_at hl 2 rfl) ?_
          refine va_lald hx hb hK hP 3 2 rfl rfl i_9 dX5_spellBehind_82 ?_
          refine rdVl (As := [.long ((vp_updL v_restMs x2.toNatClampNeg v_leftM) x2.toNatClampNeg), .long ((vp_updL v_restNs x2.toNatClampNeg v_leftN) x2.toNatClampNeg)]) (rest := [.ref h0]) (b := h_p1) hC (c_X0_raisedN l dC dI h_p1 v_p1_a v_p1_b ((vp_updL v_restMs x2.toNatClampNeg v_leftM) x2.toNatClampNeg) ((vp_updL v_restNs x2.toNatClampNeg v_leftN) x2.toNatClampNeg) (F_X0_raisedN ((vp_updL v_restMs x2.toNatClampNeg v_leftM) x2.toNatClampNeg) ((vp_updL v_restNs x2.toNatClampNeg v_leftN) x2.toNatClampNeg) v_p1_a) rfl) (cwV 2 hts gX5_spellBehind_X0_raisedN rfl rfl rfl (by decide +kernel) ⟨Nat.le_of_ble_eq_true rfl, Nat.le_of_ble_eq_true rfl⟩) hN (hK.sub (tys' := []) [] rfl) (hP.sub (ws' := (wd_X0_raisedN h_p1 v_p1_a v_p1_b)) [4] rfl) 0 0 rfl rfl rfl rfl hl.1 (Nat.le_of_ble_eq_true rfl) dX5_spellBehind_83 ⟨Nat.zero_le _, Nat.zero_le _⟩ ?_
          refine va_put (D := (dC, dI)) (ty := .long) (ci := 5) (v := .long (F_X0_raisedN ((vp_updL v_restMs x2.toNatClampNeg v_leftM) x2.toNatClampNeg) ((vp_updL v_restNs x2.toNatClampNeg v_leftN) x2.toNatClampNeg) v_p1_a)) (C := RX5) (T := TX5) (N := 16) hx hb hts inn_X5_spellBehind_X5 tyX5 tyX5_ok nmX5 hown hK hP hD hS 0 rfl rfl 11 (by decide) (hts (.fieldLink RX5 49 "RingBases$Writing" "leftN" "J") (List.mem_of_getElem? (i := 7) rfl)) (fun _ h9 => h9) rfl (by decide +kernel) rfl rfl (Nat.le_of_ble_eq_true rfl) dX5_spellBehind_86 (fun H locs hP hD hS => ?_)
          have hP : va_P (dC, dI) vwCl (wd_X5_spellBehind h0 h_figures h_powerMs h_powerNs h_restMs h_restNs h_p1 c_figures c_restMs c_restNs v_ahead v_behind v_ends o_8.1 o_8.2 (F_X0_raisedM ((vp_updL v_restNs x2.toNatClampNeg v_leftN) x2.toNatClampNeg) v_p1_b) (F_X0_raisedN ((vp_updL v_restMs x2.toNatClampNeg v_leftM) x2.toNatClampNeg) ((vp_updL v_restNs x2.toNatClampNeg v_leftN) x2.toNatClampNeg) v_p1_a) v_ofA v_ofB v_ofM v_ofN v_figures (vp_updL v_restMs x2.toNatClampNeg v_leftM) (vp_updL v_restNs x2.toNatClampNeg v_leftN) v_p1_a v_p1_b) H := hP
          have hD : va_D A (wd_X5_spellBehind h0 h_figures h_powerMs h_powerNs h_restMs h_restNs h_p1 c_figures c_restMs c_restNs v_ahead v_behind v_ends o_8.1 o_8.2 (F_X0_raisedM ((vp_updL v_restNs x2.toNatClampNeg v_leftN) x2.toNatClampNeg) v_p1_b) (F_X0_raisedN ((vp_updL v_restMs x2.toNatClampNeg v_leftM) x2.toNatClampNeg) ((vp_updL v_restNs x2.toNatClampNeg v_leftN) x2.toNatClampNeg) v_p1_a) v_ofA v_ofB v_ofM v_ofN v_figures (vp_updL v_restMs x2.toNatClampNeg v_leftM) (vp_updL v_restNs x2.toNatClampNeg v_leftN) v_p1_a v_p1_b) := hD
          refine lv_aload_n hx hb dX5_spellBehind_89 rfl (lv_at hl 0 rfl) ?_
          refine va_get (D := (dC, dI)) (ci := 5) (v := .ref h_figures) (C := RX5) (T := TX5) (N := 16) hx hb hts inn_X5_spellBehind_X5 hown hK hP 0 rfl rfl 0 (by decide) (hts (.fieldLink RX5 9 "RingBases$Writing" "figures" "[I") (List.mem_of_getElem? (i := 8) rfl)) (fun _ h9 => h9) rfl dX5_spellBehind_90 ?_
          refine lv_aload_n hx hb dX5_spellBehind_93 rfl (lv_at hl 0 rfl) ?_
          refine va_get (D := (dC, dI)) (ci := 5) (v := .int v_ahead) (C := RX5) (T := TX5) (N := 16) hx hb hts inn_X5_spellBehind_X5 hown hK hP 0 rfl rfl 1 (by decide) (hts (.fieldLink RX5 15 "RingBases$Writing" "ahead" "I") (List.mem_of_getElem? (i := 9) rfl)) (fun _ h9 => h9) rfl dX5_spellBehind_94 ?_
          refine lv_iload_n hx hb dX5_spellBehind_97 rfl (lv_at hl 2 rfl) ?_
          refine lv_iadd hx hb dX5_spellBehind_98 ?_
          refine lv_aload_n hx hb dX5_spellBehind_99 rfl (lv_at hl 0 rfl) ?_
          refine lv_aload_n hx hb dX5_spellBehind_100 rfl (lv_at hl 1 rfl) ?_
          refine lv_lconst (v := (1 : Int64)) hx hb dX5_spellBehind_101 (by decide) ?_
          refine lv_lconst (v := (0 : Int64)) hx hb dX5_spellBehind_102 (by decide) ?_
          obtain ⟨o_10, hc_o_10, hF⟩ := bd_s hF
          refine wrVi (o := o_10.1) (wc' := (wd_X5_takeOut h0 h_figures h_powerMs h_powerNs h_restMs h_restNs h_p1 v_ahead v_behind v_ends o_8.1 o_8.2 o_10.2.1 o_10.2.2 v_ofA v_ofB v_ofM v_ofN v_p1_a v_p1_b)) (As := [.ref h_p1, .long (1 : Int64), .long (0 : Int64)]) (rest := [.int (v_ahead + x2), .ref h_figures]) (b := h0) hC (c_X5_takeOut l dC dI H.size h0 h_figures h_powerMs h_powerNs h_restMs h_restNs h_p1 v_ahead v_behind v_ends o_8.1 o_8.2 (F_X0_raisedM ((vp_updL v_restNs x2.toNatClampNeg v_leftN) x2.toNatClampNeg) v_p1_b) (F_X0_raisedN ((vp_updL v_restMs x2.toNatClampNeg v_leftM) x2.toNatClampNeg) ((vp_updL v_restNs x2.toNatClampNeg v_leftN) x2.toNatClampNeg) v_p1_a) v_ofA v_ofB v_ofM v_ofN v_p1_a v_p1_b (1 : Int64) (0 : Int64) o_10 hc_o_10) (cwV 3 hts gX5_spellBehind_X5_takeOut rfl rfl rfl (by decide +kernel) ⟨Nat.le_of_ble_eq_true rfl, Nat.le_of_ble_eq_true rfl⟩) hN (hK.sub (tys' := []) [] rfl) hP hD hS hA [0, 4] rfl rfl rfl rfl 0 5 rfl rfl rfl rfl hl.1 (Nat.le_of_ble_eq_true rfl) dX5_spellBehind_103 ⟨Nat.zero_le _, Nat.zero_le _⟩ (fun H locs hP hS => ?_)
          have hP : va_P (dC, dI) vwCl (wd_X5_spellBehind h0 h_figures h_powerMs h_powerNs h_restMs h_restNs h_p1 c_figures c_restMs c_restNs v_ahead v_behind v_ends o_8.1 o_8.2 o_10.2.1 o_10.2.2 v_ofA v_ofB v_ofM v_ofN v_figures (vp_updL v_restMs x2.toNatClampNeg v_leftM) (vp_updL v_restNs x2.toNatClampNeg v_leftN) v_p1_a v_p1_b) H := hP
          have hD : va_D A (wd_X5_spellBehind h0 h_figures h_powerMs h_powerNs h_restMs h_restNs h_p1 c_figures c_restMs c_restNs v_ahead v_behind v_ends o_8.1 o_8.2 o_10.2.1 o_10.2.2 v_ofA v_ofB v_ofM v_ofN v_figures (vp_updL v_restMs x2.toNatClampNeg v_leftM) (vp_updL v_restNs x2.toNatClampNeg v_leftN) v_p1_a v_p1_b) := va_D.re hD rfl
          obtain ⟨i_11, hF⟩ := ck_s hF
          refine va_iast hx hb hK hP hD hS 1 0 rfl rfl i_11 dX5_spellBehind_106 (fun H locs hP hD hS => ?_)
          have hP : va_P (dC, dI) vwCl (wd_X5_spellBehind h0 h_figures h_powerMs h_powerNs h_restMs h_restNs h_p1 c_figures c_restMs c_restNs v_ahead v_behind v_ends o_8.1 o_8.2 o_10.2.1 o_10.2.2 v_ofA v_ofB v_ofM v_ofN (upd v_figures (v_ahead + x2).toNatClampNeg o_10.1) (vp_updL v_restMs x2.toNatClampNeg v_leftM) (vp_updL v_restNs x2.toNatClampNeg v_leftN) v_p1_a v_p1_b) H := hP
          have hD : va_D A (wd_X5_spellBehind h0 h_figures h_powerMs h_powerNs h_restMs h_restNs h_p1 c_figures c_restMs c_restNs v_ahead v_behind v_ends o_8.1 o_8.2 o_10.2.1 o_10.2.2 v_ofA v_ofB v_ofM v_ofN (upd v_figures (v_ahead + x2).toNatClampNeg o_10.1) (vp_updL v_restMs x2.toNatClampNeg v_leftM) (vp_updL v_restNs x2.toNatClampNeg v_leftN) v_p1_a v_p1_b) := hD
          refine lv_aload_n hx hb dX5_spellBehind_107 rfl (lv_at hl 0 rfl) ?_
          refine lv_iload_n hx hb dX5_spellBehind_108 rfl (lv_at hl 2 rfl) ?_
          refine lv_iconst (v := (1 : Int32)) hx hb dX5_spellBehind_109 (by decide) ?_
          refine lv_iadd hx hb dX5_spellBehind_110 ?_
          refine va_put (D := (dC, dI)) (ty := .int) (ci := 5) (v := .int (x2 + (1 : Int32))) (C := RX5) (T := TX5) (N := 16) hx hb hts inn_X5_spellBehind_X5 tyX5 tyX5_ok nmX5 hown hK hP hD hS 0 rfl rfl 2 (by decide) (hts (.fieldLink RX5 19 "RingBases$Writing" "behind" "I") (List.mem_of_getElem? (i := 1) rfl)) (fun _ h9 => h9) rfl (by decide +kernel) rfl rfl (Nat.le_of_ble_eq_true rfl) dX5_spellBehind_111 (fun H locs hP hD hS => ?_)
          have hP : va_P (dC, dI) vwCl (wd_X5_spellBehind h0 h_figures h_powerMs h_powerNs h_restMs h_restNs h_p1 c_figures c_restMs c_restNs v_ahead (x2 + (1 : Int32)) v_ends o_8.1 o_8.2 o_10.2.1 o_10.2.2 v_ofA v_ofB v_ofM v_ofN (upd v_figures (v_ahead + x2).toNatClampNeg o_10.1) (vp_updL v_restMs x2.toNatClampNeg v_leftM) (vp_updL v_restNs x2.toNatClampNeg v_leftN) v_p1_a v_p1_b) H := hP
          have hD : va_D A (wd_X5_spellBehind h0 h_figures h_powerMs h_powerNs h_restMs h_restNs h_p1 c_figures c_restMs c_restNs v_ahead (x2 + (1 : Int32)) v_ends o_8.1 o_8.2 o_10.2.1 o_10.2.2 v_ofA v_ofB v_ofM v_ofN (upd v_figures (v_ahead + x2).toNatClampNeg o_10.1) (vp_updL v_restMs x2.toNatClampNeg v_leftM) (vp_updL v_restNs x2.toNatClampNeg v_leftN) v_p1_a v_p1_b) := hD
          refine lv_iinc (v := (x2 + (1 : Int32))) (lv' := [(2, .int (x2 + (1 : Int32))), (0, .ref h0), (1, .ref h_p1)]) hx hb dX5_spellBehind_114 hl (k := 2) rfl rfl (by decide) rfl (fun ls hl => ?_)
          refine lv_goto (tgt := 17) hx hb dX5_spellBehind_117 (by decide) ?_
          exact ih (x2 + (1 : Int32)) (x2 + (1 : Int32)) v_ends o_8.1 o_8.2 o_10.2.1 o_10.2.2 (upd v_figures (v_ahead + x2).toNatClampNeg o_10.1) (vp_updL v_restMs x2.toNatClampNeg v_leftM) (vp_updL v_restNs x2.toNatClampNeg v_leftN) hF H locs hP hS ls (lv_sub hl [1, 2, 0] rfl)
  refine lv_aload_n hx hb dX5_spellBehind_0 rfl (lv_at hl 0 rfl) ?_
  refine lv_iconst (v := (0 : Int32)) hx hb dX5_spellBehind_1 (by decide) ?_
  refine va_put (D := (dC, dI)) (ty := .int) (ci := 5) (v := .int (0 : Int32)) (C := RX5) (T := TX5) (N := 16) hx hb hts inn_X5_spellBehind_X5 tyX5 tyX5_ok nmX5 hown hK hP hD hS 0 rfl rfl 2 (by decide) (hts (.fieldLink RX5 19 "RingBases$Writing" "behind" "I") (List.mem_of_getElem? (i := 1) rfl)) (fun _ h9 => h9) rfl (by decide +kernel) rfl rfl (Nat.le_of_ble_eq_true rfl) dX5_spellBehind_2 (fun H locs hP hD hS => ?_)
  have hP : va_P (dC, dI) vwCl (wd_X5_spellBehind h0 h_figures h_powerMs h_powerNs h_restMs h_restNs h_p1 c_figures c_restMs c_restNs v_ahead (0 : Int32) v_ends v_lead v_round v_leftM v_leftN v_ofA v_ofB v_ofM v_ofN v_figures v_restMs v_restNs v_p1_a v_p1_b) H := hP
  have hD : va_D A (wd_X5_spellBehind h0 h_figures h_powerMs h_powerNs h_restMs h_restNs h_p1 c_figures c_restMs c_restNs v_ahead (0 : Int32) v_ends v_lead v_round v_leftM v_leftN v_ofA v_ofB v_ofM v_ofN v_figures v_restMs v_restNs v_p1_a v_p1_b) := hD
  refine lv_aload_n hx hb dX5_spellBehind_5 rfl (lv_at hl 0 rfl) ?_
  refine lv_iconst (v := (-1 : Int32)) hx hb dX5_spellBehind_6 (by decide) ?_
  refine va_put (D := (dC, dI)) (ty := .int) (ci := 5) (v := .int (-1 : Int32)) (C := RX5) (T := TX5) (N := 16) hx hb hts inn_X5_spellBehind_X5 tyX5 tyX5_ok nmX5 hown hK hP hD hS 0 rfl rfl 4 (by decide) (hts (.fieldLink RX5 26 "RingBases$Writing" "lead" "I") (List.mem_of_getElem? (i := 2) rfl)) (fun _ h9 => h9) rfl (by decide +kernel) rfl rfl (Nat.le_of_ble_eq_true rfl) dX5_spellBehind_7 (fun H locs hP hD hS => ?_)
  have hP : va_P (dC, dI) vwCl (wd_X5_spellBehind h0 h_figures h_powerMs h_powerNs h_restMs h_restNs h_p1 c_figures c_restMs c_restNs v_ahead (0 : Int32) v_ends (-1 : Int32) v_round v_leftM v_leftN v_ofA v_ofB v_ofM v_ofN v_figures v_restMs v_restNs v_p1_a v_p1_b) H := hP
  have hD : va_D A (wd_X5_spellBehind h0 h_figures h_powerMs h_powerNs h_restMs h_restNs h_p1 c_figures c_restMs c_restNs v_ahead (0 : Int32) v_ends (-1 : Int32) v_round v_leftM v_leftN v_ofA v_ofB v_ofM v_ofN v_figures v_restMs v_restNs v_p1_a v_p1_b) := hD
  refine lv_aload_n hx hb dX5_spellBehind_10 rfl (lv_at hl 0 rfl) ?_
  refine lv_iconst (v := (-1 : Int32)) hx hb dX5_spellBehind_11 (by decide) ?_
  refine va_put (D := (dC, dI)) (ty := .int) (ci := 5) (v := .int (-1 : Int32)) (C := RX5) (T := TX5) (N := 16) hx hb hts inn_X5_spellBehind_X5 tyX5 tyX5_ok nmX5 hown hK hP hD hS 0 rfl rfl 5 (by decide) (hts (.fieldLink RX5 29 "RingBases$Writing" "round" "I") (List.mem_of_getElem? (i := 3) rfl)) (fun _ h9 => h9) rfl (by decide +kernel) rfl rfl (Nat.le_of_ble_eq_true rfl) dX5_spellBehind_12 (fun H locs hP hD hS => ?_)
  have hP : va_P (dC, dI) vwCl (wd_X5_spellBehind h0 h_figures h_powerMs h_powerNs h_restMs h_restNs h_p1 c_figures c_restMs c_restNs v_ahead (0 : Int32) v_ends (-1 : Int32) (-1 : Int32) v_leftM v_leftN v_ofA v_ofB v_ofM v_ofN v_figures v_restMs v_restNs v_p1_a v_p1_b) H := hP
  have hD : va_D A (wd_X5_spellBehind h0 h_figures h_powerMs h_powerNs h_restMs h_restNs h_p1 c_figures c_restMs c_restNs v_ahead (0 : Int32) v_ends (-1 : Int32) (-1 : Int32) v_leftM v_leftN v_ofA v_ofB v_ofM v_ofN v_figures v_restMs v_restNs v_p1_a v_p1_b) := hD
  refine lv_iconst (v := (0 : Int32)) hx hb dX5_spellBehind_15 (by decide) ?_
  refine lv_istore_n (lv' := [(2, .int (0 : Int32)), (0, .ref h0), (1, .ref h_p1)]) hx hb dX5_spellBehind_16 rfl hl (by decide) rfl (fun ls hl => ?_)
  exact k_17 _ (0 : Int32) (0 : Int32) v_ends (-1 : Int32) (-1 : Int32) v_leftM v_leftN v_figures v_restMs v_restNs hF H locs hP hS ls (lv_sub hl [1, 2, 0] rfl)
set_option maxRecDepth 100000 in
set_option maxHeartbeats 4000000 in
theorem c_X5_spellBehind (l : Launch) (dC : Nat → ClassId) (dI : Nat → Nat → Nat) (sz : Nat) (h0 h_figures h_powerMs h_powerNs h_restMs h_restNs h_p1 : Nat) (c_figures c_restMs c_restNs : ClassId) (v_ahead : Int32) (v_behind : Int32) (v_ends : Int32) (v_lead : Int32) (v_round : Int32) (v_leftM : Int64) (v_leftN : Int64) (v_ofA : Int32) (v_ofB : Int32) (v_ofM : Int32) (v_ofN : Int32) (v_figures : (Nat → Int32)) (v_restMs : (Nat → Int64)) (v_restNs : (Nat → Int64)) (v_p1_a : Int32) (v_p1_b : Int32) (o : Int32 × Int32 × Int32 × Int32 × Int64 × Int64 × (Nat → Int32) × (Nat → Int64) × (Nat → Int64)) (hF : F_X5_spellBehind v_ahead v_ends v_leftM v_leftN v_figures v_restMs v_restNs v_p1_a v_p1_b = some o) : Met l yX5_spellBehind wsX5_spellBehind rm_X5_spellBehind (va_Pc [.ref h0, .ref h_p1] (PcW dC dI sz (wd_X5_spellBehind h0 h_figures h_powerMs h_powerNs h_restMs h_restNs h_p1 c_figures c_restMs c_restNs v_ahead v_behind v_ends v_lead v_round v_leftM v_leftN v_ofA v_ofB v_ofM v_ofN v_figures v_restMs v_restNs v_p1_a v_p1_b) [(c_figures, .int), (c_restMs, .long), (c_restNs, .long)])) (va_Qv (fun (_ : Unit) => True) (fun _ t => va_P (dC, dI) vwCl (wd_X5_spellBehind h0 h_figures h_powerMs h_powerNs h_restMs h_restNs h_p1 c_figures c_restMs c_restNs v_ahead o.1 o.2.1 o.2.2.1 o.2.2.2.1 o.2.2.2.2.1 o.2.2.2.2.2.1 v_ofA v_ofB v_ofM v_ofN o.2.2.2.2.2.2.1 o.2.2.2.2.2.2.2.1 o.2.2.2.2.2.2.2.2 v_p1_a v_p1_b) t.heap) (va_A (wd_X5_spellBehind h0 h_figures h_powerMs h_powerNs h_restMs h_restNs h_p1 c_figures c_restMs c_restNs v_ahead v_behind v_ends v_lead v_round v_leftM v_leftN v_ofA v_ofB v_ofM v_ofN v_figures v_restMs v_restNs v_p1_a v_p1_b) sz)) 0 0 (va_A (wd_X5_spellBehind h0 h_figures h_powerMs h_powerNs h_restMs h_restNs h_p1 c_figures c_restMs c_restNs v_ahead v_behind v_ends v_lead v_round v_leftM v_leftN v_ofA v_ofB v_ofM v_ofN v_figures v_restMs v_restNs v_p1_a v_p1_b) sz) := by
  refine Met.ofW (cc := cX5_spellBehind) (maxL := 3) (ret := none) (by decide) rfl ?_
  intro p e s m args below meth c s₁ B hml hv
  obtain ⟨rfl, hsz, hP, hK, hD0, hN⟩ := hv
  subst hsz
  have hl := lv_entry ([.ref h0, .ref h_p1]) (n := 3) (Nat.le_of_ble_eq_true rfl)
  rw [lg_entry_eq]
  generalize (lg_sl ([.ref h0, .ref h_p1]) ++ List.replicate (3 - (lg_sl ([.ref h0, .ref h_p1])).length) Slot.unset).toArray = ls at hl ⊢
  exact b_X5_spellBehind h0 h_figures h_powerMs h_powerNs h_restMs h_restNs h_p1 c_figures c_restMs c_restNs v_ahead v_behind v_ends v_lead v_round v_leftM v_leftN v_ofA v_ofB v_ofM v_ofN v_figures v_restMs v_restNs v_p1_a v_p1_b o.1 o.2.1 o.2.2.1 o.2.2.2.1 o.2.2.2.2.1 o.2.2.2.2.2.1 o.2.2.2.2.2.2.1 o.2.2.2.2.2.2.2.1 o.2.2.2.2.2.2.2.2 hF ⟨B.exec, B.bytes, hml, findClass_of_methodNamed B.named, atoms_spec (ws := wsX5_spellBehind) B.pre⟩ hN hK hP (fun q h => Or.inr h) (hD0.self (sz := s.heap.size)) va_S.rf (fun H locs ls pc hP hS hd => W.vret B.exec B.bytes B.returns (fun t ht hW => ⟨⟨(), rfl, trivial, by show va_P (dC, dI) vwCl _ t.heap; rw [ht]; exact hP⟩, hS.F ht⟩) hS.2.2 hd B.notSynchronized) hl
theorem inn_X5_spell_X0 : ∀ w ∈ wsX00, w ∈ wsX5_spell := fun _ h => List.mem_cons_of_mem _ (List.mem_append_right _ h)
theorem inn_X5_spell_X5 : ∀ w ∈ wsX50, w ∈ wsX5_spell := fun _ h => List.mem_cons_of_mem _ (List.mem_append_left _ (List.mem_append_right _ h))
abbrev wd_X5_spell (h0 h_figures h_powerMs h_powerNs h_restMs h_restNs h_p1 : Nat) (c_figures c_powerMs c_powerNs c_restMs c_restNs : ClassId) (v_ahead : Int32) (v_behind : Int32) (v_ends : Int32) (v_lead : Int32) (v_round : Int32) (v_leftM : Int64) (v_leftN : Int64) (v_ofA : Int32) (v_ofB : Int32) (v_ofM : Int32) (v_ofN : Int32) (v_figures : (Nat → Int32)) (v_powerMs : (Nat → Int64)) (v_powerNs : (Nat → Int64)) (v_restMs : (Nat → Int64)) (v_restNs : (Nat → Int64)) (v_p1_a : Int32) (v_p1_b : Int32) : va_W := [(h0, .inr (5, [.ref h_figures, .int v_ahead, .int v_behind, .int v_ends, .int v_lead, .int v_round, .ref h_powerMs, .ref h_powerNs, .ref h_restMs, .ref h_restNs, .long v_leftM, .long v_leftN, .int v_ofA, .int v_ofB, .int v_ofM, .int v_ofN])), (h_figures, .inl (c_figures, 101, .inl v_figures)), (h_powerMs, .inl (c_powerMs, 61, .inr (.inl v_powerMs))), (h_powerNs, .inl (c_powerNs, 61, .inr (.inl v_powerNs))), (h_restMs, .inl (c_restMs, 40, .inr (.inl v_restMs))), (h_restNs, .inl (c_restNs, 40, .inr (.inl v_restNs))), (h_p1, .inr (0, [.int v_p1_a, .int v_p1_b]))]
abbrev rm_X5_spell : Room := { frames := 4, cells := 0, slots := 0, locals := 100 }
def F_X5_spell_39 (x2 : Int32) (x3 : Int32) (v_p1_a : Int32) (v_p1_b : Int32) (v_ahead : Int32) (v_behind : Int32) (v_ends : Int32) (v_lead : Int32) (v_round : Int32) (v_leftM : Int64) (v_leftN : Int64) (v_ofA : Int32) (v_ofB : Int32) (v_ofM : Int32) (v_ofN : Int32) (v_figures : (Nat → Int32)) (v_powerMs : (Nat → Int64)) (v_powerNs : (Nat → Int64)) (v_restMs : (Nat → Int64)) (v_restNs : (Nat → Int64)) : Option (Int32 × Int32 × Int32 × Int32 × Int32 × Int64 × Int64 × Int32 × Int32 × Int32 × Int32 × (Nat → Int32) × (Nat → Int64) × (Nat → Int64) × (Nat → Int64) × (Nat → Int64)) := ((F_X5_highestPlace x2.toInt64 x3.toInt64 v_powerMs v_powerNs v_p1_a v_p1_b).bind fun o_1 => ((F_X5_spellAhead o_1.1 x2.toInt64 x3.toInt64 v_figures o_1.2.1 o_1.2.2 v_p1_a v_p1_b).bind fun o_2 => ((F_X5_spellBehind o_2.1 v_ends o_2.2.1 o_2.2.2.1 o_2.2.2.2 v_restMs v_restNs v_p1_a v_p1_b).bind fun o_3 => (some (o_2.1, o_3.1, o_3.2.1, o_3.2.2.1, o_3.2.2.2.1, o_3.2.2.2.2.1, o_3.2.2.2.2.2.1, v_p1_a, v_p1_b, x2, x3, o_3.2.2.2.2.2.2.1, o_1.2.1, o_1.2.2, o_3.2.2.2.2.2.2.2.1, o_3.2.2.2.2.2.2.2.2)))))
def F_X5_spell (x2 : Int32) (x3 : Int32) (v_ahead : Int32) (v_behind : Int32) (v_ends : Int32) (v_lead : Int32) (v_round : Int32) (v_leftM : Int64) (v_leftN : Int64) (v_ofA : Int32) (v_ofB : Int32) (v_ofM : Int32) (v_ofN : Int32) (v_figures : (Nat → Int32)) (v_powerMs : (Nat → Int64)) (v_powerNs : (Nat → Int64)) (v_restMs : (Nat → Int64)) (v_restNs : (Nat → Int64)) (v_p1_a : Int32) (v_p1_b : Int32) : Option (Int32 × Int32 × Int32 × Int32 × Int32 × Int64 × Int64 × Int32 × Int32 × Int32 × Int32 × (Nat → Int32) × (Nat → Int64) × (Nat → Int64) × (Nat → Int64) × (Nat → Int64)) := (if v_ofA = v_p1_a then (if v_ofB = v_p1_b then (if v_ofM = x2 then (if v_ofN = x3 then (some (v_ahead, v_behind, v_ends, v_lead, v_round, v_leftM, v_leftN, v_ofA, v_ofB, v_ofM, v_ofN, v_figures, v_powerMs, v_powerNs, v_restMs, v_restNs)) else (F_X5_spell_39  x2 x3 v_p1_a v_p1_b v_ahead v_behind v_ends v_lead v_round v_leftM v_leftN v_ofA v_ofB v_ofM v_ofN v_figures v_powerMs v_powerNs v_restMs v_restNs)) else (F_X5_spell_39  x2 x3 v_p1_a v_p1_b v_ahead v_behind v_ends v_lead v_round v_leftM v_leftN v_ofA v_ofB v_ofM v_ofN v_figures v_powerMs v_powerNs v_restMs v_restNs)) else (F_X5_spell_39  x2 x3 v_p1_a v_p1_b v_ahead v_behind v_ends v_lead v_round v_leftM v_leftN v_ofA v_ofB v_ofM v_ofN v_figures v_powerMs v_powerNs v_restMs v_restNs)) else (F_X5_spell_39  x2 x3 v_p1_a v_p1_b v_ahead v_behind v_ends v_lead v_round v_leftM v_leftN v_ofA v_ofB v_ofM v_ofN v_figures v_powerMs v_powerNs v_restMs v_restNs))
set_option maxRecDepth 100000 in
set_option maxHeartbeats 4000000 in
theorem b_X5_spell {p : Program} {l : Launch} {e : Env} {s : State} {m : MethodId} {args : Array Value} {below : List Frame} {meth : Method} {c : Code} {Q : State → Prop} {dC : Nat → ClassId} {dI : Nat → Nat → Nat} {H : Heap} {locs : List Loc} {ls : Array Slot} {A : Nat → Prop} (h0 h_figures h_powerMs h_powerNs h_restMs h_restNs h_p1 : Nat) (c_figures c_powerMs c_powerNs c_restMs c_restNs : ClassId) (v_ahead : Int32) (v_behind : Int32) (v_ends : Int32) (v_lead : Int32) (v_round : Int32) (v_leftM : Int64) (v_leftN : Int64) (v_ofA : Int32) (v_ofB : Int32) (v_ofM : Int32) (v_ofN : Int32) (v_figures : (Nat → Int32)) (v_powerMs : (Nat → Int64)) (v_powerNs : (Nat → Int64)) (v_restMs : (Nat → Int64)) (v_restNs : (Nat → Int64)) (v_p1_a : Int32) (v_p1_b : Int32) (x2 : Int32) (x3 : Int32) (ou0 : Int32) (ou1 : Int32) (ou2 : Int32) (ou3 : Int32) (ou4 : Int32) (ou5 : Int64) (ou6 : Int64) (ou7 : Int32) (ou8 : Int32) (ou9 : Int32) (ou10 : Int32) (ou11 : (Nat → Int32)) (ou12 : (Nat → Int64)) (ou13 : (Nat → Int64)) (ou14 : (Nat → Int64)) (ou15 : (Nat → Int64)) (hF : F_X5_spell x2 x3 v_ahead v_behind v_ends v_lead v_round v_leftM v_leftN v_ofA v_ofB v_ofM v_ofN v_figures v_powerMs v_powerNs v_restMs v_restNs v_p1_a v_p1_b = some (ou0, ou1, ou2, ou3, ou4, ou5, ou6, ou7, ou8, ou9, ou10, ou11, ou12, ou13, ou14, ou15)) (hC : CallFix p m c cX5_spell 4 s args wsX5_spell RX5) (hN : NW s) (hK : va_K (dC, dI) vwCl [(c_figures, .int), (c_powerMs, .long), (c_powerNs, .long), (c_restMs, .long), (c_restNs, .long)] s) (hP : va_P (dC, dI) vwCl (wd_X5_spell h0 h_figures h_powerMs h_powerNs h_restMs h_restNs h_p1 c_figures c_powerMs c_powerNs c_restMs c_restNs v_ahead v_behind v_ends v_lead v_round v_leftM v_leftN v_ofA v_ofB v_ofM v_ofN v_figures v_powerMs v_powerNs v_restMs v_restNs v_p1_a v_p1_b) H) (hA : ∀ q, s.heap.size ≤ q → A q) (hD : va_D A (wd_X5_spell h0 h_figures h_powerMs h_powerNs h_restMs h_restNs h_p1 c_figures c_powerMs c_powerNs c_restMs c_restNs v_ahead v_behind v_ends v_lead v_round v_leftM v_leftN v_ofA v_ofB v_ofM v_ofN v_figures v_powerMs v_powerNs v_restMs v_restNs v_p1_a v_p1_b)) (hS : va_S A s.heap H locs) (hE : ∀ (H : Heap) (locs : List Loc) (ls : Array Slot) (pc : Nat), va_P (dC, dI) vwCl (wd_X5_spell h0 h_figures h_powerMs h_powerNs h_restMs h_restNs h_p1 c_figures c_powerMs c_powerNs c_restMs c_restNs ou0 ou1 ou2 ou3 ou4 ou5 ou6 ou7 ou8 ou9 ou10 ou11 ou12 ou13 ou14 ou15 v_p1_a v_p1_b) H → va_S A s.heap H locs → decode cX5_spell pc = .ok (.return_, 1) → W p l e rm_X5_spell s m args below meth c H locs 0 0 Q (F0 m pc ls [])) (hl : lv_has ls 4 [(0, .ref h0), (1, .ref h_p1), (2, .int x2), (3, .int x3)]) : W p l e rm_X5_spell s m args below meth c H locs 0 0 Q (F0 m 0 ls []) := by
  obtain ⟨hx, hb, hml, hown, hts⟩ := id hC
  have hD0 := hD
  unfold F_X5_spell at hF
  have k_39 : ∀ (v_ahead : Int32) (v_behind : Int32) (v_ends : Int32) (v_lead : Int32) (v_round : Int32) (v_leftM : Int64) (v_leftN : Int64) (v_ofA : Int32) (v_ofB : Int32) (v_ofM : Int32) (v_ofN : Int32) (v_figures : (Nat → Int32)) (v_powerMs : (Nat → Int64)) (v_powerNs : (Nat → Int64)) (v_restMs : (Nat → Int64)) (v_restNs : (Nat → Int64)), F_X5_spell_39  x2 x3 v_p1_a v_p1_b v_ahead v_behind v_ends v_lead v_round v_leftM v_leftN v_ofA v_ofB v_ofM v_ofN v_figures v_powerMs v_powerNs v_restMs v_restNs = some (ou0, ou1, ou2, ou3, ou4, ou5, ou6, ou7, ou8, ou9, ou10, ou11, ou12, ou13, ou14, ou15) → ∀ (H : Heap) (locs : List Loc), va_P (dC, dI) vwCl (wd_X5_spell h0 h_figures h_powerMs h_powerNs h_restMs h_restNs h_p1 c_figures c_powerMs c_powerNs c_restMs c_restNs v_ahead v_behind v_ends v_lead v_round v_leftM v_leftN v_ofA v_ofB v_ofM v_ofN v_figures v_powerMs v_powerNs v_restMs v_restNs v_p1_a v_p1_b) H → va_S A s.heap H locs → ∀ ls : Array Slot, lv_has ls 4 [(0, .ref h0), (1, .ref h_p1), (2, .int x2), (3, .int x3)] → W p l e rm_X5_spell s m args below meth c H locs 0 0 Q (F0 m 39 ls []) := by
    intro v_ahead v_behind v_ends v_lead v_round v_leftM v_leftN v_ofA v_ofB v_ofM v_ofN v_figures v_powerMs v_powerNs v_restMs v_restNs hF H locs hP hS ls hl
    rw [F_X5_spell_39] at hF
    have hD : va_D A (wd_X5_spell h0 h_figures h_powerMs h_powerNs h_restMs h_restNs h_p1 c_figures c_powerMs c_powerNs c_restMs c_restNs v_ahead v_behind v_ends v_lead v_round v_leftM v_leftN v_ofA v_ofB v_ofM v_ofN v_figures v_powerMs v_powerNs v_restMs v_restNs v_p1_a v_p1_b) := hD0.re rfl
    refine lv_aload_n hx hb dX5_spell_39 rfl (lv_at hl 0 rfl) ?_
    refine lv_aload_n hx hb dX5_spell_40 rfl (lv_at hl 1 rfl) ?_
    refine va_getN (D := (dC, dI)) (ci := 0) (v := .int v_p1_a) (C := RX0) (T := TX0) (N := 2) hx hb hts inn_X5_spell_X0 hown hK hP 6 rfl rfl 0 (by decide) (va_Nw.use rfl (hN _ (List.mem_of_getElem? (i := 4) rfl))) (fun _ h9 => h9) rfl dX5_spell_41 ?_
    refine va_put (D := (dC, dI)) (ty := .int) (ci := 5) (v := .int v_p1_a) (C := RX5) (T := TX5) (N := 16) hx hb hts inn_X5_spell_X5 tyX5 tyX5_ok nmX5 hown hK hP hD hS 0 rfl rfl 12 (by decide) (hts (.fieldLink RX5 52 "RingBases$Writing" "ofA" "I") (List.mem_of_getElem? (i := 1) rfl)) (fun _ h9 => h9) rfl (by decide +kernel) rfl rfl (Nat.le_of_ble_eq_true rfl) dX5_spell_44 (fun H locs hP hD hS => ?_)
    have hP : va_P (dC, dI) vwCl (wd_X5_spell h0 h_figures h_powerMs h_powerNs h_restMs h_restNs h_p1 c_figures c_powerMs c_powerNs c_restMs c_restNs v_ahead v_behind v_ends v_lead v_round v_leftM v_leftN v_p1_a v_ofB v_ofM v_ofN v_figures v_powerMs v_powerNs v_restMs v_restNs v_p1_a v_p1_b) H := hP
    have hD : va_D A (wd_X5_spell h0 h_figures h_powerMs h_powerNs h_restMs h_restNs h_p1 c_figures c_powerMs c_powerNs c_restMs c_restNs v_ahead v_behind v_ends v_lead v_round v_leftM v_leftN v_p1_a v_ofB v_ofM v_ofN v_figures v_powerMs v_powerNs v_restMs v_restNs v_p1_a v_p1_b) := hD
    refine lv_aload_n hx hb dX5_spell_47 rfl (lv_at hl 0 rfl) ?_
    refine lv_aload_n hx hb dX5_spell_48 rfl (lv_at hl 1 rfl) ?_
    refine va_getN (D := (dC, dI)) (ci := 0) (v := .int v_p1_b) (C := RX0) (T := TX0) (N := 2) hx hb hts inn_X5_spell_X0 hown hK hP 6 rfl rfl 1 (by decide) (va_Nw.use rfl (hN _ (List.mem_of_getElem? (i := 7) rfl))) (fun _ h9 => h9) rfl dX5_spell_49 ?_
    refine va_put (D := (dC, dI)) (ty := .int) (ci := 5) (v := .int v_p1_b) (C := RX5) (T := TX5) (N := 16) hx hb hts inn_X5_spell_X5 tyX5 tyX5_ok nmX5 hown hK hP hD hS 0 rfl rfl 13 (by decide) (hts (.fieldLink RX5 55 "RingBases$Writing" "ofB" "I") (List.mem_of_getElem? (i := 2) rfl)) (fun _ h9 => h9) rfl (by decide +kernel) rfl rfl (Nat.le_of_ble_eq_true rfl) dX5_spell_52 (fun H locs hP hD hS => ?_)
    have hP : va_P (dC, dI) vwCl (wd_X5_spell h0 h_figures h_powerMs h_powerNs h_restMs h_restNs h_p1 c_figures c_powerMs c_powerNs c_restMs c_restNs v_ahead v_behind v_ends v_lead v_round v_leftM v_leftN v_p1_a v_p1_b v_ofM v_ofN v_figures v_powerMs v_powerNs v_restMs v_restNs v_p1_a v_p1_b) H := hP
    have hD : va_D A (wd_X5_spell h0 h_figures h_powerMs h_powerNs h_restMs h_restNs h_p1 c_figures c_powerMs c_powerNs c_restMs c_restNs v_ahead v_behind v_ends v_lead v_round v_leftM v_leftN v_p1_a v_p1_b v_ofM v_ofN v_figures v_powerMs v_powerNs v_restMs v_restNs v_p1_a v_p1_b) := hD
    refine lv_aload_n hx hb dX5_spell_55 rfl (lv_at hl 0 rfl) ?_
    refine lv_iload_n hx hb dX5_spell_56 rfl (lv_at hl 2 rfl) ?_
    refine va_put (D := (dC, dI)) (ty := .int) (ci := 5) (v := .int x2) (C := RX5) (T := TX5) (N := 16) hx hb hts inn_X5_spell_X5 tyX5 tyX5_ok nmX5 hown hK hP hD hS 0 rfl rfl 14 (by decide) (hts (.fieldLink RX5 58 "RingBases$Writing" "ofM" "I") (List.mem_of_getElem? (i := 3) rfl)) (fun _ h9 => h9) rfl (by decide +kernel) rfl rfl (Nat.le_of_ble_eq_true rfl) dX5_spell_57 (fun H locs hP hD hS => ?_)
    have hP : va_P (dC, dI) vwCl (wd_X5_spell h0 h_figures h_powerMs h_powerNs h_restMs h_restNs h_p1 c_figures c_powerMs c_powerNs c_restMs c_restNs v_ahead v_behind v_ends v_lead v_round v_leftM v_leftN v_p1_a v_p1_b x2 v_ofN v_figures v_powerMs v_powerNs v_restMs v_restNs v_p1_a v_p1_b) H := hP
    have hD : va_D A (wd_X5_spell h0 h_figures h_powerMs h_powerNs h_restMs h_restNs h_p1 c_figures c_powerMs c_powerNs c_restMs c_restNs v_ahead v_behind v_ends v_lead v_round v_leftM v_leftN v_p1_a v_p1_b x2 v_ofN v_figures v_powerMs v_powerNs v_restMs v_restNs v_p1_a v_p1_b) := hD
    refine lv_aload_n hx hb dX5_spell_60 rfl (lv_at hl 0 rfl) ?_
    refine lv_iload_n hx hb dX5_spell_61 rfl (lv_at hl 3 rfl) ?_
    refine va_put (D := (dC, dI)) (ty := .int) (ci := 5) (v := .int x3) (C := RX5) (T := TX5) (N := 16) hx hb hts inn_X5_spell_X5 tyX5 tyX5_ok nmX5 hown hK hP hD hS 0 rfl rfl 15 (by decide) (hts (.fieldLink RX5 61 "RingBases$Writing" "ofN" "I") (List.mem_of_getElem? (i := 4) rfl)) (fun _ h9 => h9) rfl (by decide +kernel) rfl rfl (Nat.le_of_ble_eq_true rfl) dX5_spell_62 (fun H locs hP hD hS => ?_)
    have hP : va_P (dC, dI) vwCl (wd_X5_spell h0 h_figures h_powerMs h_powerNs h_restMs h_restNs h_p1 c_figures c_powerMs c_powerNs c_restMs c_restNs v_ahead v_behind v_ends v_lead v_round v_leftM v_leftN v_p1_a v_p1_b x2 x3 v_figures v_powerMs v_powerNs v_restMs v_restNs v_p1_a v_p1_b) H := hP
    have hD : va_D A (wd_X5_spell h0 h_figures h_powerMs h_powerNs h_restMs h_restNs h_p1 c_figures c_powerMs c_powerNs c_restMs c_restNs v_ahead v_behind v_ends v_lead v_round v_leftM v_leftN v_p1_a v_p1_b x2 x3 v_figures v_powerMs v_powerNs v_restMs v_restNs v_p1_a v_p1_b) := hD
    refine lv_aload_n hx hb dX5_spell_65 rfl (lv_at hl 0 rfl) ?_
    refine lv_iload_n hx hb dX5_spell_66 rfl (lv_at hl 2 rfl) ?_
    refine lv_i2l hx hb dX5_spell_67 rfl ?_
    refine va_put (D := (dC, dI)) (ty := .long) (ci := 5) (v := .long x2.toInt64) (C := RX5) (T := TX5) (N := 16) hx hb hts inn_X5_spell_X5 tyX5 tyX5_ok nmX5 hown hK hP hD hS 0 rfl rfl 10 (by decide) (hts (.fieldLink RX5 45 "RingBases$Writing" "leftM" "J") (List.mem_of_getElem? (i := 5) rfl)) (fun _ h9 => h9) rfl (by decide +kernel) rfl rfl (Nat.le_of_ble_eq_true rfl) dX5_spell_68 (fun H locs hP hD hS => ?_)
    have hP : va_P (dC, dI) vwCl (wd_X5_spell h0 h_figures h_powerMs h_powerNs h_restMs h_restNs h_p1 c_figures c_powerMs c_powerNs c_restMs c_restNs v_ahead v_behind v_ends v_lead v_round x2.toInt64 v_leftN v_p1_a v_p1_b x2 x3 v_figures v_powerMs v_powerNs v_restMs v_restNs v_p1_a v_p1_b) H := hP
    have hD : va_D A (wd_X5_spell h0 h_figures h_powerMs h_powerNs h_restMs h_restNs h_p1 c_figures c_powerMs c_powerNs c_restMs c_restNs v_ahead v_behind v_ends v_lead v_round x2.toInt64 v_leftN v_p1_a v_p1_b x2 x3 v_figures v_powerMs v_powerNs v_restMs v_restNs v_p1_a v_p1_b) := hD
    refine lv_aload_n hx hb dX5_spell_71 rfl (lv_at hl 0 rfl) ?_
    refine lv_iload_n hx hb dX5_spell_72 rfl (lv_at hl 3 rfl) ?_
    refine lv_i2l hx hb dX5_spell_73 rfl ?_
    refine va_put (D := (dC, dI)) (ty := .long) (ci := 5) (v := .long x3.toInt64) (C := RX5) (T := TX5) (N := 16) hx hb hts inn_X5_spell_X5 tyX5 tyX5_ok nmX5 hown hK hP hD hS 0 rfl rfl 11 (by decide) (hts (.fieldLink RX5 49 "RingBases$Writing" "leftN" "J") (List.mem_of_getElem? (i := 6) rfl)) (fun _ h9 => h9) rfl (by decide +kernel) rfl rfl (Nat.le_of_ble_eq_true rfl) dX5_spell_74 (fun H locs hP hD hS => ?_)
    have hP : va_P (dC, dI) vwCl (wd_X5_spell h0 h_figures h_powerMs h_powerNs h_restMs h_restNs h_p1 c_figures c_powerMs c_powerNs c_restMs c_restNs v_ahead v_behind v_ends v_lead v_round x2.toInt64 x3.toInt64 v_p1_a v_p1_b x2 x3 v_figures v_powerMs v_powerNs v_restMs v_restNs v_p1_a v_p1_b) H := hP
    have hD : va_D A (wd_X5_spell h0 h_figures h_powerMs h_powerNs h_restMs h_restNs h_p1 c_figures c_powerMs c_powerNs c_restMs c_restNs v_ahead v_behind v_ends v_lead v_round x2.toInt64 x3.toInt64 v_p1_a v_p1_b x2 x3 v_figures v_powerMs v_powerNs v_restMs v_restNs v_p1_a v_p1_b) := hD
    refine lv_aload_n hx hb dX5_spell_77 rfl (lv_at hl 0 rfl) ?_
    refine lv_aload_n hx hb dX5_spell_78 rfl (lv_at hl 1 rfl) ?_
    refine lv_aload_n hx hb dX5_spell_79 rfl (lv_at hl 0 rfl) ?_
    refine lv_aload_n hx hb dX5_spell_80 rfl (lv_at hl 1 rfl) ?_
    obtain ⟨o_1, hc_o_1, hF⟩ := bd_s hF
    refine wrVi (o := o_1.1) (wc' := (wd_X5_highestPlace h0 h_figures h_powerMs h_powerNs h_restMs h_restNs h_p1 c_powerMs c_powerNs v_ahead v_behind v_ends v_lead v_round x2.toInt64 x3.toInt64 v_p1_a v_p1_b x2 x3 o_1.2.1 o_1.2.2 v_p1_a v_p1_b)) (As := [.ref h_p1]) (rest := [.ref h_p1, .ref h0]) (b := h0) hC (c_X5_highestPlace l dC dI H.size h0 h_figures h_powerMs h_powerNs h_restMs h_restNs h_p1 c_powerMs c_powerNs v_ahead v_behind v_ends v_lead v_round x2.toInt64 x3.toInt64 v_p1_a v_p1_b x2 x3 v_powerMs v_powerNs v_p1_a v_p1_b  o_1 hc_o_1) (cwV 1 hts gX5_spell_X5_highestPlace rfl rfl rfl (by decide +kernel) ⟨Nat.le_of_ble_eq_true rfl, Nat.le_of_ble_eq_true rfl⟩) hN (hK.sub (tys' := [(c_powerMs, .long), (c_powerNs, .long)]) [1, 2] rfl) hP hD hS hA [0, 2, 3, 6] rfl rfl rfl rfl 0 5 rfl rfl rfl rfl hl.1 (Nat.le_of_ble_eq_true rfl) dX5_spell_81 ⟨Nat.zero_le _, Nat.zero_le _⟩ (fun H locs hP hS => ?_)
    have hP : va_P (dC, dI) vwCl (wd_X5_spell h0 h_figures h_powerMs h_powerNs h_restMs h_restNs h_p1 c_figures c_powerMs c_powerNs c_restMs c_restNs v_ahead v_behind v_ends v_lead v_round x2.toInt64 x3.toInt64 v_p1_a v_p1_b x2 x3 v_figures o_1.2.1 o_1.2.2 v_restMs v_restNs v_p1_a v_p1_b) H := hP
    have hD : va_D A (wd_X5_spell h0 h_figures h_powerMs h_powerNs h_restMs h_restNs h_p1 c_figures c_powerMs c_powerNs c_restMs c_restNs v_ahead v_behind v_ends v_lead v_round x2.toInt64 x3.toInt64 v_p1_a v_p1_b x2 x3 v_figures o_1.2.1 o_1.2.2 v_restMs v_restNs v_p1_a v_p1_b) := va_D.re hD rfl
    obtain ⟨o_2, hc_o_2, hF⟩ := bd_s hF
    refine wrVv (wc' := (wd_X5_spellAhead h0 h_figures h_powerMs h_powerNs h_restMs h_restNs h_p1 c_figures c_powerMs c_powerNs o_2.1 v_behind v_ends v_lead v_round o_2.2.1 o_2.2.2.1 v_p1_a v_p1_b x2 x3 o_2.2.2.2 o_1.2.1 o_1.2.2 v_p1_a v_p1_b)) (As := [.ref h_p1, .int o_1.1]) (rest := []) (b := h0) hC (c_X5_spellAhead l dC dI H.size h0 h_figures h_powerMs h_powerNs h_restMs h_restNs h_p1 c_figures c_powerMs c_powerNs v_ahead v_behind v_ends v_lead v_round x2.toInt64 x3.toInt64 v_p1_a v_p1_b x2 x3 v_figures o_1.2.1 o_1.2.2 v_p1_a v_p1_b o_1.1 o_2 hc_o_2) (cwV 2 hts gX5_spell_X5_spellAhead rfl rfl rfl (by decide +kernel) ⟨Nat.le_of_ble_eq_true rfl, Nat.le_of_ble_eq_true rfl⟩) hN (hK.sub (tys' := [(c_figures, .int), (c_powerMs, .long), (c_powerNs, .long)]) [0, 1, 2] rfl) hP hD hS hA [0, 1, 2, 3, 6] rfl rfl rfl rfl 0 5 rfl rfl rfl rfl hl.1 (Nat.le_of_ble_eq_true rfl) dX5_spell_84 ⟨Nat.zero_le _, Nat.zero_le _⟩ (fun H locs hP hS => ?_)
    have hP : va_P (dC, dI) vwCl (wd_X5_spell h0 h_figures h_powerMs h_powerNs h_restMs h_restNs h_p1 c_figures c_powerMs c_powerNs c_restMs c_restNs o_2.1 v_behind v_ends v_lead v_round o_2.2.1 o_2.2.2.1 v_p1_a v_p1_b x2 x3 o_2.2.2.2 o_1.2.1 o_1.2.2 v_restMs v_restNs v_p1_a v_p1_b) H := hP
    have hD : va_D A (wd_X5_spell h0 h_figures h_powerMs h_powerNs h_restMs h_restNs h_p1 c_figures c_powerMs c_powerNs c_restMs c_restNs o_2.1 v_behind v_ends v_lead v_round o_2.2.1 o_2.2.2.1 v_p1_a v_p1_b x2 x3 o_2.2.2.2 o_1.2.1 o_1.2.2 v_restMs v_restNs v_p1_a v_p1_b) := va_D.re hD rfl
    refine lv_aload_n hx hb dX5_spell_87 rfl (lv_at hl 0 rfl) ?_
    refine lv_aload_n hx hb dX5_spell_88 rfl (lv_at hl 1 rfl) ?_
    obtain ⟨o_3, hc_o_3, hF⟩ := bd_s hF
    refine wrVv (wc' := (wd_X5_spellBehind h0 h_figures h_powerMs h_powerNs h_restMs h_restNs h_p1 c_figures c_restMs c_restNs o_2.1 o_3.1 o_3.2.1 o_3.2.2.1 o_3.2.2.2.1 o_3.2.2.2.2.1 o_3.2.2.2.2.2.1 v_p1_a v_p1_b x2 x3 o_3.2.2.2.2.2.2.1 o_3.2.2.2.2.2.2.2.1 o_3.2.2.2.2.2.2.2.2 v_p1_a v_p1_b)) (As := [.ref h_p1]) (rest := []) (b := h0) hC (c_X5_spellBehind l dC dI H.size h0 h_figures h_powerMs h_powerNs h_restMs h_restNs h_p1 c_figures c_restMs c_restNs o_2.1 v_behind v_ends v_lead v_round o_2.2.1 o_2.2.2.1 v_p1_a v_p1_b x2 x3 o_2.2.2.2 v_restMs v_restNs v_p1_a v_p1_b  o_3 hc_o_3) (cwV 1 hts gX5_spell_X5_spellBehind rfl rfl rfl (by decide +kernel) ⟨Nat.le_of_ble_eq_true rfl, Nat.le_of_ble_eq_true rfl⟩) hN (hK.sub (tys' := [(c_figures, .int), (c_restMs, .long), (c_restNs, .long)]) [0, 3, 4] rfl) hP hD hS hA [0, 1, 4, 5, 6] rfl rfl rfl rfl 0 5 rfl rfl rfl rfl hl.1 (Nat.le_of_ble_eq_true rfl) dX5_spell_89 ⟨Nat.zero_le _, Nat.zero_le _⟩ (fun H locs hP hS => ?_)
    have hP : va_P (dC, dI) vwCl (wd_X5_spell h0 h_figures h_powerMs h_powerNs h_restMs h_restNs h_p1 c_figures c_powerMs c_powerNs c_restMs c_restNs o_2.1 o_3.1 o_3.2.1 o_3.2.2.1 o_3.2.2.2.1 o_3.2.2.2.2.1 o_3.2.2.2.2.2.1 v_p1_a v_p1_b x2 x3 o_3.2.2.2.2.2.2.1 o_1.2.1 o_1.2.2 o_3.2.2.2.2.2.2.2.1 o_3.2.2.2.2.2.2.2.2 v_p1_a v_p1_b) H := hP
    have hD : va_D A (wd_X5_spell h0 h_figures h_powerMs h_powerNs h_restMs h_restNs h_p1 c_figures c_powerMs c_powerNs c_restMs c_restNs o_2.1 o_3.1 o_3.2.1 o_3.2.2.1 o_3.2.2.2.1 o_3.2.2.2.2.1 o_3.2.2.2.2.2.1 v_p1_a v_p1_b x2 x3 o_3.2.2.2.2.2.2.1 o_1.2.1 o_1.2.2 o_3.2.2.2.2.2.2.2.1 o_3.2.2.2.2.2.2.2.2 v_p1_a v_p1_b) := va_D.re hD rfl
    obtain ⟨rfl, rfl, rfl, rfl, rfl, rfl, rfl, rfl, rfl, rfl, rfl, rfl, rfl, rfl, rfl, rfl⟩ := oks16 hF; exact hE _ _ _ _ hP hS dX5_spell_92
  refine lv_aload_n hx hb dX5_spell_0 rfl (lv_at hl 0 rfl) ?_
  refine va_get (D := (dC, dI)) (ci := 5) (v := .int v_ofA) (C := RX5) (T := TX5) (N := 16) hx hb hts inn_X5_spell_X5 hown hK hP 0 rfl rfl 12 (by decide) (hts (.fieldLink RX5 52 "RingBases$Writing" "ofA" "I") (List.mem_of_getElem? (i := 1) rfl)) (fun _ h9 => h9) rfl dX5_spell_1 ?_
  refine lv_aload_n hx hb dX5_spell_4 rfl (lv_at hl 1 rfl) ?_
  refine va_getN (D := (dC, dI)) (ci := 0) (v := .int v_p1_a) (C := RX0) (T := TX0) (N := 2) hx hb hts inn_X5_spell_X0 hown hK hP 6 rfl rfl 0 (by decide) (va_Nw.use rfl (hN _ (List.mem_of_getElem? (i := 4) rfl))) (fun _ h9 => h9) rfl dX5_spell_5 ?_
  refine lv_icmp_ne (tgt := 39) hx hb dX5_spell_8 (by decide) (fun g_4 => ?_) (fun g_4 => ?_)
  · replace hF := ite_f g_4 hF
    exact k_39 v_ahead v_behind v_ends v_lead v_round v_leftM v_leftN v_ofA v_ofB v_ofM v_ofN v_figures v_powerMs v_powerNs v_restMs v_restNs hF H locs hP hS ls (lv_sub hl [0, 1, 2, 3] rfl)
  · replace hF := ite_t g_4 hF
    refine lv_aload_n hx hb dX5_spell_11 rfl (lv_at hl 0 rfl) ?_
    refine va_get (D := (dC, dI)) (ci := 5) (v := .int v_ofB) (C := RX5) (T := TX5) (N := 16) hx hb hts inn_X5_spell_X5 hown hK hP 0 rfl rfl 13 (by decide) (hts (.fieldLink RX5 55 "RingBases$Writing" "ofB" "I") (List.mem_of_getElem? (i := 2) rfl)) (fun _ h9 => h9) rfl dX5_spell_12 ?_
    refine lv_aload_n hx hb dX5_spell_15 rfl (lv_at hl 1 rfl) ?_
    refine va_getN (D := (dC, dI)) (ci := 0) (v := .int v_p1_b) (C := RX0) (T := TX0) (N := 2) hx hb hts inn_X5_spell_X0 hown hK hP 6 rfl rfl 1 (by decide) (va_Nw.use rfl (hN _ (List.mem_of_getElem? (i := 7) rfl))) (fun _ h9 => h9) rfl dX5_spell_16 ?_
    refine lv_icmp_ne (tgt := 39) hx hb dX5_spell_19 (by decide) (fun g_5 => ?_) (fun g_5 => ?_)
    · replace hF := ite_f g_5 hF
      exact k_39 v_ahead v_behind v_ends v_lead v_round v_leftM v_leftN v_ofA v_ofB v_ofM v_ofN v_figures v_powerMs v_powerNs v_restMs v_restNs hF H locs hP hS ls (lv_sub hl [0, 1, 2, 3] rfl)
    · replace hF := ite_t g_5 hF
      refine lv_aload_n hx hb dX5_spell_22 rfl (lv_at hl 0 rfl) ?_
      refine va_get (D := (dC, dI)) (ci := 5) (v := .int v_ofM) (C := RX5) (T := TX5) (N := 16) hx hb hts inn_X5_spell_X5 hown hK hP 0 rfl rfl 14 (by decide) (hts (.fieldLink RX5 58 "RingBases$Writing" "ofM" "I") (List.mem_of_getElem? (i := 3) rfl)) (fun _ h9 => h9) rfl dX5_spell_23 ?_
      refine lv_iload_n hx hb dX5_spell_26 rfl (lv_at hl 2 rfl) ?_
      refine lv_icmp_ne (tgt := 39) hx hb dX5_spell_27 (by decide) (fun g_6 => ?_) (fun g_6 => ?_)
      · replace hF := ite_f g_6 hF
        exact k_39 v_ahead v_behind v_ends v_lead v_round v_leftM v_leftN v_ofA v_ofB v_ofM v_ofN v_figures v_powerMs v_powerNs v_restMs v_restNs hF H locs hP hS ls (lv_sub hl [0, 1, 2, 3] rfl)
      · replace hF := ite_t g_6 hF
        refine lv_aload_n hx hb dX5_spell_30 rfl (lv_at hl 0 rfl) ?_
        refine va_get (D := (dC, dI)) (ci := 5) (v := .int v_ofN) (C := RX5) (T := TX5) (N := 16) hx hb hts inn_X5_spell_X5 hown hK hP 0 rfl rfl 15 (by decide) (hts (.fieldLink RX5 61 "RingBases$Writing" "ofN" "I") (List.mem_of_getElem? (i := 4) rfl)) (fun _ h9 => h9) rfl dX5_spell_31 ?_
        refine lv_iload_n hx hb dX5_spell_34 rfl (lv_at hl 3 rfl) ?_
        refine lv_icmp_ne (tgt := 39) hx hb dX5_spell_35 (by decide) (fun g_7 => ?_) (fun g_7 => ?_)
        · replace hF := ite_f g_7 hF
          exact k_39 v_ahead v_behind v_ends v_lead v_round v_leftM v_leftN v_ofA v_ofB v_ofM v_ofN v_figures v_powerMs v_powerNs v_restMs v_restNs hF H locs hP hS ls (lv_sub hl [0, 1, 2, 3] rfl)
        · replace hF := ite_t g_7 hF
          obtain ⟨rfl, rfl, rfl, rfl, rfl, rfl, rfl, rfl, rfl, rfl, rfl, rfl, rfl, rfl, rfl, rfl⟩ := oks16 hF; exact hE _ _ _ _ hP hS dX5_spell_38
set_option maxRecDepth 100000 in
set_option maxHeartbeats 4000000 in
theorem c_X5_spell (l : Launch) (dC : Nat → ClassId) (dI : Nat → Nat → Nat) (sz : Nat) (h0 h_figures h_powerMs h_powerNs h_restMs h_restNs h_p1 : Nat) (c_figures c_powerMs c_powerNs c_restMs c_restNs : ClassId) (v_ahead : Int32) (v_behind : Int32) (v_ends : Int32) (v_lead : Int32) (v_round : Int32) (v_leftM : Int64) (v_leftN : Int64) (v_ofA : Int32) (v_ofB : Int32) (v_ofM : Int32) (v_ofN : Int32) (v_figures : (Nat → Int32)) (v_powerMs : (Nat → Int64)) (v_powerNs : (Nat → Int64)) (v_restMs : (Nat → Int64)) (v_restNs : (Nat → Int64)) (v_p1_a : Int32) (v_p1_b : Int32) (x2 : Int32) (x3 : Int32) (o : Int32 × Int32 × Int32 × Int32 × Int32 × Int64 × Int64 × Int32 × Int32 × Int32 × Int32 × (Nat → Int32) × (Nat → Int64) × (Nat → Int64) × (Nat → Int64) × (Nat → Int64)) (hF : F_X5_spell x2 x3 v_ahead v_behind v_ends v_lead v_round v_leftM v_leftN v_ofA v_ofB v_ofM v_ofN v_figures v_powerMs v_powerNs v_restMs v_restNs v_p1_a v_p1_b = some o) : Met l yX5_spell wsX5_spell rm_X5_spell (va_Pc [.ref h0, .ref h_p1, .int x2, .int x3] (PcW dC dI sz (wd_X5_spell h0 h_figures h_powerMs h_powerNs h_restMs h_restNs h_p1 c_figures c_powerMs c_powerNs c_restMs c_restNs v_ahead v_behind v_ends v_lead v_round v_leftM v_leftN v_ofA v_ofB v_ofM v_ofN v_figures v_powerMs v_powerNs v_restMs v_restNs v_p1_a v_p1_b) [(c_figures, .int), (c_powerMs, .long), (c_powerNs, .long), (c_restMs, .long), (c_restNs, .long)])) (va_Qv (fun (_ : Unit) => True) (fun _ t => va_P (dC, dI) vwCl (wd_X5_spell h0 h_figures h_powerMs h_powerNs h_restMs h_restNs h_p1 c_figures c_powerMs c_powerNs c_restMs c_restNs o.1 o.2.1 o.2.2.1 o.2.2.2.1 o.2.2.2.2.1 o.2.2.2.2.2.1 o.2.2.2.2.2.2.1 o.2.2.2.2.2.2.2.1 o.2.2.2.2.2.2.2.2.1 o.2.2.2.2.2.2.2.2.2.1 o.2.2.2.2.2.2.2.2.2.2.1 o.2.2.2.2.2.2.2.2.2.2.2.1 o.2.2.2.2.2.2.2.2.2.2.2.2.1 o.2.2.2.2.2.2.2.2.2.2.2.2.2.1 o.2.2.2.2.2.2.2.2.2.2.2.2.2.2.1 o.2.2.2.2.2.2.2.2.2.2.2.2.2.2.2 v_p1_a v_p1_b) t.heap) (va_A (wd_X5_spell h0 h_figures h_powerMs h_powerNs h_restMs h_restNs h_p1 c_figures c_powerMs c_powerNs c_restMs c_restNs v_ahead v_behind v_ends v_lead v_round v_leftM v_leftN v_ofA v_ofB v_ofM v_ofN v_figures v_powerMs v_powerNs v_restMs v_restNs v_p1_a v_p1_b) sz)) 0 0 (va_A (wd_X5_spell h0 h_figures h_powerMs h_powerNs h_restMs h_restNs h_p1 c_figures c_powerMs c_powerNs c_restMs c_restNs v_ahead v_behind v_ends v_lead v_round v_leftM v_leftN v_ofA v_ofB v_ofM v_ofN v_figures v_powerMs v_powerNs v_restMs v_restNs v_p1_a v_p1_b) sz) := by
  refine Met.ofW (cc := cX5_spell) (maxL := 4) (ret := none) (by decide) rfl ?_
  intro p e s m args below meth c s₁ B hml hv
  obtain ⟨rfl, hsz, hP, hK, hD0, hN⟩ := hv
  subst hsz
  have hl := lv_entry ([.ref h0, .ref h_p1, .int x2, .int x3]) (n := 4) (Nat.le_of_ble_eq_true rfl)
  rw [lg_entry_eq]
  generalize (lg_sl ([.ref h0, .ref h_p1, .int x2, .int x3]) ++ List.replicate (4 - (lg_sl ([.ref h0, .ref h_p1, .int x2, .int x3])).length) Slot.unset).toArray = ls at hl ⊢
  exact b_X5_spell h0 h_figures h_powerMs h_powerNs h_restMs h_restNs h_p1 c_figures c_powerMs c_powerNs c_restMs c_restNs v_ahead v_behind v_ends v_lead v_round v_leftM v_leftN v_ofA v_ofB v_ofM v_ofN v_figures v_powerMs v_powerNs v_restMs v_restNs v_p1_a v_p1_b x2 x3 o.1 o.2.1 o.2.2.1 o.2.2.2.1 o.2.2.2.2.1 o.2.2.2.2.2.1 o.2.2.2.2.2.2.1 o.2.2.2.2.2.2.2.1 o.2.2.2.2.2.2.2.2.1 o.2.2.2.2.2.2.2.2.2.1 o.2.2.2.2.2.2.2.2.2.2.1 o.2.2.2.2.2.2.2.2.2.2.2.1 o.2.2.2.2.2.2.2.2.2.2.2.2.1 o.2.2.2.2.2.2.2.2.2.2.2.2.2.1 o.2.2.2.2.2.2.2.2.2.2.2.2.2.2.1 o.2.2.2.2.2.2.2.2.2.2.2.2.2.2.2 hF ⟨B.exec, B.bytes, hml, findClass_of_methodNamed B.named, atoms_spec (ws := wsX5_spell) B.pre⟩ hN hK hP (fun q h => Or.inr h) (hD0.self (sz := s.heap.size)) va_S.rf (fun H locs ls pc hP hS hd => W.vret B.exec B.bytes B.returns (fun t ht hW => ⟨⟨(), rfl, trivial, by show va_P (dC, dI) vwCl _ t.heap; rw [ht]; exact hP⟩, hS.F ht⟩) hS.2.2 hd B.notSynchronized) hl
theorem inn_X5_tell_X5 : ∀ w ∈ wsX50, w ∈ wsX5_tell := fun _ h => List.mem_cons_of_mem _ (List.mem_append_right _ h)
abbrev wd_X5_tell (h0 h_figures h_powerMs h_powerNs h_restMs h_restNs : Nat) (v_ahead : Int32) (v_behind : Int32) (v_ends : Int32) (v_lead : Int32) (v_round : Int32) (v_leftM : Int64) (v_leftN : Int64) (v_ofA : Int32) (v_ofB : Int32) (v_ofM : Int32) (v_ofN : Int32) : va_W := [(h0, .inr (5, [.ref h_figures, .int v_ahead, .int v_behind, .int v_ends, .int v_lead, .int v_round, .ref h_powerMs, .ref h_powerNs, .ref h_restMs, .ref h_restNs, .long v_leftM, .long v_leftN, .int v_ofA, .int v_ofB, .int v_ofM, .int v_ofN]))]
abbrev rm_X5_tell : Room := { frames := 0, cells := 0, slots := 0, locals := 0 }
def F_X5_tell (x1 : Int32) (v_ahead : Int32) (v_behind : Int32) (v_ends : Int32) (v_lead : Int32) (v_round : Int32) : Int32 := (if x1 = (3 : Int32) then v_ahead else (if x1 = (4 : Int32) then v_behind else (if x1 = (5 : Int32) then (if v_ends = 0 then (0 : Int32) else (1 : Int32)) else (if x1 = (6 : Int32) then v_lead else v_round))))
set_option maxRecDepth 100000 in
set_option maxHeartbeats 4000000 in
theorem b_X5_tell {p : Program} {l : Launch} {e : Env} {s : State} {m : MethodId} {args : Array Value} {below : List Frame} {meth : Method} {c : Code} {Q : State → Prop} {dC : Nat → ClassId} {dI : Nat → Nat → Nat} {H : Heap} {locs : List Loc} {ls : Array Slot} (h0 h_figures h_powerMs h_powerNs h_restMs h_restNs : Nat) (v_ahead : Int32) (v_behind : Int32) (v_ends : Int32) (v_lead : Int32) (v_round : Int32) (v_leftM : Int64) (v_leftN : Int64) (v_ofA : Int32) (v_ofB : Int32) (v_ofM : Int32) (v_ofN : Int32) (x1 : Int32) (ou0 : Int32) (hF : F_X5_tell x1 v_ahead v_behind v_ends v_lead v_round = ou0) (hC : CallFix p m c cX5_tell 2 s args wsX5_tell RX5) (hN : NW s) (hK : va_K (dC, dI) vwCl [] s) (hP : va_P (dC, dI) vwCl (wd_X5_tell h0 h_figures h_powerMs h_powerNs h_restMs h_restNs v_ahead v_behind v_ends v_lead v_round v_leftM v_leftN v_ofA v_ofB v_ofM v_ofN) H) (hE : ∀ (ls : Array Slot) (pc : Nat), decode cX5_tell pc = .ok (.ireturn, 1) → W p l e rm_X5_tell s m args below meth c H locs 0 0 Q (F0 m pc ls [.int ou0])) (hl : lv_has ls 2 [(0, .ref h0), (1, .int x1)]) : W p l e rm_X5_tell s m args below meth c H locs 0 0 Q (F0 m 0 ls []) := by
  obtain ⟨hx, hb, hml, hown, hts⟩ := id hC
  unfold F_X5_tell at hF
  refine lv_iload_n hx hb dX5_tell_0 rfl (lv_at hl 1 rfl) ?_
  by_cases g_1 : x1 = (3 : Int32)
  · replace hF := ite_t g_1 hF
    refine lv_tableIn (tgt := 32) hx hb dX5_tell_1 (by rw [g_1]; decide) (by rw [g_1]; decide) (by rw [g_1]; rfl) (by decide) ?_
    refine lv_aload_n hx hb dX5_tell_32 rfl (lv_at hl 0 rfl) ?_
    refine va_get (D := (dC, dI)) (ci := 5) (v := .int v_ahead) (C := RX5) (T := TX5) (N := 16) hx hb hts inn_X5_tell_X5 hown hK hP 0 rfl rfl 1 (by decide) (hts (.fieldLink RX5 15 "RingBases$Writing" "ahead" "I") (List.mem_of_getElem? (i := 1) rfl)) (fun _ h9 => h9) rfl dX5_tell_33 ?_
    obtain rfl := hF; exact hE _ _ dX5_tell_36
  · replace hF := ite_f g_1 hF
    by_cases g_2 : x1 = (4 : Int32)
    · replace hF := ite_t g_2 hF
      refine lv_tableIn (tgt := 37) hx hb dX5_tell_1 (by rw [g_2]; decide) (by rw [g_2]; decide) (by rw [g_2]; rfl) (by decide) ?_
      refine lv_aload_n hx hb dX5_tell_37 rfl (lv_at hl 0 rfl) ?_
      refine va_get (D := (dC, dI)) (ci := 5) (v := .int v_behind) (C := RX5) (T := TX5) (N := 16) hx hb hts inn_X5_tell_X5 hown hK hP 0 rfl rfl 2 (by decide) (hts (.fieldLink RX5 19 "RingBases$Writing" "behind" "I") (List.mem_of_getElem? (i := 2) rfl)) (fun _ h9 => h9) rfl dX5_tell_38 ?_
      obtain rfl := hF; exact hE _ _ dX5_tell_41
    · replace hF := ite_f g_2 hF
      by_cases g_3 : x1 = (5 : Int32)
      · replace hF := ite_t g_3 hF
        refine lv_tableIn (tgt := 42) hx hb dX5_tell_1 (by rw [g_3]; decide) (by rw [g_3]; decide) (by rw [g_3]; rfl) (by decide) ?_
        refine lv_aload_n hx hb dX5_tell_42 rfl (lv_at hl 0 rfl) ?_
        refine va_get (D := (dC, dI)) (ci := 5) (v := .int v_ends) (C := RX5) (T := TX5) (N := 16) hx hb hts inn_X5_tell_X5 hown hK hP 0 rfl rfl 3 (by decide) (hts (.fieldLink RX5 22 "RingBases$Writing" "ends" "Z") (List.mem_of_getElem? (i := 3) rfl)) (fun _ h9 => h9) rfl dX5_tell_43 ?_
        refine lv_if_eq (tgt := 53) hx hb dX5_tell_46 (by decide) (fun g_4 => ?_) (fun g_4 => ?_)
        · replace hF := ite_t g_4 hF
          refine lv_iconst (v := (0 : Int32)) hx hb dX5_tell_53 (by decide) ?_
          obtain rfl := hF; exact hE _ _ dX5_tell_54
        · replace hF := ite_f g_4 hF
          refine lv_iconst (v := (1 : Int32)) hx hb dX5_tell_49 (by decide) ?_
          refine lv_goto (tgt := 54) hx hb dX5_tell_50 (by decide) ?_
          obtain rfl := hF; exact hE _ _ dX5_tell_54
      · replace hF := ite_f g_3 hF
        by_cases g_5 : x1 = (6 : Int32)
        · replace hF := ite_t g_5 hF
          refine lv_tableIn (tgt := 55) hx hb dX5_tell_1 (by rw [g_5]; decide) (by rw [g_5]; decide) (by rw [g_5]; rfl) (by decide) ?_
          refine lv_aload_n hx hb dX5_tell_55 rfl (lv_at hl 0 rfl) ?_
          refine va_get (D := (dC, dI)) (ci := 5) (v := .int v_lead) (C := RX5) (T := TX5) (N := 16) hx hb hts inn_X5_tell_X5 hown hK hP 0 rfl rfl 4 (by decide) (hts (.fieldLink RX5 26 "RingBases$Writing" "lead" "I") (List.mem_of_getElem? (i := 4) rfl)) (fun _ h9 => h9) rfl dX5_tell_56 ?_
          obtain rfl := hF; exact hE _ _ dX5_tell_59
        · replace hF := ite_f g_5 hF
          have tg_1 := lv_neT g_1 (a := 3) (by decide)
          have tg_2 := lv_neT g_2 (a := 4) (by decide)
          have tg_3 := lv_neT g_3 (a := 5) (by decide)
          have tg_5 := lv_neT g_5 (a := 6) (by decide)
          refine lv_tableOut (tgt := 60) hx hb dX5_tell_1 (by omega) (by decide) ?_
          refine lv_aload_n hx hb dX5_tell_60 rfl (lv_at hl 0 rfl) ?_
          refine va_get (D := (dC, dI)) (ci := 5) (v := .int v_round) (C := RX5) (T := TX5) (N := 16) hx hb hts inn_X5_tell_X5 hown hK hP 0 rfl rfl 5 (by decide) (hts (.fieldLink RX5 29 "RingBases$Writing" "round" "I") (List.mem_of_getElem? (i := 5) rfl)) (fun _ h9 => h9) rfl dX5_tell_61 ?_
          obtain rfl := hF; exact hE _ _ dX5_tell_64
set_option maxRecDepth 100000 in
set_option maxHeartbeats 4000000 in
theorem c_X5_tell (l : Launch) (dC : Nat → ClassId) (dI : Nat → Nat → Nat) (h0 h_figures h_powerMs h_powerNs h_restMs h_restNs : Nat) (v_ahead : Int32) (v_behind : Int32) (v_ends : Int32) (v_lead : Int32) (v_round : Int32) (v_leftM : Int64) (v_leftN : Int64) (v_ofA : Int32) (v_ofB : Int32) (v_ofM : Int32) (v_ofN : Int32) (x1 : Int32) (o : Int32) (hF : F_X5_tell x1 v_ahead v_behind v_ends v_lead v_round = o) : Met l yX5_tell wsX5_tell rm_X5_tell (va_Pc [.ref h0, .int x1] (PcR dC dI (wd_X5_tell h0 h_figures h_powerMs h_powerNs h_restMs h_restNs v_ahead v_behind v_ends v_lead v_round v_leftM v_leftN v_ofA v_ofB v_ofM v_ofN) [])) (vp_Si (fun r => r = o)) 0 0 (fun _ => False) := by
  refine Met.ofW (cc := cX5_tell) (maxL := 2) (ret := (some .int)) (by decide) rfl ?_
  intro p e s m args below meth c s₁ B hml hv
  obtain ⟨rfl, hP, hK, hN⟩ := hv
  have hl := lv_entry ([.ref h0, .int x1]) (n := 2) (Nat.le_of_ble_eq_true rfl)
  rw [lg_entry_eq]
  generalize (lg_sl ([.ref h0, .int x1]) ++ List.replicate (2 - (lg_sl ([.ref h0, .int x1])).length) Slot.unset).toArray = ls at hl ⊢
  exact b_X5_tell h0 h_figures h_powerMs h_powerNs h_restMs h_restNs v_ahead v_behind v_ends v_lead v_round v_leftM v_leftN v_ofA v_ofB v_ofM v_ofN x1 o hF ⟨B.exec, B.bytes, hml, findClass_of_methodNamed B.named, atoms_spec (ws := wsX5_tell) B.pre⟩ hN hK hP (fun ls pc hd => W.iret B.exec B.bytes B.returns (fun t ht hW => ⟨_, rfl, rfl, ht⟩) (fun q h => by cases h) hd B.notSynchronized) hl
