theorem inn_X7_layWorth_X7 : ∀ w ∈ wsX70, w ∈ wsX7_layWorth := fun _ h => List.mem_cons_of_mem _ (List.mem_append_right _ h)
abbrev wd_X7_layWorth (h0 h_w h_word h_ahead h_behind h_restM h_restN h_powerM h_powerN h_row : Nat) (c_w c_word c_row : ClassId) (v_known : Int32) (v_kept : Int32) (v_size : Int32) (v_high : Int32) (v_behindMany : Int32) (v_ends : Int32) (v_lead : Int32) (v_round : Int32) (v_worthM : Int64) (v_worthN : Int64) (v_w : (Nat → Int32)) (v_word : (Nat → Int32)) (v_row : (Nat → Int32)) : va_W := [(h0, .inr (7, [.ref h_w, .int v_known, .int v_kept, .ref h_word, .int v_size, .ref h_ahead, .int v_high, .ref h_behind, .int v_behindMany, .ref h_restM, .ref h_restN, .ref h_powerM, .ref h_powerN, .int v_ends, .int v_lead, .int v_round, .ref h_row, .long v_worthM, .long v_worthN])), (h_w, .inl (c_w, 110, .inl v_w)), (h_word, .inl (c_word, 60, .inl v_word)), (h_row, .inl (c_row, 60, .inl v_row))]
abbrev rm_X7_layWorth : Room := { frames := 1, cells := 0, slots := 0, locals := 25 }
def F_X7_layWorth_18 (v_size : Int32) (v_w : (Nat → Int32)) (v_word : (Nat → Int32)) : Nat → Int32 → Int32 → Int64 → Int64 → (Nat → Int32) → Option (Int32 × Int64 × Int64 × (Nat → Int32))
  | 0, _, _, _, _, _ => none
  | fu + 1, x1, x2, v_worthM, v_worthN, v_row => ((F_X7_figures v_size v_word).bind fun o_1 => (if o_1 ≤ x2 then (zk x1 (some (x1, v_worthM, v_worthN, v_row))) else (if x1 = 0 then (zk x1 (some (x1, v_worthM, v_worthN, v_row))) else (ck x2 60 (if (F_X7_in ((v_worthN * (v_w (1 : Int32).toNatClampNeg).toInt64) + (v_row x2.toNatClampNeg).toInt64) (-999999 : Int64) (999999 : Int64)) = 0 then (F_X7_layWorth_18 v_size v_w v_word fu (0 : Int32) (x2 + (1 : Int32)) ((v_worthN * (v_w (1 : Int32).toNatClampNeg).toInt64) + (v_row x2.toNatClampNeg).toInt64) (v_worthM + (v_worthN * (v_w (0 : Int32).toNatClampNeg).toInt64)) v_row) else (if (F_X7_in (v_worthM + (v_worthN * (v_w (0 : Int32).toNatClampNeg).toInt64)) (-999999 : Int64) (999999 : Int64)) = 0 then (F_X7_layWorth_18 v_size v_w v_word fu (0 : Int32) (x2 + (1 : Int32)) ((v_worthN * (v_w (1 : Int32).toNatClampNeg).toInt64) + (v_row x2.toNatClampNeg).toInt64) (v_worthM + (v_worthN * (v_w (0 : Int32).toNatClampNeg).toInt64)) v_row) else (F_X7_layWorth_18 v_size v_w v_word fu (1 : Int32) (x2 + (1 : Int32)) ((v_worthN * (v_w (1 : Int32).toNatClampNeg).toInt64) + (v_row x2.toNatClampNeg).toInt64) (v_worthM + (v_worthN * (v_w (0 : Int32).toNatClampNeg).toInt64)) v_row)))))))
def F_X7_layWorth (v_size : Int32) (v_w : (Nat → Int32)) (v_word : (Nat → Int32)) (v_row : (Nat → Int32)) : Option (Int32 × Int64 × Int64 × (Nat → Int32)) := ((F_X7_layRow v_size v_word v_row).bind fun o_9 => (F_X7_layWorth_18  v_size v_w v_word 128 (1 : Int32) (0 : Int32) (0 : Int64) (0 : Int64) o_9))
set_option maxRecDepth 100000 in
set_option maxHeartbeats 4000000 in
theorem b_X7_layWorth {p : Program} {l : Launch} {e : Env} {s : State} {m : MethodId} {args : Array Value} {below : List Frame} {meth : Method} {c : Code} {Q : State → Prop} {dC : Nat → ClassId} {dI : Nat → Nat → Nat} {H : Heap} {locs : List Loc} {ls : Array Slot} {A : Nat → Prop} (h0 h_w h_word h_ahead h_behind h_restM h_restN h_powerM h_powerN h_row : Nat) (c_w c_word c_row : ClassId) (v_known : Int32) (v_kept : Int32) (v_size : Int32) (v_high : Int32) (v_behindMany : Int32) (v_ends : Int32) (v_lead : Int32) (v_round : Int32) (v_worthM : Int64) (v_worthN : Int64) (v_w : (Nat → Int32)) (v_word : (Nat → Int32)) (v_row : (Nat → Int32)) (ou0 : Int32) (ou1 : Int64) (ou2 : Int64) (ou3 : (Nat → Int32)) (hF : F_X7_layWorth v_size v_w v_word v_row = some (ou0, ou1, ou2, ou3)) (hC : CallFix p m c cX7_layWorth 5 s args wsX7_layWorth RX7) (hN : NW s) (hK : va_K (dC, dI) vwCl [(c_w, .int), (c_word, .int), (c_row, .int)] s) (hP : va_P (dC, dI) vwCl (wd_X7_layWorth h0 h_w h_word h_ahead h_behind h_restM h_restN h_powerM h_powerN h_row c_w c_word c_row v_known v_kept v_size v_high v_behindMany v_ends v_lead v_round v_worthM v_worthN v_w v_word v_row) H) (hA : ∀ q, s.heap.size ≤ q → A q) (hD : va_D A (wd_X7_layWorth h0 h_w h_word h_ahead h_behind h_restM h_restN h_powerM h_powerN h_row c_w c_word c_row v_known v_kept v_size v_high v_behindMany v_ends v_lead v_round v_worthM v_worthN v_w v_word v_row)) (hS : va_S A s.heap H locs) (hE : ∀ (H : Heap) (locs : List Loc) (ls : Array Slot) (pc : Nat), va_P (dC, dI) vwCl (wd_X7_layWorth h0 h_w h_word h_ahead h_behind h_restM h_restN h_powerM h_powerN h_row c_w c_word c_row v_known v_kept v_size v_high v_behindMany v_ends v_lead v_round ou1 ou2 v_w v_word ou3) H → va_S A s.heap H locs → narrow .boolean (.int ou0) = .int ou0 → decode cX7_layWorth pc = .ok (.ireturn, 1) → W p l e rm_X7_layWorth s m args below meth c H locs 0 0 Q (F0 m pc ls [.int ou0])) (hl : lv_has ls 5 [(0, .ref h0)]) : W p l e rm_X7_layWorth s m args below meth c H locs 0 0 Q (F0 m 0 ls []) := by
  obtain ⟨hx, hb, hml, hown, hts⟩ := id hC
  have hD0 := hD
  unfold F_X7_layWorth at hF
  have k_18 : ∀ (fu_18 : Nat) (x1 : Int32) (x2 : Int32) (v_worthM : Int64) (v_worthN : Int64) (v_row : (Nat → Int32)), F_X7_layWorth_18  v_size v_w v_word fu_18 x1 x2 v_worthM v_worthN v_row = some (ou0, ou1, ou2, ou3) → ∀ (H : Heap) (locs : List Loc), va_P (dC, dI) vwCl (wd_X7_layWorth h0 h_w h_word h_ahead h_behind h_restM h_restN h_powerM h_powerN h_row c_w c_word c_row v_known v_kept v_size v_high v_behindMany v_ends v_lead v_round v_worthM v_worthN v_w v_word v_row) H → va_S A s.heap H locs → ∀ ls : Array Slot, lv_has ls 5 [(0, .ref h0), (1, .int x1), (2, .int x2)] → W p l e rm_X7_layWorth s m args below meth c H locs 0 0 Q (F0 m 18 ls []) := by
    intro fu_18
    induction fu_18 with
    | zero => intro x1 x2 v_worthM v_worthN v_row hF; rw [F_X7_layWorth_18] at hF; cases hF
    | succ fu_18 ih =>
      intro x1 x2 v_worthM v_worthN v_row hF H locs hP hS ls hl
      rw [F_X7_layWorth_18] at hF
      have ih_18 := ih
      have hD : va_D A (wd_X7_layWorth h0 h_w h_word h_ahead h_behind h_restM h_restN h_powerM h_powerN h_row c_w c_word c_row v_known v_kept v_size v_high v_behindMany v_ends v_lead v_round v_worthM v_worthN v_w v_word v_row) := hD0.re rfl
      refine lv_iload_n hx hb dX7_layWorth_18 rfl (lv_at hl 2 rfl) ?_
      refine lv_aload_n hx hb dX7_layWorth_19 rfl (lv_at hl 0 rfl) ?_
      obtain ⟨o_1, hc_o_1, hF⟩ := bd_s hF
      refine rdVi (As := []) (rest := [.int x2]) (b := h0) hC (c_X7_figures l dC dI h0 h_w h_word h_ahead h_behind h_restM h_restN h_powerM h_powerN h_row c_word v_known v_kept v_size v_high v_behindMany v_ends v_lead v_round v_worthM v_worthN v_word  o_1 hc_o_1) (cwV 0 hts gX7_layWorth_X7_figures rfl rfl rfl (by decide +kernel) ⟨Nat.le_of_ble_eq_true rfl, Nat.le_of_ble_eq_true rfl⟩) hN (hK.sub (tys' := [(c_word, .int)]) [1] rfl) (hP.sub (ws' := (wd_X7_figures h0 h_w h_word h_ahead h_behind h_restM h_restN h_powerM h_powerN h_row c_word v_known v_kept v_size v_high v_behindMany v_ends v_lead v_round v_worthM v_worthN v_word)) [0, 2] rfl) 0 7 rfl rfl rfl rfl hl.1 (Nat.le_of_ble_eq_true rfl) dX7_layWorth_20 ⟨Nat.zero_le _, Nat.zero_le _⟩ ?_
      refine lv_icmp_ge (tgt := 121) hx hb dX7_layWorth_23 (by decide) (fun g_2 => ?_) (fun g_2 => ?_)
      · replace hF := ite_t g_2 hF
        refine lv_iload_n hx hb dX7_layWorth_121 rfl (lv_at hl 1 rfl) ?_
        obtain ⟨z_3, hF⟩ := zk_s hF
        obtain ⟨rfl, rfl, rfl, rfl⟩ := oks4 hF; exact hE _ _ _ _ hP hS (zk_n z_3) dX7_layWorth_122
      · replace hF := ite_f g_2 hF
        refine lv_iload_n hx hb dX7_layWorth_26 rfl (lv_at hl 1 rfl) ?_
        refine lv_if_eq (tgt := 121) hx hb dX7_layWorth_27 (by decide) (fun g_4 => ?_) (fun g_4 => ?_)
        · replace hF := ite_t g_4 hF
          refine lv_iload_n hx hb dX7_layWorth_121 rfl (lv_at hl 1 rfl) ?_
          obtain ⟨z_5, hF⟩ := zk_s hF
          obtain ⟨rfl, rfl, rfl, rfl⟩ := oks4 hF; exact hE _ _ _ _ hP hS (zk_n z_5) dX7_layWorth_122
        · replace hF := ite_f g_4 hF
          refine lv_aload_n hx hb dX7_layWorth_30 rfl (lv_at hl 0 rfl) ?_
          refine va_get (D := (dC, dI)) (ci := 7) (v := .long v_worthN) (C := RX7) (T := TX7) (N := 19) hx hb hts inn_X7_layWorth_X7 hown hK hP 0 rfl rfl 18 (by decide) (hts (.fieldLink RX7 124 "RingBasesModel" "worthN" "J") (List.mem_of_getElem? (i := 2) rfl)) (fun _ h9 => h9) rfl dX7_layWorth_31 ?_
          refine lv_aload_n hx hb dX7_layWorth_34 rfl (lv_at hl 0 rfl) ?_
          refine va_get (D := (dC, dI)) (ci := 7) (v := .ref h_w) (C := RX7) (T := TX7) (N := 19) hx hb hts inn_X7_layWorth_X7 hown hK hP 0 rfl rfl 0 (by decide) (hts (.fieldLink RX7 7 "RingBasesModel" "w" "[I") (List.mem_of_getElem? (i := 3) rfl)) (fun _ h9 => h9) rfl dX7_layWorth_35 ?_
          refine lv_iconst (v := (1 : Int32)) hx hb dX7_layWorth_38 (by decide) ?_
          refine va_iald hx hb hK hP 1 0 rfl rfl (by unfold vp_in; decide) dX7_layWorth_39 ?_
          refine lv_i2l hx hb dX7_layWorth_40 rfl ?_
          refine lv_lmul hx hb dX7_layWorth_41 ?_
          refine lv_aload_n hx hb dX7_layWorth_42 rfl (lv_at hl 0 rfl) ?_
          refine va_get (D := (dC, dI)) (ci := 7) (v := .ref h_row) (C := RX7) (T := TX7) (N := 19) hx hb hts inn_X7_layWorth_X7 hown hK hP 0 rfl rfl 16 (by decide) (hts (.fieldLink RX7 35 "RingBasesModel" "row" "[I") (List.mem_of_getElem? (i := 4) rfl)) (fun _ h9 => h9) rfl dX7_layWorth_43 ?_
          refine lv_iload_n hx hb dX7_layWorth_46 rfl (lv_at hl 2 rfl) ?_
          obtain ⟨i_6, hF⟩ := ck_s hF
          refine va_iald hx hb hK hP 3 2 rfl rfl i_6 dX7_layWorth_47 ?_
          refine lv_i2l hx hb dX7_layWorth_48 rfl ?_
          refine lv_ladd hx hb dX7_layWorth_49 ?_
          refine lv_lstore_n (lv' := [(3, .long ((v_worthN * (v_w (1 : Int32).toNatClampNeg).toInt64) + (v_row x2.toNatClampNeg).toInt64)), (0, .ref h0), (1, .int x1), (2, .int x2)]) hx hb dX7_layWorth_50 rfl hl (by decide) rfl (fun ls hl => ?_)
          refine lv_aload_n hx hb dX7_layWorth_51 rfl (lv_at hl 1 rfl) ?_
          refine lv_aload_n hx hb dX7_layWorth_52 rfl (lv_at hl 1 rfl) ?_
          refine va_get (D := (dC, dI)) (ci := 7) (v := .long v_worthM) (C := RX7) (T := TX7) (N := 19) hx hb hts inn_X7_layWorth_X7 hown hK hP 0 rfl rfl 17 (by decide) (hts (.fieldLink RX7 120 "RingBasesModel" "worthM" "J") (List.mem_of_getElem? (i := 1) rfl)) (fun _ h9 => h9) rfl dX7_layWorth_53 ?_
          refine lv_aload_n hx hb dX7_layWorth_56 rfl (lv_at hl 1 rfl) ?_
          refine va_get (D := (dC, dI)) (ci := 7) (v := .long v_worthN) (C := RX7) (T := TX7) (N := 19) hx hb hts inn_X7_layWorth_X7 hown hK hP 0 rfl rfl 18 (by decide) (hts (.fieldLink RX7 124 "RingBasesModel" "worthN" "J") (List.mem_of_getElem? (i := 2) rfl)) (fun _ h9 => h9) rfl dX7_layWorth_57 ?_
          refine lv_aload_n hx hb dX7_layWorth_60 rfl (lv_at hl 1 rfl) ?_
          refine va_get (D := (dC, dI)) (ci := 7) (v := .ref h_w) (C := RX7) (T := TX7) (N := 19) hx hb hts inn_X7_layWorth_X7 hown hK hP 0 rfl rfl 0 (by decide) (hts (.fieldLink RX7 7 "RingBasesModel" "w" "[I") (List.mem_of_getElem? (i := 3) rfl)) (fun _ h9 => h9) rfl dX7_layWorth_61 ?_
          refine lv_iconst (v := (0 : Int32)) hx hb dX7_layWorth_64 (by decide) ?_
          refine va_iald hx hb hK hP 1 0 rfl rfl (by unfold vp_in; decide) dX7_layWorth_65 ?_
          refine lv_i2l hx hb dX7_layWorth_66 rfl ?_
          refine lv_lmul hx hb dX7_layWorth_67 ?_
          refine lv_ladd hx hb dX7_layWorth_68 ?_
          refine va_put (D := (dC, dI)) (ty := .long) (ci := 7) (v := .long (v_worthM + (v_worthN * (v_w (0 : Int32).toNatClampNeg).toInt64))) (C := RX7) (T := TX7) (N := 19) hx hb hts inn_X7_layWorth_X7 tyX7 tyX7_ok nmX7 hown hK hP hD hS 0 rfl rfl 18 (by decide) (hts (.fieldLink RX7 124 "RingBasesModel" "worthN" "J") (List.mem_of_getElem? (i := 2) rfl)) (fun _ h9 => h9) rfl (by decide +kernel) rfl rfl (Nat.le_of_ble_eq_true rfl) dX7_layWorth_69 (fun H locs hP hD hS => ?_)
          have hP : va_P (dC, dI) vwCl (wd_X7_layWorth h0 h_w h_word h_ahead h_behind h_restM h_restN h_powerM h_powerN h_row c_w c_word c_row v_known v_kept v_size v_high v_behindMany v_ends v_lead v_round v_worthM (v_worthM + (v_worthN * (v_w (0 : Int32).toNatClampNeg).toInt64)) v_w v_word v_row) H := hP
          have hD : va_D A (wd_X7_layWorth h0 h_w h_word h_ahead h_behind h_restM h_restN h_powerM h_powerN h_row c_w c_word c_row v_known v_kept v_size v_high v_behindMany v_ends v_lead v_round v_worthM (v_worthM + (v_worthN * (v_w (0 : Int32).toNatClampNeg).toInt64)) v_w v_word v_row) := hD
          refine lv_aload_n hx hb dX7_layWorth_72 rfl (lv_at hl 1 rfl) ?_
          refine lv_lload_n hx hb dX7_layWorth_73 rfl (lv_at hl 0 rfl) ?_
          refine va_put (D := (dC, dI)) (ty := .long) (ci := 7) (v := .long ((v_worthN * (v_w (1 : Int32).toNatClampNeg).toInt64) + (v_row x2.toNatClampNeg).toInt64)) (C := RX7) (T := TX7) (N := 19) hx hb hts inn_X7_layWorth_X7 tyX7 tyX7_ok nmX7 hown hK hP hD hS 0 rfl rfl 17 (by decide) (hts (.fieldLink RX7 120 "RingBasesModel" "worthM" "J") (List.mem_of_getElem? (i := 1) rfl)) (fun _ h9 => h9) rfl (by decide +kernel) rfl rfl (Nat.le_of_ble_eq_true rfl) dX7_layWorth_74 (fun H locs hP hD hS => ?_)
          have hP : va_P (dC, dI) vwCl (wd_X7_layWorth h0 h_w h_word h_ahead h_behind h_restM h_restN h_powerM h_powerN h_row c_w c_word c_row v_known v_kept v_size v_high v_behindMany v_ends v_lead v_round ((v_worthN * (v_w (1 : Int32).toNatClampNeg).toInt64) + (v_row x2.toNatClampNeg).toInt64) (v_worthM + (v_worthN * (v_w (0 : Int32).toNatClampNeg).toInt64)) v_w v_word v_row) H := hP
          have hD : va_D A (wd_X7_layWorth h0 h_w h_word h_ahead h_behind h_restM h_restN h_powerM h_powerN h_row c_w c_word c_row v_known v_kept v_size v_high v_behindMany v_ends v_lead v_round ((v_worthN * (v_w (1 : Int32).toNatClampNeg).toInt64) + (v_row x2.toNatClampNeg).toInt64) (v_worthM + (v_worthN * (v_w (0 : Int32).toNatClampNeg).toInt64)) v_w v_word v_row) := hD
          refine lv_aload_n hx hb dX7_layWorth_77 rfl (lv_at hl 1 rfl) ?_
          refine va_get (D := (dC, dI)) (ci := 7) (v := .long ((v_worthN * (v_w (1 : Int32).toNatClampNeg).toInt64) + (v_row x2.toNatClampNeg).toInt64)) (C := RX7) (T := TX7) (N := 19) hx hb hts inn_X7_layWorth_X7 hown hK hP 0 rfl rfl 17 (by decide) (hts (.fieldLink RX7 120 "RingBasesModel" "worthM" "J") (List.mem_of_getElem? (i := 1) rfl)) (fun _ h9 => h9) rfl dX7_layWorth_78 ?_
          refine lv_ldc2 (v := (-999999 : Int64)) hx hb hown (hts (.constantLong RX7 127 (-999999)) (List.mem_of_getElem? (i := 5) rfl)) dX7_layWorth_81 ?_
          refine lv_ldc2 (v := (999999 : Int64)) hx hb hown (hts (.constantLong RX7 129 (999999)) (List.mem_of_getElem? (i := 6) rfl)) dX7_layWorth_84 ?_
          refine rdSi (As := [.long ((v_worthN * (v_w (1 : Int32).toNatClampNeg).toInt64) + (v_row x2.toNatClampNeg).toInt64), .long (-999999 : Int64), .long (999999 : Int64)]) (rest := []) hC (c_X7_in l dC dI  ((v_worthN * (v_w (1 : Int32).toNatClampNeg).toInt64) + (v_row x2.toNatClampNeg).toInt64) (-999999 : Int64) (999999 : Int64) (F_X7_in ((v_worthN * (v_w (1 : Int32).toNatClampNeg).toInt64) + (v_row x2.toNatClampNeg).toInt64) (-999999 : Int64) (999999 : Int64)) rfl) (va_cwS 3 hts gX7_layWorth_X7_in rfl rfl rfl (by decide +kernel) ⟨Nat.le_of_ble_eq_true rfl, Nat.le_of_ble_eq_true rfl⟩) hN (hK.sub (tys' := []) [] rfl) (hP.sub (ws' := wd_X7_in) [] rfl) rfl rfl hl.1 (Nat.le_of_ble_eq_true rfl) dX7_layWorth_87 ⟨Nat.zero_le _, Nat.zero_le _⟩ ?_
          refine lv_if_eq (tgt := 113) hx hb dX7_layWorth_90 (by decide) (fun g_7 => ?_) (fun g_7 => ?_)
          · replace hF := ite_t g_7 hF
            refine lv_iconst (v := (0 : Int32)) hx hb dX7_layWorth_113 (by decide) ?_
            refine lv_istore_n (lv' := [(1, .int (0 : Int32)), (3, .long ((v_worthN * (v_w (1 : Int32).toNatClampNeg).toInt64) + (v_row x2.toNatClampNeg).toInt64)), (0, .ref h0), (2, .int x2)]) hx hb dX7_layWorth_114 rfl hl (by decide) rfl (fun ls hl => ?_)
            refine lv_iinc (v := (x2 + (1 : Int32))) (lv' := [(2, .int (x2 + (1 : Int32))), (1, .int (0 : Int32)), (3, .long ((v_worthN * (v_w (1 : Int32).toNatClampNeg).toInt64) + (v_row x2.toNatClampNeg).toInt64)), (0, .ref h0)]) hx hb dX7_layWorth_115 hl (k := 3) rfl rfl (by decide) rfl (fun ls hl => ?_)
            refine lv_goto (tgt := 18) hx hb dX7_layWorth_118 (by decide) ?_
            exact ih (0 : Int32) (x2 + (1 : Int32)) ((v_worthN * (v_w (1 : Int32).toNatClampNeg).toInt64) + (v_row x2.toNatClampNeg).toInt64) (v_worthM + (v_worthN * (v_w (0 : Int32).toNatClampNeg).toInt64)) v_row hF H locs hP hS ls (lv_sub hl [3, 1, 0] rfl)
          · replace hF := ite_f g_7 hF
            refine lv_aload_n hx hb dX7_layWorth_93 rfl (lv_at hl 1 rfl) ?_
            refine va_get (D := (dC, dI)) (ci := 7) (v := .long (v_worthM + (v_worthN * (v_w (0 : Int32).toNatClampNeg).toInt64))) (C := RX7) (T := TX7) (N := 19) hx hb hts inn_X7_layWorth_X7 hown hK hP 0 rfl rfl 18 (by decide) (hts (.fieldLink RX7 124 "RingBasesModel" "worthN" "J") (List.mem_of_getElem? (i := 2) rfl)) (fun _ h9 => h9) rfl dX7_layWorth_94 ?_
            refine lv_ldc2 (v := (-999999 : Int64)) hx hb hown (hts (.constantLong RX7 127 (-999999)) (List.mem_of_getElem? (i := 5) rfl)) dX7_layWorth_97 ?_
            refine lv_ldc2 (v := (999999 : Int64)) hx hb hown (hts (.constantLong RX7 129 (999999)) (List.mem_of_getElem? (i := 6) rfl)) dX7_layWorth_100 ?_
            refine rdSi (As := [.long (v_worthM + (v_worthN * (v_w (0 : Int32).toNatClampNeg).toInt64)), .long (-999999 : Int64), .long (999999 : Int64)]) (rest := []) hC (c_X7_in l dC dI  (v_worthM + (v_worthN * (v_w (0 : Int32).toNatClampNeg).toInt64)) (-999999 : Int64) (999999 : Int64) (F_X7_in (v_worthM + (v_worthN * (v_w (0 : Int32).toNatClampNeg).toInt64)) (-999999 : Int64) (999999 : Int64)) rfl) (va_cwS 3 hts gX7_layWorth_X7_in rfl rfl rfl (by decide +kernel) ⟨Nat.le_of_ble_eq_true rfl, Nat.le_of_ble_eq_true rfl⟩) hN (hK.sub (tys' := []) [] rfl) (hP.sub (ws' := wd_X7_in) [] rfl) rfl rfl hl.1 (Nat.le_of_ble_eq_true rfl) dX7_layWorth_103 ⟨Nat.zero_le _, Nat.zero_le _⟩ ?_
            refine lv_if_eq (tgt := 113) hx hb dX7_layWorth_106 (by decide) (fun g_8 => ?_) (fun g_8 => ?_)
            · replace hF := ite_t g_8 hF
              refine lv_iconst (v := (0 : Int32)) hx hb dX7_layWorth_113 (by decide) ?_
              refine lv_istore_n (lv' := [(1, .int (0 : Int32)), (3, .long ((v_worthN * (v_w (1 : Int32).toNatClampNeg).toInt64) + (v_row x2.toNatClampNeg).toInt64)), (0, .ref h0), (2, .int x2)]) hx hb dX7_layWorth_114 rfl hl (by decide) rfl (fun ls hl => ?_)
              refine lv_iinc (v := (x2 + (1 : Int32))) (lv' := [(2, .int (x2 + (1 : Int32))), (1, .int (0 : Int32)), (3, .long ((v_worthN * (v_w (1 : Int32).toNatClampNeg).toInt64) + (v_row x2.toNatClampNeg).toInt64)), (0, .ref h0)]) hx hb dX7_layWorth_115 hl (k := 3) rfl rfl (by decide) rfl (fun ls hl => ?_)
              refine lv_goto (tgt := 18) hx hb dX7_layWorth_118 (by decide) ?_
              exact ih (0 : Int32) (x2 + (1 : Int32)) ((v_worthN * (v_w (1 : Int32).toNatClampNeg).toInt64) + (v_row x2.toNatClampNeg).toInt64) (v_worthM + (v_worthN * (v_w (0 : Int32).toNatClampNeg).toInt64)) v_row hF H locs hP hS ls (lv_sub hl [3, 1, 0] rfl)
            · replace hF := ite_f g_8 hF
              refine lv_iconst (v := (1 : Int32)) hx hb dX7_layWorth_109 (by decide) ?_
              refine lv_goto (tgt := 114) hx hb dX7_layWorth_110 (by decide) ?_
              refine lv_istore_n (lv' := [(1, .int (1 : Int32)), (3, .long ((v_worthN * (v_w (1 : Int32).toNatClampNeg).toInt64) + (v_row x2.toNatClampNeg).toInt64)), (0, .ref h0), (2, .int x2)]) hx hb dX7_layWorth_114 rfl hl (by decide) rfl (fun ls hl => ?_)
              refine lv_iinc (v := (x2 + (1 : Int32))) (lv' := [(2, .int (x2 + (1 : Int32))), (1, .int (1 : Int32)), (3, .long ((v_worthN * (v_w (1 : Int32).toNatClampNeg).toInt64) + (v_row x2.toNatClampNeg).toInt64)), (0, .ref h0)]) hx hb dX7_layWorth_115 hl (k := 3) rfl rfl (by decide) rfl (fun ls hl => ?_)
              refine lv_goto (tgt := 18) hx hb dX7_layWorth_118 (by decide) ?_
              exact ih (1 : Int32) (x2 + (1 : Int32)) ((v_worthN * (v_w (1 : Int32).toNatClampNeg).toInt64) + (v_row x2.toNatClampNeg).toInt64) (v_worthM + (v_worthN * (v_w (0 : Int32).toNatClampNeg).toInt64)) v_row hF H locs hP hS ls (lv_sub hl [3, 1, 0] rfl)
  refine lv_aload_n hx hb dX7_layWorth_0 rfl (lv_at hl 0 rfl) ?_
  refine lv_lconst (v := (0 : Int64)) hx hb dX7_layWorth_1 (by decide) ?_
  refine va_put (D := (dC, dI)) (ty := .long) (ci := 7) (v := .long (0 : Int64)) (C := RX7) (T := TX7) (N := 19) hx hb hts inn_X7_layWorth_X7 tyX7 tyX7_ok nmX7 hown hK hP hD hS 0 rfl rfl 17 (by decide) (hts (.fieldLink RX7 120 "RingBasesModel" "worthM" "J") (List.mem_of_getElem? (i := 1) rfl)) (fun _ h9 => h9) rfl (by decide +kernel) rfl rfl (Nat.le_of_ble_eq_true rfl) dX7_layWorth_2 (fun H locs hP hD hS => ?_)
  have hP : va_P (dC, dI) vwCl (wd_X7_layWorth h0 h_w h_word h_ahead h_behind h_restM h_restN h_powerM h_powerN h_row c_w c_word c_row v_known v_kept v_size v_high v_behindMany v_ends v_lead v_round (0 : Int64) v_worthN v_w v_word v_row) H := hP
  have hD : va_D A (wd_X7_layWorth h0 h_w h_word h_ahead h_behind h_restM h_restN h_powerM h_powerN h_row c_w c_word c_row v_known v_kept v_size v_high v_behindMany v_ends v_lead v_round (0 : Int64) v_worthN v_w v_word v_row) := hD
  refine lv_aload_n hx hb dX7_layWorth_5 rfl (lv_at hl 0 rfl) ?_
  refine lv_lconst (v := (0 : Int64)) hx hb dX7_layWorth_6 (by decide) ?_
  refine va_put (D := (dC, dI)) (ty := .long) (ci := 7) (v := .long (0 : Int64)) (C := RX7) (T := TX7) (N := 19) hx hb hts inn_X7_layWorth_X7 tyX7 tyX7_ok nmX7 hown hK hP hD hS 0 rfl rfl 18 (by decide) (hts (.fieldLink RX7 124 "RingBasesModel" "worthN" "J") (List.mem_of_getElem? (i := 2) rfl)) (fun _ h9 => h9) rfl (by decide +kernel) rfl rfl (Nat.le_of_ble_eq_true rfl) dX7_layWorth_7 (fun H locs hP hD hS => ?_)
  have hP : va_P (dC, dI) vwCl (wd_X7_layWorth h0 h_w h_word h_ahead h_behind h_restM h_restN h_powerM h_powerN h_row c_w c_word c_row v_known v_kept v_size v_high v_behindMany v_ends v_lead v_round (0 : Int64) (0 : Int64) v_w v_word v_row) H := hP
  have hD : va_D A (wd_X7_layWorth h0 h_w h_word h_ahead h_behind h_restM h_restN h_powerM h_powerN h_row c_w c_word c_row v_known v_kept v_size v_high v_behindMany v_ends v_lead v_round (0 : Int64) (0 : Int64) v_w v_word v_row) := hD
  refine lv_iconst (v := (1 : Int32)) hx hb dX7_layWorth_10 (by decide) ?_
  refine lv_istore_n (lv' := [(1, .int (1 : Int32)), (0, .ref h0)]) hx hb dX7_layWorth_11 rfl hl (by decide) rfl (fun ls hl => ?_)
  refine lv_aload_n hx hb dX7_layWorth_12 rfl (lv_at hl 1 rfl) ?_
  obtain ⟨o_9, hc_o_9, hF⟩ := bd_s hF
  refine wrVv (wc' := (wd_X7_layRow h0 h_w h_word h_ahead h_behind h_restM h_restN h_powerM h_powerN h_row c_word c_row v_known v_kept v_size v_high v_behindMany v_ends v_lead v_round (0 : Int64) (0 : Int64) v_word o_9)) (As := []) (rest := []) (b := h0) hC (c_X7_layRow l dC dI H.size h0 h_w h_word h_ahead h_behind h_restM h_restN h_powerM h_powerN h_row c_word c_row v_known v_kept v_size v_high v_behindMany v_ends v_lead v_round (0 : Int64) (0 : Int64) v_word v_row  o_9 hc_o_9) (cwV 0 hts gX7_layWorth_X7_layRow rfl rfl rfl (by decide +kernel) ⟨Nat.le_of_ble_eq_true rfl, Nat.le_of_ble_eq_true rfl⟩) hN (hK.sub (tys' := [(c_word, .int), (c_row, .int)]) [1, 2] rfl) hP hD hS hA [0, 2, 3] rfl rfl rfl rfl 0 7 rfl rfl rfl rfl hl.1 (Nat.le_of_ble_eq_true rfl) dX7_layWorth_13 ⟨Nat.zero_le _, Nat.zero_le _⟩ (fun H locs hP hS => ?_)
  have hP : va_P (dC, dI) vwCl (wd_X7_layWorth h0 h_w h_word h_ahead h_behind h_restM h_restN h_powerM h_powerN h_row c_w c_word c_row v_known v_kept v_size v_high v_behindMany v_ends v_lead v_round (0 : Int64) (0 : Int64) v_w v_word o_9) H := hP
  have hD : va_D A (wd_X7_layWorth h0 h_w h_word h_ahead h_behind h_restM h_restN h_powerM h_powerN h_row c_w c_word c_row v_known v_kept v_size v_high v_behindMany v_ends v_lead v_round (0 : Int64) (0 : Int64) v_w v_word o_9) := va_D.re hD rfl
  refine lv_iconst (v := (0 : Int32)) hx hb dX7_layWorth_16 (by decide) ?_
  refine lv_istore_n (lv' := [(2, .int (0 : Int32)), (1, .int (1 : Int32)), (0, .ref h0)]) hx hb dX7_layWorth_17 rfl hl (by decide) rfl (fun ls hl => ?_)
  exact k_18 _ (1 : Int32) (0 : Int32) (0 : Int64) (0 : Int64) o_9 hF H locs hP hS ls (lv_sub hl [2, 1, 0] rfl)
set_option maxRecDepth 100000 in
set_option maxHeartbeats 4000000 in
theorem c_X7_layWorth (l : Launch) (dC : Nat → ClassId) (dI : Nat → Nat → Nat) (sz : Nat) (h0 h_w h_word h_ahead h_behind h_restM h_restN h_powerM h_powerN h_row : Nat) (c_w c_word c_row : ClassId) (v_known : Int32) (v_kept : Int32) (v_size : Int32) (v_high : Int32) (v_behindMany : Int32) (v_ends : Int32) (v_lead : Int32) (v_round : Int32) (v_worthM : Int64) (v_worthN : Int64) (v_w : (Nat → Int32)) (v_word : (Nat → Int32)) (v_row : (Nat → Int32)) (o : Int32 × Int64 × Int64 × (Nat → Int32)) (hF : F_X7_layWorth v_size v_w v_word v_row = some o) : Met l yX7_layWorth wsX7_layWorth rm_X7_layWorth (va_Pc [.ref h0] (PcW dC dI sz (wd_X7_layWorth h0 h_w h_word h_ahead h_behind h_restM h_restN h_powerM h_powerN h_row c_w c_word c_row v_known v_kept v_size v_high v_behindMany v_ends v_lead v_round v_worthM v_worthN v_w v_word v_row) [(c_w, .int), (c_word, .int), (c_row, .int)])) (va_Qi (fun (r : Int32) (_ : Unit) => r = o.1) (fun _ t => va_P (dC, dI) vwCl (wd_X7_layWorth h0 h_w h_word h_ahead h_behind h_restM h_restN h_powerM h_powerN h_row c_w c_word c_row v_known v_kept v_size v_high v_behindMany v_ends v_lead v_round o.2.1 o.2.2.1 v_w v_word o.2.2.2) t.heap) (va_A (wd_X7_layWorth h0 h_w h_word h_ahead h_behind h_restM h_restN h_powerM h_powerN h_row c_w c_word c_row v_known v_kept v_size v_high v_behindMany v_ends v_lead v_round v_worthM v_worthN v_w v_word v_row) sz)) 0 0 (va_A (wd_X7_layWorth h0 h_w h_word h_ahead h_behind h_restM h_restN h_powerM h_powerN h_row c_w c_word c_row v_known v_kept v_size v_high v_behindMany v_ends v_lead v_round v_worthM v_worthN v_w v_word v_row) sz) := by
  refine Met.ofW (cc := cX7_layWorth) (maxL := 5) (ret := (some .boolean)) (by decide) rfl ?_
  intro p e s m args below meth c s₁ B hml hv
  obtain ⟨rfl, hsz, hP, hK, hD0, hN⟩ := hv
  subst hsz
  have hl := lv_entry ([.ref h0]) (n := 5) (Nat.le_of_ble_eq_true rfl)
  rw [lg_entry_eq]
  generalize (lg_sl ([.ref h0]) ++ List.replicate (5 - (lg_sl ([.ref h0])).length) Slot.unset).toArray = ls at hl ⊢
  exact b_X7_layWorth h0 h_w h_word h_ahead h_behind h_restM h_restN h_powerM h_powerN h_row c_w c_word c_row v_known v_kept v_size v_high v_behindMany v_ends v_lead v_round v_worthM v_worthN v_w v_word v_row o.1 o.2.1 o.2.2.1 o.2.2.2 hF ⟨B.exec, B.bytes, hml, findClass_of_methodNamed B.named, atoms_spec (ws := wsX7_layWorth) B.pre⟩ hN hK hP (fun q h => Or.inr h) (hD0.self (sz := s.heap.size)) va_S.rf (fun H locs ls pc hP hS hn hd => W.zret B.exec B.bytes B.returns hn (fun t ht hW => ⟨⟨_, (), rfl, rfl, by show va_P (dC, dI) vwCl _ t.heap; rw [ht]; exact hP⟩, hS.F ht⟩) hS.2.2 hd B.notSynchronized) hl
theorem inn_X7_normalMany_X7 : ∀ w ∈ wsX70, w ∈ wsX7_normalMany := fun _ h => List.mem_cons_of_mem _ (List.mem_append_right _ h)
abbrev wd_X7_normalMany (h0 h_w h_word h_ahead h_behind h_restM h_restN h_powerM h_powerN h_row : Nat) (c_w c_word c_ahead c_behind c_restM c_restN c_powerM c_powerN c_row : ClassId) (v_known : Int32) (v_kept : Int32) (v_size : Int32) (v_high : Int32) (v_behindMany : Int32) (v_ends : Int32) (v_lead : Int32) (v_round : Int32) (v_worthM : Int64) (v_worthN : Int64) (v_w : (Nat → Int32)) (v_word : (Nat → Int32)) (v_ahead : (Nat → Int32)) (v_behind : (Nat → Int32)) (v_restM : (Nat → Int64)) (v_restN : (Nat → Int64)) (v_powerM : (Nat → Int64)) (v_powerN : (Nat → Int64)) (v_row : (Nat → Int32)) : va_W := [(h0, .inr (7, [.ref h_w, .int v_known, .int v_kept, .ref h_word, .int v_size, .ref h_ahead, .int v_high, .ref h_behind, .int v_behindMany, .ref h_restM, .ref h_restN, .ref h_powerM, .ref h_powerN, .int v_ends, .int v_lead, .int v_round, .ref h_row, .long v_worthM, .long v_worthN])), (h_w, .inl (c_w, 110, .inl v_w)), (h_word, .inl (c_word, 60, .inl v_word)), (h_ahead, .inl (c_ahead, 64, .inl v_ahead)), (h_behind, .inl (c_behind, 40, .inl v_behind)), (h_restM, .inl (c_restM, 41, .inr (.inl v_restM))), (h_restN, .inl (c_restN, 41, .inr (.inl v_restN))), (h_powerM, .inl (c_powerM, 64, .inr (.inl v_powerM))), (h_powerN, .inl (c_powerN, 64, .inr (.inl v_powerN))), (h_row, .inl (c_row, 60, .inl v_row))]
abbrev rm_X7_normalMany : Room := { frames := 4, cells := 0, slots := 0, locals := 112 }
def F_X7_normalMany (v_size : Int32) (v_high : Int32) (v_behindMany : Int32) (v_ends : Int32) (v_lead : Int32) (v_round : Int32) (v_w : (Nat → Int32)) (v_word : (Nat → Int32)) (v_ahead : (Nat → Int32)) (v_behind : (Nat → Int32)) (v_restM : (Nat → Int64)) (v_restN : (Nat → Int64)) (v_powerM : (Nat → Int64)) (v_powerN : (Nat → Int64)) (v_row : (Nat → Int32)) : Option (Int32 × Int32 × Int32 × Int32 × Int32 × Int32 × Int64 × Int64 × (Nat → Int32) × (Nat → Int32) × (Nat → Int64) × (Nat → Int64) × (Nat → Int64) × (Nat → Int64) × (Nat → Int32)) := ((F_X7_layWorth v_size v_w v_word v_row).bind fun o_1 => (if o_1.1 = 0 then (some ((-2000000004 : Int32), v_high, v_behindMany, v_ends, v_lead, v_round, o_1.2.1, o_1.2.2.1, v_ahead, v_behind, v_restM, v_restN, v_powerM, v_powerN, o_1.2.2.2)) else (if 0 ≤ (F_X7_signOf o_1.2.1 o_1.2.2.1 v_w) then ((F_X7_layWritten o_1.2.1 o_1.2.2.1 v_behindMany v_ends v_lead v_round v_w v_ahead v_behind v_restM v_restN v_powerM v_powerN).bind fun o_4 => (some (((o_4.1 + (1 : Int32)) + o_4.2.1), o_4.1, o_4.2.1, o_4.2.2.1, o_4.2.2.2.1, o_4.2.2.2.2.1, o_1.2.1, o_1.2.2.1, o_4.2.2.2.2.2.1, o_4.2.2.2.2.2.2.1, o_4.2.2.2.2.2.2.2.1, o_4.2.2.2.2.2.2.2.2.1, o_4.2.2.2.2.2.2.2.2.2.1, o_4.2.2.2.2.2.2.2.2.2.2, o_1.2.2.2))) else (some ((-2000000003 : Int32), v_high, v_behindMany, v_ends, v_lead, v_round, o_1.2.1, o_1.2.2.1, v_ahead, v_behind, v_restM, v_restN, v_powerM, v_powerN, o_1.2.2.2)))))
set_option maxRecDepth 100000 in
set_option maxHeartbeats 4000000 in
theorem b_X7_normalMany {p : Program} {l : Launch} {e : Env} {s : State} {m : MethodId} {args : Array Value} {below : List Frame} {meth : Method} {c : Code} {Q : State → Prop} {dC : Nat → ClassId} {dI : Nat → Nat → Nat} {H : Heap} {locs : List Loc} {ls : Array Slot} {A : Nat → Prop} (h0 h_w h_word h_ahead h_behind h_restM h_restN h_powerM h_powerN h_row : Nat) (c_w c_word c_ahead c_behind c_restM c_restN c_powerM c_powerN c_row : ClassId) (v_known : Int32) (v_kept : Int32) (v_size : Int32) (v_high : Int32) (v_behindMany : Int32) (v_ends : Int32) (v_lead : Int32) (v_round : Int32) (v_worthM : Int64) (v_worthN : Int64) (v_w : (Nat → Int32)) (v_word : (Nat → Int32)) (v_ahead : (Nat → Int32)) (v_behind : (Nat → Int32)) (v_restM : (Nat → Int64)) (v_restN : (Nat → Int64)) (v_powerM : (Nat → Int64)) (v_powerN : (Nat → Int64)) (v_row : (Nat → Int32)) (ou0 : Int32) (ou1 : Int32) (ou2 : Int32) (ou3 : Int32) (ou4 : Int32) (ou5 : Int32) (ou6 : Int64) (ou7 : Int64) (ou8 : (Nat → Int32)) (ou9 : (Nat → Int32)) (ou10 : (Nat → Int64)) (ou11 : (Nat → Int64)) (ou12 : (Nat → Int64)) (ou13 : (Nat → Int64)) (ou14 : (Nat → Int32)) (hF : F_X7_normalMany v_size v_high v_behindMany v_ends v_lead v_round v_w v_word v_ahead v_behind v_restM v_restN v_powerM v_powerN v_row = some (ou0, ou1, ou2, ou3, ou4, ou5, ou6, ou7, ou8, ou9, ou10, ou11, ou12, ou13, ou14)) (hC : CallFix p m c cX7_normalMany 1 s args wsX7_normalMany RX7) (hN : NW s) (hK : va_K (dC, dI) vwCl [(c_w, .int), (c_word, .int), (c_ahead, .int), (c_behind, .int), (c_restM, .long), (c_restN, .long), (c_powerM, .long), (c_powerN, .long), (c_row, .int)] s) (hP : va_P (dC, dI) vwCl (wd_X7_normalMany h0 h_w h_word h_ahead h_behind h_restM h_restN h_powerM h_powerN h_row c_w c_word c_ahead c_behind c_restM c_restN c_powerM c_powerN c_row v_known v_kept v_size v_high v_behindMany v_ends v_lead v_round v_worthM v_worthN v_w v_word v_ahead v_behind v_restM v_restN v_powerM v_powerN v_row) H) (hA : ∀ q, s.heap.size ≤ q → A q) (hD : va_D A (wd_X7_normalMany h0 h_w h_word h_ahead h_behind h_restM h_restN h_powerM h_powerN h_row c_w c_word c_ahead c_behind c_restM c_restN c_powerM c_powerN c_row v_known v_kept v_size v_high v_behindMany v_ends v_lead v_round v_worthM v_worthN v_w v_word v_ahead v_behind v_restM v_restN v_powerM v_powerN v_row)) (hS : va_S A s.heap H locs) (hE : ∀ (H : Heap) (locs : List Loc) (ls : Array Slot) (pc : Nat), va_P (dC, dI) vwCl (wd_X7_normalMany h0 h_w h_word h_ahead h_behind h_restM h_restN h_powerM h_powerN h_row c_w c_word c_ahead c_behind c_restM c_restN c_powerM c_powerN c_row v_known v_kept v_size ou1 ou2 ou3 ou4 ou5 ou6 ou7 v_w v_word ou8 ou9 ou10 ou11 ou12 ou13 ou14) H → va_S A s.heap H locs → decode cX7_normalMany pc = .ok (.ireturn, 1) → W p l e rm_X7_normalMany s m args below meth c H locs 0 0 Q (F0 m pc ls [.int ou0])) (hl : lv_has ls 1 [(0, .ref h0)]) : W p l e rm_X7_normalMany s m args below meth c H locs 0 0 Q (F0 m 0 ls []) := by
  obtain ⟨hx, hb, hml, hown, hts⟩ := id hC
  have hD0 := hD
  unfold F_X7_normalMany at hF
  refine lv_aload_n hx hb dX7_normalMany_0 rfl (lv_at hl 0 rfl) ?_
  obtain ⟨o_1, hc_o_1, hF⟩ := bd_s hF
  refine wrVi (o := o_1.1) (wc' := (wd_X7_layWorth h0 h_w h_word h_ahead h_behind h_restM h_restN h_powerM h_powerN h_row c_w c_word c_row v_known v_kept v_size v_high v_behindMany v_ends v_lead v_round o_1.2.1 o_1.2.2.1 v_w v_word o_1.2.2.2)) (As := []) (rest := []) (b := h0) hC (c_X7_layWorth l dC dI H.size h0 h_w h_word h_ahead h_behind h_restM h_restN h_powerM h_powerN h_row c_w c_word c_row v_known v_kept v_size v_high v_behindMany v_ends v_lead v_round v_worthM v_worthN v_w v_word v_row  o_1 hc_o_1) (cwV 0 hts gX7_normalMany_X7_layWorth rfl rfl rfl (by decide +kernel) ⟨Nat.le_of_ble_eq_true rfl, Nat.le_of_ble_eq_true rfl⟩) hN (hK.sub (tys' := [(c_w, .int), (c_word, .int), (c_row, .int)]) [0, 1, 8] rfl) hP hD hS hA [0, 1, 2, 9] rfl rfl rfl rfl 0 7 rfl rfl rfl rfl hl.1 (Nat.le_of_ble_eq_true rfl) dX7_normalMany_1 ⟨Nat.zero_le _, Nat.zero_le _⟩ (fun H locs hP hS => ?_)
  have hP : va_P (dC, dI) vwCl (wd_X7_normalMany h0 h_w h_word h_ahead h_behind h_restM h_restN h_powerM h_powerN h_row c_w c_word c_ahead c_behind c_restM c_restN c_powerM c_powerN c_row v_known v_kept v_size v_high v_behindMany v_ends v_lead v_round o_1.2.1 o_1.2.2.1 v_w v_word v_ahead v_behind v_restM v_restN v_powerM v_powerN o_1.2.2.2) H := hP
  have hD : va_D A (wd_X7_normalMany h0 h_w h_word h_ahead h_behind h_restM h_restN h_powerM h_powerN h_row c_w c_word c_ahead c_behind c_restM c_restN c_powerM c_powerN c_row v_known v_kept v_size v_high v_behindMany v_ends v_lead v_round o_1.2.1 o_1.2.2.1 v_w v_word v_ahead v_behind v_restM v_restN v_powerM v_powerN o_1.2.2.2) := va_D.re hD rfl
  refine lv_if_ne (tgt := 10) hx hb dX7_normalMany_4 (by decide) (fun g_2 => ?_) (fun g_2 => ?_)
  · replace hF := ite_f g_2 hF
    refine lv_aload_n hx hb dX7_normalMany_10 rfl (lv_at hl 0 rfl) ?_
    refine lv_aload_n hx hb dX7_normalMany_11 rfl (lv_at hl 0 rfl) ?_
    refine va_get (D := (dC, dI)) (ci := 7) (v := .long o_1.2.1) (C := RX7) (T := TX7) (N := 19) hx hb hts inn_X7_normalMany_X7 hown hK hP 0 rfl rfl 17 (by decide) (hts (.fieldLink RX7 120 "RingBasesModel" "worthM" "J") (List.mem_of_getElem? (i := 2) rfl)) (fun _ h9 => h9) rfl dX7_normalMany_12 ?_
    refine lv_aload_n hx hb dX7_normalMany_15 rfl (lv_at hl 0 rfl) ?_
    refine va_get (D := (dC, dI)) (ci := 7) (v := .long o_1.2.2.1) (C := RX7) (T := TX7) (N := 19) hx hb hts inn_X7_normalMany_X7 hown hK hP 0 rfl rfl 18 (by decide) (hts (.fieldLink RX7 124 "RingBasesModel" "worthN" "J") (List.mem_of_getElem? (i := 3) rfl)) (fun _ h9 => h9) rfl dX7_normalMany_16 ?_
    refine rdVi (As := [.long o_1.2.1, .long o_1.2.2.1]) (rest := []) (b := h0) hC (c_X7_signOf l dC dI h0 h_w h_word h_ahead h_behind h_restM h_restN h_powerM h_powerN h_row c_w v_known v_kept v_size v_high v_behindMany v_ends v_lead v_round o_1.2.1 o_1.2.2.1 v_w o_1.2.1 o_1.2.2.1 (F_X7_signOf o_1.2.1 o_1.2.2.1 v_w) rfl) (cwV 2 hts gX7_normalMany_X7_signOf rfl rfl rfl (by decide +kernel) ⟨Nat.le_of_ble_eq_true rfl, Nat.le_of_ble_eq_true rfl⟩) hN (hK.sub (tys' := [(c_w, .int)]) [0] rfl) (hP.sub (ws' := (wd_X7_signOf h0 h_w h_word h_ahead h_behind h_restM h_restN h_powerM h_powerN h_row c_w v_known v_kept v_size v_high v_behindMany v_ends v_lead v_round o_1.2.1 o_1.2.2.1 v_w)) [0, 1] rfl) 0 7 rfl rfl rfl rfl hl.1 (Nat.le_of_ble_eq_true rfl) dX7_normalMany_19 ⟨Nat.zero_le _, Nat.zero_le _⟩ ?_
    refine lv_if_ge (tgt := 28) hx hb dX7_normalMany_22 (by decide) (fun g_3 => ?_) (fun g_3 => ?_)
    · replace hF := ite_t g_3 hF
      refine lv_aload_n hx hb dX7_normalMany_28 rfl (lv_at hl 0 rfl) ?_
      refine lv_aload_n hx hb dX7_normalMany_29 rfl (lv_at hl 0 rfl) ?_
      refine va_get (D := (dC, dI)) (ci := 7) (v := .long o_1.2.1) (C := RX7) (T := TX7) (N := 19) hx hb hts inn_X7_normalMany_X7 hown hK hP 0 rfl rfl 17 (by decide) (hts (.fieldLink RX7 120 "RingBasesModel" "worthM" "J") (List.mem_of_getElem? (i := 2) rfl)) (fun _ h9 => h9) rfl dX7_normalMany_30 ?_
      refine lv_aload_n hx hb dX7_normalMany_33 rfl (lv_at hl 0 rfl) ?_
      refine va_get (D := (dC, dI)) (ci := 7) (v := .long o_1.2.2.1) (C := RX7) (T := TX7) (N := 19) hx hb hts inn_X7_normalMany_X7 hown hK hP 0 rfl rfl 18 (by decide) (hts (.fieldLink RX7 124 "RingBasesModel" "worthN" "J") (List.mem_of_getElem? (i := 3) rfl)) (fun _ h9 => h9) rfl dX7_normalMany_34 ?_
      obtain ⟨o_4, hc_o_4, hF⟩ := bd_s hF
      refine wrVv (wc' := (wd_X7_layWritten h0 h_w h_word h_ahead h_behind h_restM h_restN h_powerM h_powerN h_row c_w c_ahead c_behind c_restM c_restN c_powerM c_powerN v_known v_kept v_size o_4.1 o_4.2.1 o_4.2.2.1 o_4.2.2.2.1 o_4.2.2.2.2.1 o_1.2.1 o_1.2.2.1 v_w o_4.2.2.2.2.2.1 o_4.2.2.2.2.2.2.1 o_4.2.2.2.2.2.2.2.1 o_4.2.2.2.2.2.2.2.2.1 o_4.2.2.2.2.2.2.2.2.2.1 o_4.2.2.2.2.2.2.2.2.2.2)) (As := [.long o_1.2.1, .long o_1.2.2.1]) (rest := []) (b := h0) hC (c_X7_layWritten l dC dI H.size h0 h_w h_word h_ahead h_behind h_restM h_restN h_powerM h_powerN h_row c_w c_ahead c_behind c_restM c_restN c_powerM c_powerN v_known v_kept v_size v_high v_behindMany v_ends v_lead v_round o_1.2.1 o_1.2.2.1 v_w v_ahead v_behind v_restM v_restN v_powerM v_powerN o_1.2.1 o_1.2.2.1 o_4 hc_o_4) (cwV 2 hts gX7_normalMany_X7_layWritten rfl rfl rfl (by decide +kernel) ⟨Nat.le_of_ble_eq_true rfl, Nat.le_of_ble_eq_true rfl⟩) hN (hK.sub (tys' := [(c_w, .int), (c_ahead, .int), (c_behind, .int), (c_restM, .long), (c_restN, .long), (c_powerM, .long), (c_powerN, .long)]) [0, 2, 3, 4, 5, 6, 7] rfl) hP hD hS hA [0, 1, 3, 4, 5, 6, 7, 8] rfl rfl rfl rfl 0 7 rfl rfl rfl rfl hl.1 (Nat.le_of_ble_eq_true rfl) dX7_normalMany_37 ⟨Nat.zero_le _, Nat.zero_le _⟩ (fun H locs hP hS => ?_)
      have hP : va_P (dC, dI) vwCl (wd_X7_normalMany h0 h_w h_word h_ahead h_behind h_restM h_restN h_powerM h_powerN h_row c_w c_word c_ahead c_behind c_restM c_restN c_powerM c_powerN c_row v_known v_kept v_size o_4.1 o_4.2.1 o_4.2.2.1 o_4.2.2.2.1 o_4.2.2.2.2.1 o_1.2.1 o_1.2.2.1 v_w v_word o_4.2.2.2.2.2.1 o_4.2.2.2.2.2.2.1 o_4.2.2.2.2.2.2.2.1 o_4.2.2.2.2.2.2.2.2.1 o_4.2.2.2.2.2.2.2.2.2.1 o_4.2.2.2.2.2.2.2.2.2.2 o_1.2.2.2) H := hP
      have hD : va_D A (wd_X7_normalMany h0 h_w h_word h_ahead h_behind h_restM h_restN h_powerM h_powerN h_row c_w c_word c_ahead c_behind c_restM c_restN c_powerM c_powerN c_row v_known v_kept v_size o_4.1 o_4.2.1 o_4.2.2.1 o_4.2.2.2.1 o_4.2.2.2.2.1 o_1.2.1 o_1.2.2.1 v_w v_word o_4.2.2.2.2.2.1 o_4.2.2.2.2.2.2.1 o_4.2.2.2.2.2.2.2.1 o_4.2.2.2.2.2.2.2.2.1 o_4.2.2.2.2.2.2.2.2.2.1 o_4.2.2.2.2.2.2.2.2.2.2 o_1.2.2.2) := va_D.re hD rfl
      refine lv_aload_n hx hb dX7_normalMany_40 rfl (lv_at hl 0 rfl) ?_
      refine va_get (D := (dC, dI)) (ci := 7) (v := .int o_4.1) (C := RX7) (T := TX7) (N := 19) hx hb hts inn_X7_normalMany_X7 hown hK hP 0 rfl rfl 6 (by decide) (hts (.fieldLink RX7 65 "RingBasesModel" "high" "I") (List.mem_of_getElem? (i := 5) rfl)) (fun _ h9 => h9) rfl dX7_normalMany_41 ?_
      refine lv_iconst (v := (1 : Int32)) hx hb dX7_normalMany_44 (by decide) ?_
      refine lv_iadd hx hb dX7_normalMany_45 ?_
      refine lv_aload_n hx hb dX7_normalMany_46 rfl (lv_at hl 0 rfl) ?_
      refine va_get (D := (dC, dI)) (ci := 7) (v := .int o_4.2.1) (C := RX7) (T := TX7) (N := 19) hx hb hts inn_X7_normalMany_X7 hown hK hP 0 rfl rfl 8 (by decide) (hts (.fieldLink RX7 78 "RingBasesModel" "behindMany" "I") (List.mem_of_getElem? (i := 6) rfl)) (fun _ h9 => h9) rfl dX7_normalMany_47 ?_
      refine lv_iadd hx hb dX7_normalMany_50 ?_
      obtain ⟨rfl, rfl, rfl, rfl, rfl, rfl, rfl, rfl, rfl, rfl, rfl, rfl, rfl, rfl, rfl⟩ := oks15 hF; exact hE _ _ _ _ hP hS dX7_normalMany_51
    · replace hF := ite_f g_3 hF
      refine lv_ldc (v := (-2000000003 : Int32)) hx hb hown (hts (.constant RX7 140 (-2000000003)) (List.mem_of_getElem? (i := 4) rfl)) dX7_normalMany_25 ?_
      obtain ⟨rfl, rfl, rfl, rfl, rfl, rfl, rfl, rfl, rfl, rfl, rfl, rfl, rfl, rfl, rfl⟩ := oks15 hF; exact hE _ _ _ _ hP hS dX7_normalMany_27
  · replace hF := ite_t g_2 hF
    refine lv_ldc (v := (-2000000004 : Int32)) hx hb hown (hts (.constant RX7 139 (-2000000004)) (List.mem_of_getElem? (i := 1) rfl)) dX7_normalMany_7 ?_
    obtain ⟨rfl, rfl, rfl, rfl, rfl, rfl, rfl, rfl, rfl, rfl, rfl, rfl, rfl, rfl, rfl⟩ := oks15 hF; exact hE _ _ _ _ hP hS dX7_normalMany_9
set_option maxRecDepth 100000 in
set_option maxHeartbeats 4000000 in
theorem c_X7_normalMany (l : Launch) (dC : Nat → ClassId) (dI : Nat → Nat → Nat) (sz : Nat) (h0 h_w h_word h_ahead h_behind h_restM h_restN h_powerM h_powerN h_row : Nat) (c_w c_word c_ahead c_behind c_restM c_restN c_powerM c_powerN c_row : ClassId) (v_known : Int32) (v_kept : Int32) (v_size : Int32) (v_high : Int32) (v_behindMany : Int32) (v_ends : Int32) (v_lead : Int32) (v_round : Int32) (v_worthM : Int64) (v_worthN : Int64) (v_w : (Nat → Int32)) (v_word : (Nat → Int32)) (v_ahead : (Nat → Int32)) (v_behind : (Nat → Int32)) (v_restM : (Nat → Int64)) (v_restN : (Nat → Int64)) (v_powerM : (Nat → Int64)) (v_powerN : (Nat → Int64)) (v_row : (Nat → Int32)) (o : Int32 × Int32 × Int32 × Int32 × Int32 × Int32 × Int64 × Int64 × (Nat → Int32) × (Nat → Int32) × (Nat → Int64) × (Nat → Int64) × (Nat → Int64) × (Nat → Int64) × (Nat → Int32)) (hF : F_X7_normalMany v_size v_high v_behindMany v_ends v_lead v_round v_w v_word v_ahead v_behind v_restM v_restN v_powerM v_powerN v_row = some o) : Met l yX7_normalMany wsX7_normalMany rm_X7_normalMany (va_Pc [.ref h0] (PcW dC dI sz (wd_X7_normalMany h0 h_w h_word h_ahead h_behind h_restM h_restN h_powerM h_powerN h_row c_w c_word c_ahead c_behind c_restM c_restN c_powerM c_powerN c_row v_known v_kept v_size v_high v_behindMany v_ends v_lead v_round v_worthM v_worthN v_w v_word v_ahead v_behind v_restM v_restN v_powerM v_powerN v_row) [(c_w, .int), (c_word, .int), (c_ahead, .int), (c_behind, .int), (c_restM, .long), (c_restN, .long), (c_powerM, .long), (c_powerN, .long), (c_row, .int)])) (va_Qi (fun (r : Int32) (_ : Unit) => r = o.1) (fun _ t => va_P (dC, dI) vwCl (wd_X7_normalMany h0 h_w h_word h_ahead h_behind h_restM h_restN h_powerM h_powerN h_row c_w c_word c_ahead c_behind c_restM c_restN c_powerM c_powerN c_row v_known v_kept v_size o.2.1 o.2.2.1 o.2.2.2.1 o.2.2.2.2.1 o.2.2.2.2.2.1 o.2.2.2.2.2.2.1 o.2.2.2.2.2.2.2.1 v_w v_word o.2.2.2.2.2.2.2.2.1 o.2.2.2.2.2.2.2.2.2.1 o.2.2.2.2.2.2.2.2.2.2.1 o.2.2.2.2.2.2.2.2.2.2.2.1 o.2.2.2.2.2.2.2.2.2.2.2.2.1 o.2.2.2.2.2.2.2.2.2.2.2.2.2.1 o.2.2.2.2.2.2.2.2.2.2.2.2.2.2) t.heap) (va_A (wd_X7_normalMany h0 h_w h_word h_ahead h_behind h_restM h_restN h_powerM h_powerN h_row c_w c_word c_ahead c_behind c_restM c_restN c_powerM c_powerN c_row v_known v_kept v_size v_high v_behindMany v_ends v_lead v_round v_worthM v_worthN v_w v_word v_ahead v_behind v_restM v_restN v_powerM v_powerN v_row) sz)) 0 0 (va_A (wd_X7_normalMany h0 h_w h_word h_ahead h_behind h_restM h_restN h_powerM h_powerN h_row c_w c_word c_ahead c_behind c_restM c_restN c_powerM c_powerN c_row v_known v_kept v_size v_high v_behindMany v_ends v_lead v_round v_worthM v_worthN v_w v_word v_ahead v_behind v_restM v_restN v_powerM v_powerN v_row) sz) := by
  refine Met.ofW (cc := cX7_normalMany) (maxL := 1) (ret := (some .int)) (by decide) rfl ?_
  intro p e s m args below meth c s₁ B hml hv
  obtain ⟨rfl, hsz, hP, hK, hD0, hN⟩ := hv
  subst hsz
  have hl := lv_entry ([.ref h0]) (n := 1) (Nat.le_of_ble_eq_true rfl)
  rw [lg_entry_eq]
  generalize (lg_sl ([.ref h0]) ++ List.replicate (1 - (lg_sl ([.ref h0])).length) Slot.unset).toArray = ls at hl ⊢
  exact b_X7_normalMany h0 h_w h_word h_ahead h_behind h_restM h_restN h_powerM h_powerN h_row c_w c_word c_ahead c_behind c_restM c_restN c_powerM c_powerN c_row v_known v_kept v_size v_high v_behindMany v_ends v_lead v_round v_worthM v_worthN v_w v_word v_ahead v_behind v_restM v_restN v_powerM v_powerN v_row o.1 o.2.1 o.2.2.1 o.2.2.2.1 o.2.2.2.2.1 o.2.2.2.2.2.1 o.2.2.2.2.2.2.1 o.2.2.2.2.2.2.2.1 o.2.2.2.2.2.2.2.2.1 o.2.2.2.2.2.2.2.2.2.1 o.2.2.2.2.2.2.2.2.2.2.1 o.2.2.2.2.2.2.2.2.2.2.2.1 o.2.2.2.2.2.2.2.2.2.2.2.2.1 o.2.2.2.2.2.2.2.2.2.2.2.2.2.1 o.2.2.2.2.2.2.2.2.2.2.2.2.2.2 hF ⟨B.exec, B.bytes, hml, findClass_of_methodNamed B.named, atoms_spec (ws := wsX7_normalMany) B.pre⟩ hN hK hP (fun q h => Or.inr h) (hD0.self (sz := s.heap.size)) va_S.rf (fun H locs ls pc hP hS hd => W.iret B.exec B.bytes B.returns (fun t ht hW => ⟨⟨_, (), rfl, rfl, by show va_P (dC, dI) vwCl _ t.heap; rw [ht]; exact hP⟩, hS.F ht⟩) hS.2.2 hd B.notSynchronized) hl
theorem inn_X7_layNext_X7 : ∀ w ∈ wsX70, w ∈ wsX7_layNext := fun _ h => List.mem_cons_of_mem _ (List.mem_append_right _ h)
abbrev wd_X7_layNext (h0 h_w h_word h_ahead h_behind h_restM h_restN h_powerM h_powerN h_row : Nat) (c_w c_word c_row : ClassId) (v_known : Int32) (v_kept : Int32) (v_size : Int32) (v_high : Int32) (v_behindMany : Int32) (v_ends : Int32) (v_lead : Int32) (v_round : Int32) (v_worthM : Int64) (v_worthN : Int64) (v_w : (Nat → Int32)) (v_word : (Nat → Int32)) (v_row : (Nat → Int32)) : va_W := [(h0, .inr (7, [.ref h_w, .int v_known, .int v_kept, .ref h_word, .int v_size, .ref h_ahead, .int v_high, .ref h_behind, .int v_behindMany, .ref h_restM, .ref h_restN, .ref h_powerM, .ref h_powerN, .int v_ends, .int v_lead, .int v_round, .ref h_row, .long v_worthM, .long v_worthN])), (h_w, .inl (c_w, 110, .inl v_w)), (h_word, .inl (c_word, 60, .inl v_word)), (h_row, .inl (c_row, 60, .inl v_row))]
abbrev rm_X7_layNext : Room := { frames := 3, cells := 0, slots := 0, locals := 68 }
def F_X7_layNext_60 (kk_15 : Int32 → Int32 → Int32 → (Nat → Int32) → Option (Int32 × (Nat → Int32))) (v_w : (Nat → Int32)) (x1 : Int32) (x2 : Int32) (x3 : Int32) (v_row : (Nat → Int32)) : Option (Int32 × (Nat → Int32)) := ((F_X7_isWell x1 v_w v_row).bind fun o_1 => (if o_1 = 0 then (kk_15 x1 x2 (x3 + (1 : Int32)) v_row) else (some ((1 : Int32), v_row))))
def F_X7_layNext_40 (kk_15 : Int32 → Int32 → Int32 → (Nat → Int32) → Option (Int32 × (Nat → Int32))) (v_w : (Nat → Int32)) : Nat → Int32 → Int32 → Int32 → Int32 → (Nat → Int32) → Option (Int32 × (Nat → Int32))
  | 0, _, _, _, _, _ => none
  | fu + 1, x1, x2, x3, x4, v_row => (if x1 ≤ x4 then (F_X7_layNext_60 kk_15 v_w x1 x2 x3 v_row) else (ck x4 60 (F_X7_layNext_40 kk_15 v_w fu x1 x2 x3 (x4 + (1 : Int32)) (upd v_row x4.toNatClampNeg (0 : Int32)))))
def F_X7_layNext_15 (kk_9 : Int32 → Int32 → (Nat → Int32) → Option (Int32 × (Nat → Int32))) (v_size : Int32) (v_w : (Nat → Int32)) (v_word : (Nat → Int32)) : Nat → Int32 → Int32 → Int32 → (Nat → Int32) → Option (Int32 × (Nat → Int32))
  | 0, _, _, _, _ => none
  | fu + 1, x1, x2, x3, v_row => (if (9 : Int32) < x3 then (kk_9 x1 (x2 + (-1 : Int32)) v_row) else ((F_X7_layRow v_size v_word v_row).bind fun o_6 => (ck x2 60 (F_X7_layNext_40 (F_X7_layNext_15 kk_9 v_size v_w v_word fu) v_w 128 x1 x2 x3 (x2 + (1 : Int32)) (upd o_6 x2.toNatClampNeg ((o_6 x2.toNatClampNeg) + x3))))))
def F_X7_layNext_9 (v_size : Int32) (v_w : (Nat → Int32)) (v_word : (Nat → Int32)) : Nat → Int32 → Int32 → (Nat → Int32) → Option (Int32 × (Nat → Int32))
  | 0, _, _, _ => none
  | fu + 1, x1, x2, v_row => (if x2 < 0 then (some ((0 : Int32), v_row)) else (F_X7_layNext_15 (F_X7_layNext_9 v_size v_w v_word fu) v_size v_w v_word 128 x1 x2 (1 : Int32) v_row))
def F_X7_layNext (v_size : Int32) (v_w : (Nat → Int32)) (v_word : (Nat → Int32)) (v_row : (Nat → Int32)) : Option (Int32 × (Nat → Int32)) := ((F_X7_figures v_size v_word).bind fun o_9 => (F_X7_layNext_9  v_size v_w v_word 128 o_9 (o_9 - (1 : Int32)) v_row))
set_option maxRecDepth 100000 in
set_option maxHeartbeats 4000000 in
theorem b_X7_layNext {p : Program} {l : Launch} {e : Env} {s : State} {m : MethodId} {args : Array Value} {below : List Frame} {meth : Method} {c : Code} {Q : State → Prop} {dC : Nat → ClassId} {dI : Nat → Nat → Nat} {H : Heap} {locs : List Loc} {ls : Array Slot} {A : Nat → Prop} (h0 h_w h_word h_ahead h_behind h_restM h_restN h_powerM h_powerN h_row : Nat) (c_w c_word c_row : ClassId) (v_known : Int32) (v_kept : Int32) (v_size : Int32) (v_high : Int32) (v_behindMany : Int32) (v_ends : Int32) (v_lead : Int32) (v_round : Int32) (v_worthM : Int64) (v_worthN : Int64) (v_w : (Nat → Int32)) (v_word : (Nat → Int32)) (v_row : (Nat → Int32)) (ou0 : Int32) (ou1 : (Nat → Int32)) (hF : F_X7_layNext v_size v_w v_word v_row = some (ou0, ou1)) (hC : CallFix p m c cX7_layNext 5 s args wsX7_layNext RX7) (hN : NW s) (hK : va_K (dC, dI) vwCl [(c_w, .int), (c_word, .int), (c_row, .int)] s) (hP : va_P (dC, dI) vwCl (wd_X7_layNext h0 h_w h_word h_ahead h_behind h_restM h_restN h_powerM h_powerN h_row c_w c_word c_row v_known v_kept v_size v_high v_behindMany v_ends v_lead v_round v_worthM v_worthN v_w v_word v_row) H) (hA : ∀ q, s.heap.size ≤ q → A q) (hD : va_D A (wd_X7_layNext h0 h_w h_word h_ahead h_behind h_restM h_restN h_powerM h_powerN h_row c_w c_word c_row v_known v_kept v_size v_high v_behindMany v_ends v_lead v_round v_worthM v_worthN v_w v_word v_row)) (hS : va_S A s.heap H locs) (hE : ∀ (H : Heap) (locs : List Loc) (ls : Array Slot) (pc : Nat), va_P (dC, dI) vwCl (wd_X7_layNext h0 h_w h_word h_ahead h_behind h_restM h_restN h_powerM h_powerN h_row c_w c_word c_row v_known v_kept v_size v_high v_behindMany v_ends v_lead v_round v_worthM v_worthN v_w v_word ou1) H → va_S A s.heap H locs → narrow .boolean (.int ou0) = .int ou0 → decode cX7_layNext pc = .ok (.ireturn, 1) → W p l e rm_X7_layNext s m args below meth c H locs 0 0 Q (F0 m pc ls [.int ou0])) (hl : lv_has ls 5 [(0, .ref h0)]) : W p l e rm_X7_layNext s m args below meth c H locs 0 0 Q (F0 m 0 ls []) := by
  obtain ⟨hx, hb, hml, hown, hts⟩ := id hC
  have hD0 := hD
  unfold F_X7_layNext at hF
  have k_9 : ∀ (fu_9 : Nat) (x1 : Int32) (x2 : Int32) (v_row : (Nat → Int32)), F_X7_layNext_9  v_size v_w v_word fu_9 x1 x2 v_row = some (ou0, ou1) → ∀ (H : Heap) (locs : List Loc), va_P (dC, dI) vwCl (wd_X7_layNext h0 h_w h_word h_ahead h_behind h_restM h_restN h_powerM h_powerN h_row c_w c_word c_row v_known v_kept v_size v_high v_behindMany v_ends v_lead v_round v_worthM v_worthN v_w v_word v_row) H → va_S A s.heap H locs → ∀ ls : Array Slot, lv_has ls 5 [(0, .ref h0), (1, .int x1), (2, .int x2)] → W p l e rm_X7_layNext s m args below meth c H locs 0 0 Q (F0 m 9 ls []) := by
    intro fu_9
    induction fu_9 with
    | zero => intro x1 x2 v_row hF; rw [F_X7_layNext_9] at hF; cases hF
    | succ fu_9 ih =>
      intro x1 x2 v_row hF H locs hP hS ls hl
      rw [F_X7_layNext_9] at hF
      have ih_9 := ih
      have hD : va_D A (wd_X7_layNext h0 h_w h_word h_ahead h_behind h_restM h_restN h_powerM h_powerN h_row c_w c_word c_row v_known v_kept v_size v_high v_behindMany v_ends v_lead v_round v_worthM v_worthN v_w v_word v_row) := hD0.re rfl
      have k_15 : ∀ (fu_15 : Nat) (x1 : Int32) (x2 : Int32) (x3 : Int32) (v_row : (Nat → Int32)), F_X7_layNext_15 (F_X7_layNext_9  v_size v_w v_word fu_9) v_size v_w v_word fu_15 x1 x2 x3 v_row = some (ou0, ou1) → ∀ (H : Heap) (locs : List Loc), va_P (dC, dI) vwCl (wd_X7_layNext h0 h_w h_word h_ahead h_behind h_restM h_restN h_powerM h_powerN h_row c_w c_word c_row v_known v_kept v_size v_high v_behindMany v_ends v_lead v_round v_worthM v_worthN v_w v_word v_row) H → va_S A s.heap H locs → ∀ ls : Array Slot, lv_has ls 5 [(0, .ref h0), (1, .int x1), (2, .int x2), (3, .int x3)] → W p l e rm_X7_layNext s m args below meth c H locs 0 0 Q (F0 m 15 ls []) := by
        intro fu_15
        induction fu_15 with
        | zero => intro x1 x2 x3 v_row hF; rw [F_X7_layNext_15] at hF; cases hF
        | succ fu_15 ih =>
          intro x1 x2 x3 v_row hF H locs hP hS ls hl
          rw [F_X7_layNext_15] at hF
          have ih_15 := ih
          have hD : va_D A (wd_X7_layNext h0 h_w h_word h_ahead h_behind h_restM h_restN h_powerM h_powerN h_row c_w c_word c_row v_known v_kept v_size v_high v_behindMany v_ends v_lead v_round v_worthM v_worthN v_w v_word v_row) := hD0.re rfl
          have k_40 : ∀ (fu_40 : Nat) (x1 : Int32) (x2 : Int32) (x3 : Int32) (x4 : Int32) (v_row : (Nat → Int32)), F_X7_layNext_40 (F_X7_layNext_15 (F_X7_layNext_9  v_size v_w v_word fu_9) v_size v_w v_word fu_15) v_w fu_40 x1 x2 x3 x4 v_row = some (ou0, ou1) → ∀ (H : Heap) (locs : List Loc), va_P (dC, dI) vwCl (wd_X7_layNext h0 h_w h_word h_ahead h_behind h_restM h_restN h_powerM h_powerN h_row c_w c_word c_row v_known v_kept v_size v_high v_behindMany v_ends v_lead v_round v_worthM v_worthN v_w v_word v_row) H → va_S A s.heap H locs → ∀ ls : Array Slot, lv_has ls 5 [(0, .ref h0), (1, .int x1), (2, .int x2), (3, .int x3), (4, .int x4)] → W p l e rm_X7_layNext s m args below meth c H locs 0 0 Q (F0 m 40 ls []) := by
            intro fu_40
            induction fu_40 with
            | zero => intro x1 x2 x3 x4 v_row hF; rw [F_X7_layNext_40] at hF; cases hF
            | succ fu_40 ih =>
              intro x1 x2 x3 x4 v_row hF H locs hP hS ls hl
              rw [F_X7_layNext_40] at hF
              have ih_40 := ih
              have hD : va_D A (wd_X7_layNext h0 h_w h_word h_ahead h_behind h_restM h_restN h_powerM h_powerN h_row c_w c_word c_row v_known v_kept v_size v_high v_behindMany v_ends v_lead v_round v_worthM v_worthN v_w v_word v_row) := hD0.re rfl
              have k_60 : ∀ (x1 : Int32) (x2 : Int32) (x3 : Int32) (v_row : (Nat → Int32)), F_X7_layNext_60 (F_X7_layNext_15 (F_X7_layNext_9  v_size v_w v_word fu_9) v_size v_w v_word fu_15) v_w x1 x2 x3 v_row = some (ou0, ou1) → ∀ (H : Heap) (locs : List Loc), va_P (dC, dI) vwCl (wd_X7_layNext h0 h_w h_word h_ahead h_behind h_restM h_restN h_powerM h_powerN h_row c_w c_word c_row v_known v_kept v_size v_high v_behindMany v_ends v_lead v_round v_worthM v_worthN v_w v_word v_row) H → va_S A s.heap H locs → ∀ ls : Array Slot, lv_has ls 5 [(0, .ref h0), (1, .int x1), (2, .int x2), (3, .int x3)] → W p l e rm_X7_layNext s m args below meth c H locs 0 0 Q (F0 m 60 ls []) := by
                intro x1 x2 x3 v_row hF H locs hP hS ls hl
                rw [F_X7_layNext_60] at hF
                have hD : va_D A (wd_X7_layNext h0 h_w h_word h_ahead h_behind h_restM h_restN h_powerM h_powerN h_row c_w c_word c_row v_known v_kept v_size v_high v_behindMany v_ends v_lead v_round v_worthM v_worthN v_w v_word v_row) := hD0.re rfl
                refine lv_aload_n hx hb dX7_layNext_60 rfl (lv_at hl 0 rfl) ?_
                refine lv_iload_n hx hb dX7_layNext_61 rfl (lv_at hl 1 rfl) ?_
                obtain ⟨o_1, hc_o_1, hF⟩ := bd_s hF
                refine rdVi (As := [.int x1]) (rest := []) (b := h0) hC (c_X7_isWell l dC dI h0 h_w h_word h_ahead h_behind h_restM h_restN h_powerM h_powerN h_row c_w c_row v_known v_kept v_size v_high v_behindMany v_ends v_lead v_round v_worthM v_worthN v_w v_row x1 o_1 hc_o_1) (cwV 1 hts gX7_layNext_X7_isWell rfl rfl rfl (by decide +kernel) ⟨Nat.le_of_ble_eq_true rfl, Nat.le_of_ble_eq_true rfl⟩) hN (hK.sub (tys' := [(c_w, .int), (c_row, .int)]) [0, 2] rfl) (hP.sub (ws' := (wd_X7_isWell h0 h_w h_word h_ahead h_behind h_restM h_restN h_powerM h_powerN h_row c_w c_row v_known v_kept v_size v_high v_behindMany v_ends v_lead v_round v_worthM v_worthN v_w v_row)) [0, 1, 3] rfl) 0 7 rfl rfl rfl rfl hl.1 (Nat.le_of_ble_eq_true rfl) dX7_layNext_62 ⟨Nat.zero_le _, Nat.zero_le _⟩ ?_
                refine lv_if_eq (tgt := 70) hx hb dX7_layNext_65 (by decide) (fun g_2 => ?_) (fun g_2 => ?_)
                · replace hF := ite_t g_2 hF
                  refine lv_iinc (v := (x3 + (1 : Int32))) (lv' := [(3, .int (x3 + (1 : Int32))), (0, .ref h0), (1, .int x1), (2, .int x2)]) hx hb dX7_layNext_70 hl (k := 3) rfl rfl (by decide) rfl (fun ls hl => ?_)
                  refine lv_goto (tgt := 15) hx hb dX7_layNext_73 (by decide) ?_
                  exact ih_15 x1 x2 (x3 + (1 : Int32)) v_row hF H locs hP hS ls (lv_sub hl [1, 2, 3, 0] rfl)
                · replace hF := ite_f g_2 hF
                  refine lv_iconst (v := (1 : Int32)) hx hb dX7_layNext_68 (by decide) ?_
                  obtain ⟨rfl, rfl⟩ := oks2 hF; exact hE _ _ _ _ hP hS (zk_n (Or.inr rfl)) dX7_layNext_69
              refine lv_iload hx hb dX7_layNext_40 (lv_at hl 4 rfl) ?_
              refine lv_iload_n hx hb dX7_layNext_42 rfl (lv_at hl 1 rfl) ?_
              refine lv_icmp_ge (tgt := 60) hx hb dX7_layNext_43 (by decide) (fun g_3 => ?_) (fun g_3 => ?_)
              · replace hF := ite_t g_3 hF
                exact k_60 x1 x2 x3 v_row hF H locs hP hS ls (lv_sub hl [0, 1, 2, 3] rfl)
              · replace hF := ite_f g_3 hF
                refine lv_aload_n hx hb dX7_layNext_46 rfl (lv_at hl 0 rfl) ?_
                refine va_get (D := (dC, dI)) (ci := 7) (v := .ref h_row) (C := RX7) (T := TX7) (N := 19) hx hb hts inn_X7_layNext_X7 hown hK hP 0 rfl rfl 16 (by decide) (hts (.fieldLink RX7 35 "RingBasesModel" "row" "[I") (List.mem_of_getElem? (i := 1) rfl)) (fun _ h9 => h9) rfl dX7_layNext_47 ?_
                refine lv_iload hx hb dX7_layNext_50 (lv_at hl 4 rfl) ?_
                refine lv_iconst (v := (0 : Int32)) hx hb dX7_layNext_52 (by decide) ?_
                obtain ⟨i_4, hF⟩ := ck_s hF
                refine va_iast hx hb hK hP hD hS 3 2 rfl rfl i_4 dX7_layNext_53 (fun H locs hP hD hS => ?_)
                have hP : va_P (dC, dI) vwCl (wd_X7_layNext h0 h_w h_word h_ahead h_behind h_restM h_restN h_powerM h_powerN h_row c_w c_word c_row v_known v_kept v_size v_high v_behindMany v_ends v_lead v_round v_worthM v_worthN v_w v_word (upd v_row x4.toNatClampNeg (0 : Int32))) H := hP
                have hD : va_D A (wd_X7_layNext h0 h_w h_word h_ahead h_behind h_restM h_restN h_powerM h_powerN h_row c_w c_word c_row v_known v_kept v_size v_high v_behindMany v_ends v_lead v_round v_worthM v_worthN v_w v_word (upd v_row x4.toNatClampNeg (0 : Int32))) := hD
                refine lv_iinc (v := (x4 + (1 : Int32))) (lv' := [(4, .int (x4 + (1 : Int32))), (0, .ref h0), (1, .int x1), (2, .int x2), (3, .int x3)]) hx hb dX7_layNext_54 hl (k := 4) rfl rfl (by decide) rfl (fun ls hl => ?_)
                refine lv_goto (tgt := 40) hx hb dX7_layNext_57 (by decide) ?_
                exact ih x1 x2 x3 (x4 + (1 : Int32)) (upd v_row x4.toNatClampNeg (0 : Int32)) hF H locs hP hS ls (lv_sub hl [1, 2, 3, 4, 0] rfl)
          refine lv_iload_n hx hb dX7_layNext_15 rfl (lv_at hl 3 rfl) ?_
          refine lv_bipush (v := (9 : Int32)) hx hb dX7_layNext_16 (by decide) ?_
          refine lv_icmp_gt (tgt := 76) hx hb dX7_layNext_18 (by decide) (fun g_5 => ?_) (fun g_5 => ?_)
          · replace hF := ite_t g_5 hF
            refine lv_iinc (v := (x2 + (-1 : Int32))) (lv' := [(2, .int (x2 + (-1 : Int32))), (0, .ref h0), (1, .int x1), (3, .int x3)]) hx hb dX7_layNext_76 hl (k := 2) rfl rfl (by decide) rfl (fun ls hl => ?_)
            refine lv_goto (tgt := 9) hx hb dX7_layNext_79 (by decide) ?_
            exact ih_9 x1 (x2 + (-1 : Int32)) v_row hF H locs hP hS ls (lv_sub hl [1, 2, 0] rfl)
          · replace hF := ite_f g_5 hF
            refine lv_aload_n hx hb dX7_layNext_21 rfl (lv_at hl 0 rfl) ?_
            obtain ⟨o_6, hc_o_6, hF⟩ := bd_s hF
            refine wrVv (wc' := (wd_X7_layRow h0 h_w h_word h_ahead h_behind h_restM h_restN h_powerM h_powerN h_row c_word c_row v_known v_kept v_size v_high v_behindMany v_ends v_lead v_round v_worthM v_worthN v_word o_6)) (As := []) (rest := []) (b := h0) hC (c_X7_layRow l dC dI H.size h0 h_w h_word h_ahead h_behind h_restM h_restN h_powerM h_powerN h_row c_word c_row v_known v_kept v_size v_high v_behindMany v_ends v_lead v_round v_worthM v_worthN v_word v_row  o_6 hc_o_6) (cwV 0 hts gX7_layNext_X7_layRow rfl rfl rfl (by decide +kernel) ⟨Nat.le_of_ble_eq_true rfl, Nat.le_of_ble_eq_true rfl⟩) hN (hK.sub (tys' := [(c_word, .int), (c_row, .int)]) [1, 2] rfl) hP hD hS hA [0, 2, 3] rfl rfl rfl rfl 0 7 rfl rfl rfl rfl hl.1 (Nat.le_of_ble_eq_true rfl) dX7_layNext_22 ⟨Nat.zero_le _, Nat.zero_le _⟩ (fun H locs hP hS => ?_)
            have hP : va_P (dC, dI) vwCl (wd_X7_layNext h0 h_w h_word h_ahead h_behind h_restM h_restN h_powerM h_powerN h_row c_w c_word c_row v_known v_kept v_size v_high v_behindMany v_ends v_lead v_round v_worthM v_worthN v_w v_word o_6) H := hP
            have hD : va_D A (wd_X7_layNext h0 h_w h_word h_ahead h_behind h_restM h_restN h_powerM h_powerN h_row c_w c_word c_row v_known v_kept v_size v_high v_behindMany v_ends v_lead v_round v_worthM v_worthN v_w v_word o_6) := va_D.re hD rfl
            refine lv_aload_n hx hb dX7_layNext_25 rfl (lv_at hl 0 rfl) ?_
            refine va_get (D := (dC, dI)) (ci := 7) (v := .ref h_row) (C := RX7) (T := TX7) (N := 19) hx hb hts inn_X7_layNext_X7 hown hK hP 0 rfl rfl 16 (by decide) (hts (.fieldLink RX7 35 "RingBasesModel" "row" "[I") (List.mem_of_getElem? (i := 1) rfl)) (fun _ h9 => h9) rfl dX7_layNext_26 ?_
            refine lv_iload_n hx hb dX7_layNext_29 rfl (lv_at hl 2 rfl) ?_
            refine lv_dup2_11 hx hb dX7_layNext_30 rfl rfl ?_
            obtain ⟨i_7, hF⟩ := ck_s hF
            refine va_iald hx hb hK hP 3 2 rfl rfl i_7 dX7_layNext_31 ?_
            refine lv_iload_n hx hb dX7_layNext_32 rfl (lv_at hl 3 rfl) ?_
            refine lv_iadd hx hb dX7_layNext_33 ?_
            refine va_iast hx hb hK hP hD hS 3 2 rfl rfl i_7 dX7_layNext_34 (fun H locs hP hD hS => ?_)
            have hP : va_P (dC, dI) vwCl (wd_X7_layNext h0 h_w h_word h_ahead h_behind h_restM h_restN h_powerM h_powerN h_row c_w c_word c_row v_known v_kept v_size v_high v_behindMany v_ends v_lead v_round v_worthM v_worthN v_w v_word (upd o_6 x2.toNatClampNeg ((o_6 x2.toNatClampNeg) + x3))) H := hP
            have hD : va_D A (wd_X7_layNext h0 h_w h_word h_ahead h_behind h_restM h_restN h_powerM h_powerN h_row c_w c_word c_row v_known v_kept v_size v_high v_behindMany v_ends v_lead v_round v_worthM v_worthN v_w v_word (upd o_6 x2.toNatClampNeg ((o_6 x2.toNatClampNeg) + x3))) := hD
            refine lv_iload_n hx hb dX7_layNext_35 rfl (lv_at hl 2 rfl) ?_
            refine lv_iconst (v := (1 : Int32)) hx hb dX7_layNext_36 (by decide) ?_
            refine lv_iadd hx hb dX7_layNext_37 ?_
            refine lv_istore (lv' := [(4, .int (x2 + (1 : Int32))), (0, .ref h0), (1, .int x1), (2, .int x2), (3, .int x3)]) hx hb dX7_layNext_38 hl (by decide) rfl (fun ls hl => ?_)
            exact k_40 _ x1 x2 x3 (x2 + (1 : Int32)) (upd o_6 x2.toNatClampNeg ((o_6 x2.toNatClampNeg) + x3)) hF H locs hP hS ls (lv_sub hl [1, 2, 3, 4, 0] rfl)
      refine lv_iload_n hx hb dX7_layNext_9 rfl (lv_at hl 2 rfl) ?_
      refine lv_if_lt (tgt := 82) hx hb dX7_layNext_10 (by decide) (fun g_8 => ?_) (fun g_8 => ?_)
      · replace hF := ite_t g_8 hF
        refine lv_iconst (v := (0 : Int32)) hx hb dX7_layNext_82 (by decide) ?_
        obtain ⟨rfl, rfl⟩ := oks2 hF; exact hE _ _ _ _ hP hS (zk_n (Or.inl rfl)) dX7_layNext_83
      · replace hF := ite_f g_8 hF
        refine lv_iconst (v := (1 : Int32)) hx hb dX7_layNext_13 (by decide) ?_
        refine lv_istore_n (lv' := [(3, .int (1 : Int32)), (0, .ref h0), (1, .int x1), (2, .int x2)]) hx hb dX7_layNext_14 rfl hl (by decide) rfl (fun ls hl => ?_)
        exact k_15 _ x1 x2 (1 : Int32) v_row hF H locs hP hS ls (lv_sub hl [1, 2, 3, 0] rfl)
  refine lv_aload_n hx hb dX7_layNext_0 rfl (lv_at hl 0 rfl) ?_
  obtain ⟨o_9, hc_o_9, hF⟩ := bd_s hF
  refine rdVi (As := []) (rest := []) (b := h0) hC (c_X7_figures l dC dI h0 h_w h_word h_ahead h_behind h_restM h_restN h_powerM h_powerN h_row c_word v_known v_kept v_size v_high v_behindMany v_ends v_lead v_round v_worthM v_worthN v_word  o_9 hc_o_9) (cwV 0 hts gX7_layNext_X7_figures rfl rfl rfl (by decide +kernel) ⟨Nat.le_of_ble_eq_true rfl, Nat.le_of_ble_eq_true rfl⟩) hN (hK.sub (tys' := [(c_word, .int)]) [1] rfl) (hP.sub (ws' := (wd_X7_figures h0 h_w h_word h_ahead h_behind h_restM h_restN h_powerM h_powerN h_row c_word v_known v_kept v_size v_high v_behindMany v_ends v_lead v_round v_worthM v_worthN v_word)) [0, 2] rfl) 0 7 rfl rfl rfl rfl hl.1 (Nat.le_of_ble_eq_true rfl) dX7_layNext_1 ⟨Nat.zero_le _, Nat.zero_le _⟩ ?_
  refine lv_istore_n (lv' := [(1, .int o_9), (0, .ref h0)]) hx hb dX7_layNext_4 rfl hl (by decide) rfl (fun ls hl => ?_)
  refine lv_iload_n hx hb dX7_layNext_5 rfl (lv_at hl 0 rfl) ?_
  refine lv_iconst (v := (1 : Int32)) hx hb dX7_layNext_6 (by decide) ?_
  refine lv_isub hx hb dX7_layNext_7 ?_
  refine lv_istore_n (lv' := [(2, .int (o_9 - (1 : Int32))), (1, .int o_9), (0, .ref h0)]) hx hb dX7_layNext_8 rfl hl (by decide) rfl (fun ls hl => ?_)
  exact k_9 _ o_9 (o_9 - (1 : Int32)) v_row hF H locs hP hS ls (lv_sub hl [2, 1, 0] rfl)
set_option maxRecDepth 100000 in
set_option maxHeartbeats 4000000 in
theorem c_X7_layNext (l : Launch) (dC : Nat → ClassId) (dI : Nat → Nat → Nat) (sz : Nat) (h0 h_w h_word h_ahead h_behind h_restM h_restN h_powerM h_powerN h_row : Nat) (c_w c_word c_row : ClassId) (v_known : Int32) (v_kept : Int32) (v_size : Int32) (v_high : Int32) (v_behindMany : Int32) (v_ends : Int32) (v_lead : Int32) (v_round : Int32) (v_worthM : Int64) (v_worthN : Int64) (v_w : (Nat → Int32)) (v_word : (Nat → Int32)) (v_row : (Nat → Int32)) (o : Int32 × (Nat → Int32)) (hF : F_X7_layNext v_size v_w v_word v_row = some o) : Met l yX7_layNext wsX7_layNext rm_X7_layNext (va_Pc [.ref h0] (PcW dC dI sz (wd_X7_layNext h0 h_w h_word h_ahead h_behind h_restM h_restN h_powerM h_powerN h_row c_w c_word c_row v_known v_kept v_size v_high v_behindMany v_ends v_lead v_round v_worthM v_worthN v_w v_word v_row) [(c_w, .int), (c_word, .int), (c_row, .int)])) (va_Qi (fun (r : Int32) (_ : Unit) => r = o.1) (fun _ t => va_P (dC, dI) vwCl (wd_X7_layNext h0 h_w h_word h_ahead h_behind h_restM h_restN h_powerM h_powerN h_row c_w c_word c_row v_known v_kept v_size v_high v_behindMany v_ends v_lead v_round v_worthM v_worthN v_w v_word o.2) t.heap) (va_A (wd_X7_layNext h0 h_w h_word h_ahead h_behind h_restM h_restN h_powerM h_powerN h_row c_w c_word c_row v_known v_kept v_size v_high v_behindMany v_ends v_lead v_round v_worthM v_worthN v_w v_word v_row) sz)) 0 0 (va_A (wd_X7_layNext h0 h_w h_word h_ahead h_behind h_restM h_restN h_powerM h_powerN h_row c_w c_word c_row v_known v_kept v_size v_high v_behindMany v_ends v_lead v_round v_worthM v_worthN v_w v_word v_row) sz) := by
  refine Met.ofW (cc := cX7_layNext) (maxL := 5) (ret := (some .boolean)) (by decide) rfl ?_
  intro p e s m args below meth c s₁ B hml hv
  obtain ⟨rfl, hsz, hP, hK, hD0, hN⟩ := hv
  subst hsz
  have hl := lv_entry ([.ref h0]) (n := 5) (Nat.le_of_ble_eq_true rfl)
  rw [lg_entry_eq]
  generalize (lg_sl ([.ref h0]) ++ List.replicate (5 - (lg_sl ([.ref h0])).length) Slot.unset).toArray = ls at hl ⊢
  exact b_X7_layNext h0 h_w h_word h_ahead h_behind h_restM h_restN h_powerM h_powerN h_row c_w c_word c_row v_known v_kept v_size v_high v_behindMany v_ends v_lead v_round v_worthM v_worthN v_w v_word v_row o.1 o.2 hF ⟨B.exec, B.bytes, hml, findClass_of_methodNamed B.named, atoms_spec (ws := wsX7_layNext) B.pre⟩ hN hK hP (fun q h => Or.inr h) (hD0.self (sz := s.heap.size)) va_S.rf (fun H locs ls pc hP hS hn hd => W.zret B.exec B.bytes B.returns hn (fun t ht hW => ⟨⟨_, (), rfl, rfl, by show va_P (dC, dI) vwCl _ t.heap; rw [ht]; exact hP⟩, hS.F ht⟩) hS.2.2 hd B.notSynchronized) hl
abbrev wd_X7_isShelf : va_W := []
abbrev rm_X7_isShelf : Room := { frames := 1, cells := 0, slots := 0, locals := 25 }
def F_X7_isShelf (x0 : Int32) : Int32 := (F_X7_in x0.toInt64 (0 : Int64) (3 : Int64))
theorem B_X7_isShelf (x0 : Int32) : narrow .boolean (.int (F_X7_isShelf x0)) = .int (F_X7_isShelf x0) := by
  unfold F_X7_isShelf
  repeat' split
  all_goals first | rfl | exact B_X7_in _ _ _
set_option maxRecDepth 100000 in
set_option maxHeartbeats 4000000 in
theorem b_X7_isShelf {p : Program} {l : Launch} {e : Env} {s : State} {m : MethodId} {args : Array Value} {below : List Frame} {meth : Method} {c : Code} {Q : State → Prop} {dC : Nat → ClassId} {dI : Nat → Nat → Nat} {H : Heap} {locs : List Loc} {ls : Array Slot} (x0 : Int32) (ou0 : Int32) (hF : F_X7_isShelf x0 = ou0) (hC : CallFix p m c cX7_isShelf 1 s args wsX7_isShelf RX7) (hN : NW s) (hK : va_K (dC, dI) vwCl [] s) (hP : va_P (dC, dI) vwCl wd_X7_isShelf H) (hE : ∀ (ls : Array Slot) (pc : Nat), narrow .boolean (.int ou0) = .int ou0 → decode cX7_isShelf pc = .ok (.ireturn, 1) → W p l e rm_X7_isShelf s m args below meth c H locs 0 0 Q (F0 m pc ls [.int ou0])) (hl : lv_has ls 1 [(0, .int x0)]) : W p l e rm_X7_isShelf s m args below meth c H locs 0 0 Q (F0 m 0 ls []) := by
  obtain ⟨hx, hb, hml, hown, hts⟩ := id hC
  unfold F_X7_isShelf at hF
  refine lv_iload_n hx hb dX7_isShelf_0 rfl (lv_at hl 0 rfl) ?_
  refine lv_i2l hx hb dX7_isShelf_1 rfl ?_
  refine lv_lconst (v := (0 : Int64)) hx hb dX7_isShelf_2 (by decide) ?_
  refine lv_ldc2 (v := (3 : Int64)) hx hb hown (hts (.constantLong RX7 147 (3)) (List.mem_of_getElem? (i := 1) rfl)) dX7_isShelf_3 ?_
  refine rdSi (As := [.long x0.toInt64, .long (0 : Int64), .long (3 : Int64)]) (rest := []) hC (c_X7_in l dC dI  x0.toInt64 (0 : Int64) (3 : Int64) (F_X7_in x0.toInt64 (0 : Int64) (3 : Int64)) rfl) (va_cwS 3 hts gX7_isShelf_X7_in rfl rfl rfl (by decide +kernel) ⟨Nat.le_of_ble_eq_true rfl, Nat.le_of_ble_eq_true rfl⟩) hN (hK.sub (tys' := []) [] rfl) (hP.sub (ws' := wd_X7_in) [] rfl) rfl rfl hl.1 (Nat.le_of_ble_eq_true rfl) dX7_isShelf_6 ⟨Nat.zero_le _, Nat.zero_le _⟩ ?_
  obtain rfl := hF; exact hE _ _ (B_X7_in x0.toInt64 (0 : Int64) (3 : Int64)) dX7_isShelf_9
set_option maxRecDepth 100000 in
set_option maxHeartbeats 4000000 in
theorem c_X7_isShelf (l : Launch) (dC : Nat → ClassId) (dI : Nat → Nat → Nat) (x0 : Int32) (o : Int32) (hF : F_X7_isShelf x0 = o) : Met l yX7_isShelf wsX7_isShelf rm_X7_isShelf (va_Pc [.int x0] (PcR dC dI wd_X7_isShelf [])) (vp_Si (fun r => r = o)) 0 0 (fun _ => False) := by
  refine Met.ofW (cc := cX7_isShelf) (maxL := 1) (ret := (some .boolean)) (by decide) rfl ?_
  intro p e s m args below meth c s₁ B hml hv
  obtain ⟨rfl, hP, hK, hN⟩ := hv
  have hl := lv_entry ([.int x0]) (n := 1) (Nat.le_of_ble_eq_true rfl)
  rw [lg_entry_eq]
  generalize (lg_sl ([.int x0]) ++ List.replicate (1 - (lg_sl ([.int x0])).length) Slot.unset).toArray = ls at hl ⊢
  exact b_X7_isShelf x0 o hF ⟨B.exec, B.bytes, hml, findClass_of_methodNamed B.named, atoms_spec (ws := wsX7_isShelf) B.pre⟩ hN hK hP (fun ls pc hn hd => W.zret B.exec B.bytes B.returns hn (fun t ht hW => ⟨_, rfl, rfl, ht⟩) (fun q h => by cases h) hd B.notSynchronized) hl
theorem inn_X7_mOf_X7 : ∀ w ∈ wsX70, w ∈ wsX7_mOf := fun _ h => List.mem_cons_of_mem _ (List.mem_append_right _ h)
abbrev wd_X7_mOf (h0 h_w h_word h_ahead h_behind h_restM h_restN h_powerM h_powerN h_row : Nat) (c_w : ClassId) (v_known : Int32) (v_kept : Int32) (v_size : Int32) (v_high : Int32) (v_behindMany : Int32) (v_ends : Int32) (v_lead : Int32) (v_round : Int32) (v_worthM : Int64) (v_worthN : Int64) (v_w : (Nat → Int32)) : va_W := [(h0, .inr (7, [.ref h_w, .int v_known, .int v_kept, .ref h_word, .int v_size, .ref h_ahead, .int v_high, .ref h_behind, .int v_behindMany, .ref h_restM, .ref h_restN, .ref h_powerM, .ref h_powerN, .int v_ends, .int v_lead, .int v_round, .ref h_row, .long v_worthM, .long v_worthN])), (h_w, .inl (c_w, 110, .inl v_w))]
abbrev rm_X7_mOf : Room := { frames := 0, cells := 0, slots := 0, locals := 0 }
def F_X7_mOf (x1 : Int32) (v_w : (Nat → Int32)) : Option (Int32) := (ck ((2 : Int32) + ((2 : Int32) * x1)) 110 (some (v_w ((2 : Int32) + ((2 : Int32) * x1)).toNatClampNeg)))
set_option maxRecDepth 100000 in
set_option maxHeartbeats 4000000 in
theorem b_X7_mOf {p : Program} {l : Launch} {e : Env} {s : State} {m : MethodId} {args : Array Value} {below : List Frame} {meth : Method} {c : Code} {Q : State → Prop} {dC : Nat → ClassId} {dI : Nat → Nat → Nat} {H : Heap} {locs : List Loc} {ls : Array Slot} (h0 h_w h_word h_ahead h_behind h_restM h_restN h_powerM h_powerN h_row : Nat) (c_w : ClassId) (v_known : Int32) (v_kept : Int32) (v_size : Int32) (v_high : Int32) (v_behindMany : Int32) (v_ends : Int32) (v_lead : Int32) (v_round : Int32) (v_worthM : Int64) (v_worthN : Int64) (v_w : (Nat → Int32)) (x1 : Int32) (ou0 : Int32) (hF : F_X7_mOf x1 v_w = some ou0) (hC : CallFix p m c cX7_mOf 2 s args wsX7_mOf RX7) (hN : NW s) (hK : va_K (dC, dI) vwCl [(c_w, .int)] s) (hP : va_P (dC, dI) vwCl (wd_X7_mOf h0 h_w h_word h_ahead h_behind h_restM h_restN h_powerM h_powerN h_row c_w v_known v_kept v_size v_high v_behindMany v_ends v_lead v_round v_worthM v_worthN v_w) H) (hE : ∀ (ls : Array Slot) (pc : Nat), decode cX7_mOf pc = .ok (.ireturn, 1) → W p l e rm_X7_mOf s m args below meth c H locs 0 0 Q (F0 m pc ls [.int ou0])) (hl : lv_has ls 2 [(0, .ref h0), (1, .int x1)]) : W p l e rm_X7_mOf s m args below meth c H locs 0 0 Q (F0 m 0 ls []) := by
  obtain ⟨hx, hb, hml, hown, hts⟩ := id hC
  unfold F_X7_mOf at hF
  refine lv_aload_n hx hb dX7_mOf_0 rfl (lv_at hl 0 rfl) ?_
  refine va_get (D := (dC, dI)) (ci := 7) (v := .ref h_w) (C := RX7) (T := TX7) (N := 19) hx hb hts inn_X7_mOf_X7 hown hK hP 0 rfl rfl 0 (by decide) (hts (.fieldLink RX7 7 "RingBasesModel" "w" "[I") (List.mem_of_getElem? (i := 1) rfl)) (fun _ h9 => h9) rfl dX7_mOf_1 ?_
  refine lv_iconst (v := (2 : Int32)) hx hb dX7_mOf_4 (by decide) ?_
  refine lv_iconst (v := (2 : Int32)) hx hb dX7_mOf_5 (by decide) ?_
  refine lv_iload_n hx hb dX7_mOf_6 rfl (lv_at hl 1 rfl) ?_
  refine lv_imul hx hb dX7_mOf_7 ?_
  refine lv_iadd hx hb dX7_mOf_8 ?_
  obtain ⟨i_1, hF⟩ := ck_s hF
  refine va_iald hx hb hK hP 1 0 rfl rfl i_1 dX7_mOf_9 ?_
  obtain rfl := Option.some.inj hF; exact hE _ _ dX7_mOf_10
set_option maxRecDepth 100000 in
set_option maxHeartbeats 4000000 in
theorem c_X7_mOf (l : Launch) (dC : Nat → ClassId) (dI : Nat → Nat → Nat) (h0 h_w h_word h_ahead h_behind h_restM h_restN h_powerM h_powerN h_row : Nat) (c_w : ClassId) (v_known : Int32) (v_kept : Int32) (v_size : Int32) (v_high : Int32) (v_behindMany : Int32) (v_ends : Int32) (v_lead : Int32) (v_round : Int32) (v_worthM : Int64) (v_worthN : Int64) (v_w : (Nat → Int32)) (x1 : Int32) (o : Int32) (hF : F_X7_mOf x1 v_w = some o) : Met l yX7_mOf wsX7_mOf rm_X7_mOf (va_Pc [.ref h0, .int x1] (PcR dC dI (wd_X7_mOf h0 h_w h_word h_ahead h_behind h_restM h_restN h_powerM h_powerN h_row c_w v_known v_kept v_size v_high v_behindMany v_ends v_lead v_round v_worthM v_worthN v_w) [(c_w, .int)])) (vp_Si (fun r => r = o)) 0 0 (fun _ => False) := by
  refine Met.ofW (cc := cX7_mOf) (maxL := 2) (ret := (some .int)) (by decide) rfl ?_
  intro p e s m args below meth c s₁ B hml hv
  obtain ⟨rfl, hP, hK, hN⟩ := hv
  have hl := lv_entry ([.ref h0, .int x1]) (n := 2) (Nat.le_of_ble_eq_true rfl)
  rw [lg_entry_eq]
  generalize (lg_sl ([.ref h0, .int x1]) ++ List.replicate (2 - (lg_sl ([.ref h0, .int x1])).length) Slot.unset).toArray = ls at hl ⊢
  exact b_X7_mOf h0 h_w h_word h_ahead h_behind h_restM h_restN h_powerM h_powerN h_row c_w v_known v_kept v_size v_high v_behindMany v_ends v_lead v_round v_worthM v_worthN v_w x1 o hF ⟨B.exec, B.bytes, hml, findClass_of_methodNamed B.named, atoms_spec (ws := wsX7_mOf) B.pre⟩ hN hK hP (fun ls pc hd => W.iret B.exec B.bytes B.returns (fun t ht hW => ⟨_, rfl, rfl, ht⟩) (fun q h => by cases h) hd B.notSynchronized) hl
theorem inn_X7_nOf_X7 : ∀ w ∈ wsX70, w ∈ wsX7_nOf := fun _ h => List.mem_cons_of_mem _ (List.mem_append_right _ h)
abbrev wd_X7_nOf (h0 h_w h_word h_ahead h_behind h_restM h_restN h_powerM h_powerN h_row : Nat) (c_w : ClassId) (v_known : Int32) (v_kept : Int32) (v_size : Int32) (v_high : Int32) (v_behindMany : Int32) (v_ends : Int32) (v_lead : Int32) (v_round : Int32) (v_worthM : Int64) (v_worthN : Int64) (v_w : (Nat → Int32)) : va_W := [(h0, .inr (7, [.ref h_w, .int v_known, .int v_kept, .ref h_word, .int v_size, .ref h_ahead, .int v_high, .ref h_behind, .int v_behindMany, .ref h_restM, .ref h_restN, .ref h_powerM, .ref h_powerN, .int v_ends, .int v_lead, .int v_round, .ref h_row, .long v_worthM, .long v_worthN])), (h_w, .inl (c_w, 110, .inl v_w))]
abbrev rm_X7_nOf : Room := { frames := 0, cells := 0, slots := 0, locals := 0 }
def F_X7_nOf (x1 : Int32) (v_w : (Nat → Int32)) : Option (Int32) := (ck ((3 : Int32) + ((2 : Int32) * x1)) 110 (some (v_w ((3 : Int32) + ((2 : Int32) * x1)).toNatClampNeg)))
set_option maxRecDepth 100000 in
set_option maxHeartbeats 4000000 in
theorem b_X7_nOf {p : Program} {l : Launch} {e : Env} {s : State} {m : MethodId} {args : Array Value} {below : List Frame} {meth : Method} {c : Code} {Q : State → Prop} {dC : Nat → ClassId} {dI : Nat → Nat → Nat} {H : Heap} {locs : List Loc} {ls : Array Slot} (h0 h_w h_word h_ahead h_behind h_restM h_restN h_powerM h_powerN h_row : Nat) (c_w : ClassId) (v_known : Int32) (v_kept : Int32) (v_size : Int32) (v_high : Int32) (v_behindMany : Int32) (v_ends : Int32) (v_lead : Int32) (v_round : Int32) (v_worthM : Int64) (v_worthN : Int64) (v_w : (Nat → Int32)) (x1 : Int32) (ou0 : Int32) (hF : F_X7_nOf x1 v_w = some ou0) (hC : CallFix p m c cX7_nOf 2 s args wsX7_nOf RX7) (hN : NW s) (hK : va_K (dC, dI) vwCl [(c_w, .int)] s) (hP : va_P (dC, dI) vwCl (wd_X7_nOf h0 h_w h_word h_ahead h_behind h_restM h_restN h_powerM h_powerN h_row c_w v_known v_kept v_size v_high v_behindMany v_ends v_lead v_round v_worthM v_worthN v_w) H) (hE : ∀ (ls : Array Slot) (pc : Nat), decode cX7_nOf pc = .ok (.ireturn, 1) → W p l e rm_X7_nOf s m args below meth c H locs 0 0 Q (F0 m pc ls [.int ou0])) (hl : lv_has ls 2 [(0, .ref h0), (1, .int x1)]) : W p l e rm_X7_nOf s m args below meth c H locs 0 0 Q (F0 m 0 ls []) := by
  obtain ⟨hx, hb, hml, hown, hts⟩ := id hC
  unfold F_X7_nOf at hF
  refine lv_aload_n hx hb dX7_nOf_0 rfl (lv_at hl 0 rfl) ?_
  refine va_get (D := (dC, dI)) (ci := 7) (v := .ref h_w) (C := RX7) (T := TX7) (N := 19) hx hb hts inn_X7_nOf_X7 hown hK hP 0 rfl rfl 0 (by decide) (hts (.fieldLink RX7 7 "RingBasesModel" "w" "[I") (List.mem_of_getElem? (i := 1) rfl)) (fun _ h9 => h9) rfl dX7_nOf_1 ?_
  refine lv_iconst (v := (3 : Int32)) hx hb dX7_nOf_4 (by decide) ?_
  refine lv_iconst (v := (2 : Int32)) hx hb dX7_nOf_5 (by decide) ?_
  refine lv_iload_n hx hb dX7_nOf_6 rfl (lv_at hl 1 rfl) ?_
  refine lv_imul hx hb dX7_nOf_7 ?_
  refine lv_iadd hx hb dX7_nOf_8 ?_
  obtain ⟨i_1, hF⟩ := ck_s hF
  refine va_iald hx hb hK hP 1 0 rfl rfl i_1 dX7_nOf_9 ?_
  obtain rfl := Option.some.inj hF; exact hE _ _ dX7_nOf_10
set_option maxRecDepth 100000 in
set_option maxHeartbeats 4000000 in
theorem c_X7_nOf (l : Launch) (dC : Nat → ClassId) (dI : Nat → Nat → Nat) (h0 h_w h_word h_ahead h_behind h_restM h_restN h_powerM h_powerN h_row : Nat) (c_w : ClassId) (v_known : Int32) (v_kept : Int32) (v_size : Int32) (v_high : Int32) (v_behindMany : Int32) (v_ends : Int32) (v_lead : Int32) (v_round : Int32) (v_worthM : Int64) (v_worthN : Int64) (v_w : (Nat → Int32)) (x1 : Int32) (o : Int32) (hF : F_X7_nOf x1 v_w = some o) : Met l yX7_nOf wsX7_nOf rm_X7_nOf (va_Pc [.ref h0, .int x1] (PcR dC dI (wd_X7_nOf h0 h_w h_word h_ahead h_behind h_restM h_restN h_powerM h_powerN h_row c_w v_known v_kept v_size v_high v_behindMany v_ends v_lead v_round v_worthM v_worthN v_w) [(c_w, .int)])) (vp_Si (fun r => r = o)) 0 0 (fun _ => False) := by
  refine Met.ofW (cc := cX7_nOf) (maxL := 2) (ret := (some .int)) (by decide) rfl ?_
  intro p e s m args below meth c s₁ B hml hv
  obtain ⟨rfl, hP, hK, hN⟩ := hv
  have hl := lv_entry ([.ref h0, .int x1]) (n := 2) (Nat.le_of_ble_eq_true rfl)
  rw [lg_entry_eq]
  generalize (lg_sl ([.ref h0, .int x1]) ++ List.replicate (2 - (lg_sl ([.ref h0, .int x1])).length) Slot.unset).toArray = ls at hl ⊢
  exact b_X7_nOf h0 h_w h_word h_ahead h_behind h_restM h_restN h_powerM h_powerN h_row c_w v_known v_kept v_size v_high v_behindMany v_ends v_lead v_round v_worthM v_worthN v_w x1 o hF ⟨B.exec, B.bytes, hml, findClass_of_methodNamed B.named, atoms_spec (ws := wsX7_nOf) B.pre⟩ hN hK hP (fun ls pc hd => W.iret B.exec B.bytes B.returns (fun t ht hW => ⟨_, rfl, rfl, ht⟩) (fun q h => by cases h) hd B.notSynchronized) hl
theorem inn_X7_set_X7 : ∀ w ∈ wsX70, w ∈ wsX7_set := fun _ h => List.mem_cons_of_mem _ (List.mem_append_right _ h)
abbrev wd_X7_set (h0 h_w h_word h_ahead h_behind h_restM h_restN h_powerM h_powerN h_row : Nat) (c_w : ClassId) (v_known : Int32) (v_kept : Int32) (v_size : Int32) (v_high : Int32) (v_behindMany : Int32) (v_ends : Int32) (v_lead : Int32) (v_round : Int32) (v_worthM : Int64) (v_worthN : Int64) (v_w : (Nat → Int32)) : va_W := [(h0, .inr (7, [.ref h_w, .int v_known, .int v_kept, .ref h_word, .int v_size, .ref h_ahead, .int v_high, .ref h_behind, .int v_behindMany, .ref h_restM, .ref h_restN, .ref h_powerM, .ref h_powerN, .int v_ends, .int v_lead, .int v_round, .ref h_row, .long v_worthM, .long v_worthN])), (h_w, .inl (c_w, 110, .inl v_w))]
abbrev rm_X7_set : Room := { frames := 2, cells := 0, slots := 0, locals := 48 }
def F_X7_set (x1 : Int32) (x2 : Int64) (x4 : Int64) (v_known : Int32) (v_w : (Nat → Int32)) : Option (Int32 × Int32 × (Nat → Int32)) := ((F_X7_remember v_known v_w).bind fun o_1 => (ck ((2 : Int32) + ((2 : Int32) * x1)) 110 (ck ((3 : Int32) + ((2 : Int32) * x1)) 110 (some ((F_X7_signOf x2 x4 (upd (upd o_1.2 ((2 : Int32) + ((2 : Int32) * x1)).toNatClampNeg x2.toInt32) ((3 : Int32) + ((2 : Int32) * x1)).toNatClampNeg x4.toInt32)), o_1.1, (upd (upd o_1.2 ((2 : Int32) + ((2 : Int32) * x1)).toNatClampNeg x2.toInt32) ((3 : Int32) + ((2 : Int32) * x1)).toNatClampNeg x4.toInt32))))))
set_option maxRecDepth 100000 in
set_option maxHeartbeats 4000000 in
theorem b_X7_set {p : Program} {l : Launch} {e : Env} {s : State} {m : MethodId} {args : Array Value} {below : List Frame} {meth : Method} {c : Code} {Q : State → Prop} {dC : Nat → ClassId} {dI : Nat → Nat → Nat} {H : Heap} {locs : List Loc} {ls : Array Slot} {A : Nat → Prop} (h0 h_w h_word h_ahead h_behind h_restM h_restN h_powerM h_powerN h_row : Nat) (c_w : ClassId) (v_known : Int32) (v_kept : Int32) (v_size : Int32) (v_high : Int32) (v_behindMany : Int32) (v_ends : Int32) (v_lead : Int32) (v_round : Int32) (v_worthM : Int64) (v_worthN : Int64) (v_w : (Nat → Int32)) (x1 : Int32) (x2 : Int64) (x4 : Int64) (ou0 : Int32) (ou1 : Int32) (ou2 : (Nat → Int32)) (hF : F_X7_set x1 x2 x4 v_known v_w = some (ou0, ou1, ou2)) (hC : CallFix p m c cX7_set 6 s args wsX7_set RX7) (hN : NW s) (hK : va_K (dC, dI) vwCl [(c_w, .int)] s) (hP : va_P (dC, dI) vwCl (wd_X7_set h0 h_w h_word h_ahead h_behind h_restM h_restN h_powerM h_powerN h_row c_w v_known v_kept v_size v_high v_behindMany v_ends v_lead v_round v_worthM v_worthN v_w) H) (hA : ∀ q, s.heap.size ≤ q → A q) (hD : va_D A (wd_X7_set h0 h_w h_word h_ahead h_behind h_restM h_restN h_powerM h_powerN h_row c_w v_known v_kept v_size v_high v_behindMany v_ends v_lead v_round v_worthM v_worthN v_w)) (hS : va_S A s.heap H locs) (hE : ∀ (H : Heap) (locs : List Loc) (ls : Array Slot) (pc : Nat), va_P (dC, dI) vwCl (wd_X7_set h0 h_w h_word h_ahead h_behind h_restM h_restN h_powerM h_powerN h_row c_w ou1 v_kept v_size v_high v_behindMany v_ends v_lead v_round v_worthM v_worthN ou2) H → va_S A s.heap H locs → decode cX7_set pc = .ok (.ireturn, 1) → W p l e rm_X7_set s m args below meth c H locs 0 0 Q (F0 m pc ls [.int ou0])) (hl : lv_has ls 6 [(0, .ref h0), (1, .int x1), (2, .long x2), (4, .long x4)]) : W p l e rm_X7_set s m args below meth c H locs 0 0 Q (F0 m 0 ls []) := by
  obtain ⟨hx, hb, hml, hown, hts⟩ := id hC
  have hD0 := hD
  unfold F_X7_set at hF
  refine lv_aload_n hx hb dX7_set_0 rfl (lv_at hl 0 rfl) ?_
  obtain ⟨o_1, hc_o_1, hF⟩ := bd_s hF
  refine wrVv (wc' := (wd_X7_remember h0 h_w h_word h_ahead h_behind h_restM h_restN h_powerM h_powerN h_row c_w o_1.1 v_kept v_size v_high v_behindMany v_ends v_lead v_round v_worthM v_worthN o_1.2)) (As := []) (rest := []) (b := h0) hC (c_X7_remember l dC dI H.size h0 h_w h_word h_ahead h_behind h_restM h_restN h_powerM h_powerN h_row c_w v_known v_kept v_size v_high v_behindMany v_ends v_lead v_round v_worthM v_worthN v_w  o_1 hc_o_1) (cwV 0 hts gX7_set_X7_remember rfl rfl rfl (by decide +kernel) ⟨Nat.le_of_ble_eq_true rfl, Nat.le_of_ble_eq_true rfl⟩) hN (hK.sub (tys' := [(c_w, .int)]) [0] rfl) hP hD hS hA [0, 1] rfl rfl rfl rfl 0 7 rfl rfl rfl rfl hl.1 (Nat.le_of_ble_eq_true rfl) dX7_set_1 ⟨Nat.zero_le _, Nat.zero_le _⟩ (fun H locs hP hS => ?_)
  have hP : va_P (dC, dI) vwCl (wd_X7_set h0 h_w h_word h_ahead h_behind h_restM h_restN h_powerM h_powerN h_row c_w o_1.1 v_kept v_size v_high v_behindMany v_ends v_lead v_round v_worthM v_worthN o_1.2) H := hP
  have hD : va_D A (wd_X7_set h0 h_w h_word h_ahead h_behind h_restM h_restN h_powerM h_powerN h_row c_w o_1.1 v_kept v_size v_high v_behindMany v_ends v_lead v_round v_worthM v_worthN o_1.2) := va_D.re hD rfl
  refine lv_aload_n hx hb dX7_set_4 rfl (lv_at hl 0 rfl) ?_
  refine va_get (D := (dC, dI)) (ci := 7) (v := .ref h_w) (C := RX7) (T := TX7) (N := 19) hx hb hts inn_X7_set_X7 hown hK hP 0 rfl rfl 0 (by decide) (hts (.fieldLink RX7 7 "RingBasesModel" "w" "[I") (List.mem_of_getElem? (i := 1) rfl)) (fun _ h9 => h9) rfl dX7_set_5 ?_
  refine lv_iconst (v := (2 : Int32)) hx hb dX7_set_8 (by decide) ?_
  refine lv_iconst (v := (2 : Int32)) hx hb dX7_set_9 (by decide) ?_
  refine lv_iload_n hx hb dX7_set_10 rfl (lv_at hl 1 rfl) ?_
  refine lv_imul hx hb dX7_set_11 ?_
  refine lv_iadd hx hb dX7_set_12 ?_
  refine lv_lload_n hx hb dX7_set_13 rfl (lv_at hl 2 rfl) ?_
  refine lv_l2i hx hb dX7_set_14 rfl ?_
  obtain ⟨i_2, hF⟩ := ck_s hF
  refine va_iast hx hb hK hP hD hS 1 0 rfl rfl i_2 dX7_set_15 (fun H locs hP hD hS => ?_)
  have hP : va_P (dC, dI) vwCl (wd_X7_set h0 h_w h_word h_ahead h_behind h_restM h_restN h_powerM h_powerN h_row c_w o_1.1 v_kept v_size v_high v_behindMany v_ends v_lead v_round v_worthM v_worthN (upd o_1.2 ((2 : Int32) + ((2 : Int32) * x1)).toNatClampNeg x2.toInt32)) H := hP
  have hD : va_D A (wd_X7_set h0 h_w h_word h_ahead h_behind h_restM h_restN h_powerM h_powerN h_row c_w o_1.1 v_kept v_size v_high v_behindMany v_ends v_lead v_round v_worthM v_worthN (upd o_1.2 ((2 : Int32) + ((2 : Int32) * x1)).toNatClampNeg x2.toInt32)) := hD
  refine lv_aload_n hx hb dX7_set_16 rfl (lv_at hl 0 rfl) ?_
  refine va_get (D := (dC, dI)) (ci := 7) (v := .ref h_w) (C := RX7) (T := TX7) (N := 19) hx hb hts inn_X7_set_X7 hown hK hP 0 rfl rfl 0 (by decide) (hts (.fieldLink RX7 7 "RingBasesModel" "w" "[I") (List.mem_of_getElem? (i := 1) rfl)) (fun _ h9 => h9) rfl dX7_set_17 ?_
  refine lv_iconst (v := (3 : Int32)) hx hb dX7_set_20 (by decide) ?_
  refine lv_iconst (v := (2 : Int32)) hx hb dX7_set_21 (by decide) ?_
  refine lv_iload_n hx hb dX7_set_22 rfl (lv_at hl 1 rfl) ?_
  refine lv_imul hx hb dX7_set_23 ?_
  refine lv_iadd hx hb dX7_set_24 ?_
  refine lv_lload hx hb dX7_set_25 (lv_at hl 3 rfl) ?_
  refine lv_l2i hx hb dX7_set_27 rfl ?_
  obtain ⟨i_3, hF⟩ := ck_s hF
  refine va_iast hx hb hK hP hD hS 1 0 rfl rfl i_3 dX7_set_28 (fun H locs hP hD hS => ?_)
  have hP : va_P (dC, dI) vwCl (wd_X7_set h0 h_w h_word h_ahead h_behind h_restM h_restN h_powerM h_powerN h_row c_w o_1.1 v_kept v_size v_high v_behindMany v_ends v_lead v_round v_worthM v_worthN (upd (upd o_1.2 ((2 : Int32) + ((2 : Int32) * x1)).toNatClampNeg x2.toInt32) ((3 : Int32) + ((2 : Int32) * x1)).toNatClampNeg x4.toInt32)) H := hP
  have hD : va_D A (wd_X7_set h0 h_w h_word h_ahead h_behind h_restM h_restN h_powerM h_powerN h_row c_w o_1.1 v_kept v_size v_high v_behindMany v_ends v_lead v_round v_worthM v_worthN (upd (upd o_1.2 ((2 : Int32) + ((2 : Int32) * x1)).toNatClampNeg x2.toInt32) ((3 : Int32) + ((2 : Int32) * x1)).toNatClampNeg x4.toInt32)) := hD
  refine lv_aload_n hx hb dX7_set_29 rfl (lv_at hl 0 rfl) ?_
  refine lv_lload_n hx hb dX7_set_30 rfl (lv_at hl 2 rfl) ?_
  refine lv_lload hx hb dX7_set_31 (lv_at hl 3 rfl) ?_
  refine rdVi (As := [.long x2, .long x4]) (rest := []) (b := h0) hC (c_X7_signOf l dC dI h0 h_w h_word h_ahead h_behind h_restM h_restN h_powerM h_powerN h_row c_w o_1.1 v_kept v_size v_high v_behindMany v_ends v_lead v_round v_worthM v_worthN (upd (upd o_1.2 ((2 : Int32) + ((2 : Int32) * x1)).toNatClampNeg x2.toInt32) ((3 : Int32) + ((2 : Int32) * x1)).toNatClampNeg x4.toInt32) x2 x4 (F_X7_signOf x2 x4 (upd (upd o_1.2 ((2 : Int32) + ((2 : Int32) * x1)).toNatClampNeg x2.toInt32) ((3 : Int32) + ((2 : Int32) * x1)).toNatClampNeg x4.toInt32)) rfl) (cwV 2 hts gX7_set_X7_signOf rfl rfl rfl (by decide +kernel) ⟨Nat.le_of_ble_eq_true rfl, Nat.le_of_ble_eq_true rfl⟩) hN (hK.sub (tys' := [(c_w, .int)]) [0] rfl) (hP.sub (ws' := (wd_X7_signOf h0 h_w h_word h_ahead h_behind h_restM h_restN h_powerM h_powerN h_row c_w o_1.1 v_kept v_size v_high v_behindMany v_ends v_lead v_round v_worthM v_worthN (upd (upd o_1.2 ((2 : Int32) + ((2 : Int32) * x1)).toNatClampNeg x2.toInt32) ((3 : Int32) + ((2 : Int32) * x1)).toNatClampNeg x4.toInt32))) [0, 1] rfl) 0 7 rfl rfl rfl rfl hl.1 (Nat.le_of_ble_eq_true rfl) dX7_set_33 ⟨Nat.zero_le _, Nat.zero_le _⟩ ?_
  obtain ⟨rfl, rfl, rfl⟩ := oks3 hF; exact hE _ _ _ _ hP hS dX7_set_36
set_option maxRecDepth 100000 in
set_option maxHeartbeats 4000000 in
theorem c_X7_set (l : Launch) (dC : Nat → ClassId) (dI : Nat → Nat → Nat) (sz : Nat) (h0 h_w h_word h_ahead h_behind h_restM h_restN h_powerM h_powerN h_row : Nat) (c_w : ClassId) (v_known : Int32) (v_kept : Int32) (v_size : Int32) (v_high : Int32) (v_behindMany : Int32) (v_ends : Int32) (v_lead : Int32) (v_round : Int32) (v_worthM : Int64) (v_worthN : Int64) (v_w : (Nat → Int32)) (x1 : Int32) (x2 : Int64) (x4 : Int64) (o : Int32 × Int32 × (Nat → Int32)) (hF : F_X7_set x1 x2 x4 v_known v_w = some o) : Met l yX7_set wsX7_set rm_X7_set (va_Pc [.ref h0, .int x1, .long x2, .long x4] (PcW dC dI sz (wd_X7_set h0 h_w h_word h_ahead h_behind h_restM h_restN h_powerM h_powerN h_row c_w v_known v_kept v_size v_high v_behindMany v_ends v_lead v_round v_worthM v_worthN v_w) [(c_w, .int)])) (va_Qi (fun (r : Int32) (_ : Unit) => r = o.1) (fun _ t => va_P (dC, dI) vwCl (wd_X7_set h0 h_w h_word h_ahead h_behind h_restM h_restN h_powerM h_powerN h_row c_w o.2.1 v_kept v_size v_high v_behindMany v_ends v_lead v_round v_worthM v_worthN o.2.2) t.heap) (va_A (wd_X7_set h0 h_w h_word h_ahead h_behind h_restM h_restN h_powerM h_powerN h_row c_w v_known v_kept v_size v_high v_behindMany v_ends v_lead v_round v_worthM v_worthN v_w) sz)) 0 0 (va_A (wd_X7_set h0 h_w h_word h_ahead h_behind h_restM h_restN h_powerM h_powerN h_row c_w v_known v_kept v_size v_high v_behindMany v_ends v_lead v_round v_worthM v_worthN v_w) sz) := by
  refine Met.ofW (cc := cX7_set) (maxL := 6) (ret := (some .int)) (by decide) rfl ?_
  intro p e s m args below meth c s₁ B hml hv
  obtain ⟨rfl, hsz, hP, hK, hD0, hN⟩ := hv
  subst hsz
  have hl := lv_entry ([.ref h0, .int x1, .long x2, .long x4]) (n := 6) (Nat.le_of_ble_eq_true rfl)
  rw [lg_entry_eq]
  generalize (lg_sl ([.ref h0, .int x1, .long x2, .long x4]) ++ List.replicate (6 - (lg_sl ([.ref h0, .int x1, .long x2, .long x4])).length) Slot.unset).toArray = ls at hl ⊢
  exact b_X7_set h0 h_w h_word h_ahead h_behind h_restM h_restN h_powerM h_powerN h_row c_w v_known v_kept v_size v_high v_behindMany v_ends v_lead v_round v_worthM v_worthN v_w x1 x2 x4 o.1 o.2.1 o.2.2 hF ⟨B.exec, B.bytes, hml, findClass_of_methodNamed B.named, atoms_spec (ws := wsX7_set) B.pre⟩ hN hK hP (fun q h => Or.inr h) (hD0.self (sz := s.heap.size)) va_S.rf (fun H locs ls pc hP hS hd => W.iret B.exec B.bytes B.returns (fun t ht hW => ⟨⟨_, (), rfl, rfl, by show va_P (dC, dI) vwCl _ t.heap; rw [ht]; exact hP⟩, hS.F ht⟩) hS.2.2 hd B.notSynchronized) hl
theorem inn_X7_base_X7 : ∀ w ∈ wsX70, w ∈ wsX7_base := fun _ h => List.mem_cons_of_mem _ (List.mem_append_right _ h)
abbrev wd_X7_base (h0 h_w h_word h_ahead h_behind h_restM h_restN h_powerM h_powerN h_row : Nat) (c_w : ClassId) (v_known : Int32) (v_kept : Int32) (v_size : Int32) (v_high : Int32) (v_behindMany : Int32) (v_ends : Int32) (v_lead : Int32) (v_round : Int32) (v_worthM : Int64) (v_worthN : Int64) (v_w : (Nat → Int32)) : va_W := [(h0, .inr (7, [.ref h_w, .int v_known, .int v_kept, .ref h_word, .int v_size, .ref h_ahead, .int v_high, .ref h_behind, .int v_behindMany, .ref h_restM, .ref h_restN, .ref h_powerM, .ref h_powerN, .int v_ends, .int v_lead, .int v_round, .ref h_row, .long v_worthM, .long v_worthN])), (h_w, .inl (c_w, 110, .inl v_w))]
abbrev rm_X7_base : Room := { frames := 2, cells := 0, slots := 0, locals := 44 }
def F_X7_base_57 (x1 : Int32) (x2 : Int32) (v_known : Int32) (v_w : (Nat → Int32)) (s0 : Int32) : Option (Int32 × Int32 × (Nat → Int32)) := (if s0 = 0 then (some ((-2000000002 : Int32), v_known, v_w)) else ((F_X7_remember v_known v_w).bind fun o_2 => (some ((F_X7_top (upd (upd o_2.2 (0 : Int32).toNatClampNeg x1) (1 : Int32).toNatClampNeg x2)), o_2.1, (upd (upd o_2.2 (0 : Int32).toNatClampNeg x1) (1 : Int32).toNatClampNeg x2)))))
def F_X7_base (x1 : Int32) (x2 : Int32) (v_known : Int32) (v_w : (Nat → Int32)) : Option (Int32 × Int32 × (Nat → Int32)) := (if (F_X7_in x1.toInt64 (1 : Int64) (9 : Int64)) = 0 then (F_X7_base_57  x1 x2 v_known v_w (0 : Int32)) else (if x2 = 0 then (F_X7_base_57  x1 x2 v_known v_w (0 : Int32)) else (if (-1 : Int32) ≤ ((2 : Int32) - x1) then (if (3 : Int32) ≤ x1 then (if (F_X7_in x2.toInt64 (-1 : Int64) x1.toInt64) = 0 then (F_X7_base_57  x1 x2 v_known v_w (0 : Int32)) else (F_X7_base_57  x1 x2 v_known v_w (1 : Int32))) else (if (F_X7_in x2.toInt64 (1 : Int64) x1.toInt64) = 0 then (F_X7_base_57  x1 x2 v_known v_w (0 : Int32)) else (F_X7_base_57  x1 x2 v_known v_w (1 : Int32)))) else (if (F_X7_in x2.toInt64 (((2 : Int32) - x1).toInt64) x1.toInt64) = 0 then (F_X7_base_57  x1 x2 v_known v_w (0 : Int32)) else (F_X7_base_57  x1 x2 v_known v_w (1 : Int32))))))
set_option maxRecDepth 100000 in
set_option maxHeartbeats 4000000 in
theorem b_X7_base {p : Program} {l : Launch} {e : Env} {s : State} {m : MethodId} {args : Array Value} {below : List Frame} {meth : Method} {c : Code} {Q : State → Prop} {dC : Nat → ClassId} {dI : Nat → Nat → Nat} {H : Heap} {locs : List Loc} {ls : Array Slot} {A : Nat → Prop} (h0 h_w h_word h_ahead h_behind h_restM h_restN h_powerM h_powerN h_row : Nat) (c_w : ClassId) (v_known : Int32) (v_kept : Int32) (v_size : Int32) (v_high : Int32) (v_behindMany : Int32) (v_ends : Int32) (v_lead : Int32) (v_round : Int32) (v_worthM : Int64) (v_worthN : Int64) (v_w : (Nat → Int32)) (x1 : Int32) (x2 : Int32) (ou0 : Int32) (ou1 : Int32) (ou2 : (Nat → Int32)) (hF : F_X7_base x1 x2 v_known v_w = some (ou0, ou1, ou2)) (hC : CallFix p m c cX7_base 4 s args wsX7_base RX7) (hN : NW s) (hK : va_K (dC, dI) vwCl [(c_w, .int)] s) (hP : va_P (dC, dI) vwCl (wd_X7_base h0 h_w h_word h_ahead h_behind h_restM h_restN h_powerM h_powerN h_row c_w v_known v_kept v_size v_high v_behindMany v_ends v_lead v_round v_worthM v_worthN v_w) H) (hA : ∀ q, s.heap.size ≤ q → A q) (hD : va_D A (wd_X7_base h0 h_w h_word h_ahead h_behind h_restM h_restN h_powerM h_powerN h_row c_w v_known v_kept v_size v_high v_behindMany v_ends v_lead v_round v_worthM v_worthN v_w)) (hS : va_S A s.heap H locs) (hE : ∀ (H : Heap) (locs : List Loc) (ls : Array Slot) (pc : Nat), va_P (dC, dI) vwCl (wd_X7_base h0 h_w h_word h_ahead h_behind h_restM h_restN h_powerM h_powerN h_row c_w ou1 v_kept v_size v_high v_behindMany v_ends v_lead v_round v_worthM v_worthN ou2) H → va_S A s.heap H locs → decode cX7_base pc = .ok (.ireturn, 1) → W p l e rm_X7_base s m args below meth c H locs 0 0 Q (F0 m pc ls [.int ou0])) (hl : lv_has ls 4 [(0, .ref h0), (1, .int x1), (2, .int x2)]) : W p l e rm_X7_base s m args below meth c H locs 0 0 Q (F0 m 0 ls []) := by
  obtain ⟨hx, hb, hml, hown, hts⟩ := id hC
  have hD0 := hD
  unfold F_X7_base at hF
  have k_57 : ∀ (v_known : Int32) (v_w : (Nat → Int32)) (s0 : Int32), F_X7_base_57  x1 x2 v_known v_w s0 = some (ou0, ou1, ou2) → ∀ (H : Heap) (locs : List Loc), va_P (dC, dI) vwCl (wd_X7_base h0 h_w h_word h_ahead h_behind h_restM h_restN h_powerM h_powerN h_row c_w v_known v_kept v_size v_high v_behindMany v_ends v_lead v_round v_worthM v_worthN v_w) H → va_S A s.heap H locs → ∀ ls : Array Slot, lv_has ls 4 [(0, .ref h0), (1, .int x1), (2, .int x2)] → W p l e rm_X7_base s m args below meth c H locs 0 0 Q (F0 m 57 ls [.int s0]) := by
    intro v_known v_w s0 hF H locs hP hS ls hl
    rw [F_X7_base_57] at hF
    have hD : va_D A (wd_X7_base h0 h_w h_word h_ahead h_behind h_restM h_restN h_powerM h_powerN h_row c_w v_known v_kept v_size v_high v_behindMany v_ends v_lead v_round v_worthM v_worthN v_w) := hD0.re rfl
    refine lv_istore_n (lv' := [(3, .int s0), (0, .ref h0), (1, .int x1), (2, .int x2)]) hx hb dX7_base_57 rfl hl (by decide) rfl (fun ls hl => ?_)
    refine lv_iload_n hx hb dX7_base_58 rfl (lv_at hl 0 rfl) ?_
    refine lv_if_ne (tgt := 65) hx hb dX7_base_59 (by decide) (fun g_1 => ?_) (fun g_1 => ?_)
    · replace hF := ite_f g_1 hF
      refine lv_aload_n hx hb dX7_base_65 rfl (lv_at hl 1 rfl) ?_
      obtain ⟨o_2, hc_o_2, hF⟩ := bd_s hF
      refine wrVv (wc' := (wd_X7_remember h0 h_w h_word h_ahead h_behind h_restM h_restN h_powerM h_powerN h_row c_w o_2.1 v_kept v_size v_high v_behindMany v_ends v_lead v_round v_worthM v_worthN o_2.2)) (As := []) (rest := []) (b := h0) hC (c_X7_remember l dC dI H.size h0 h_w h_word h_ahead h_behind h_restM h_restN h_powerM h_powerN h_row c_w v_known v_kept v_size v_high v_behindMany v_ends v_lead v_round v_worthM v_worthN v_w  o_2 hc_o_2) (cwV 0 hts gX7_base_X7_remember rfl rfl rfl (by decide +kernel) ⟨Nat.le_of_ble_eq_true rfl, Nat.le_of_ble_eq_true rfl⟩) hN (hK.sub (tys' := [(c_w, .int)]) [0] rfl) hP hD hS hA [0, 1] rfl rfl rfl rfl 0 7 rfl rfl rfl rfl hl.1 (Nat.le_of_ble_eq_true rfl) dX7_base_66 ⟨Nat.zero_le _, Nat.zero_le _⟩ (fun H locs hP hS => ?_)
      have hP : va_P (dC, dI) vwCl (wd_X7_base h0 h_w h_word h_ahead h_behind h_restM h_restN h_powerM h_powerN h_row c_w o_2.1 v_kept v_size v_high v_behindMany v_ends v_lead v_round v_worthM v_worthN o_2.2) H := hP
      have hD : va_D A (wd_X7_base h0 h_w h_word h_ahead h_behind h_restM h_restN h_powerM h_powerN h_row c_w o_2.1 v_kept v_size v_high v_behindMany v_ends v_lead v_round v_worthM v_worthN o_2.2) := va_D.re hD rfl
      refine lv_aload_n hx hb dX7_base_69 rfl (lv_at hl 1 rfl) ?_
      refine va_get (D := (dC, dI)) (ci := 7) (v := .ref h_w) (C := RX7) (T := TX7) (N := 19) hx hb hts inn_X7_base_X7 hown hK hP 0 rfl rfl 0 (by decide) (hts (.fieldLink RX7 7 "RingBasesModel" "w" "[I") (List.mem_of_getElem? (i := 4) rfl)) (fun _ h9 => h9) rfl dX7_base_70 ?_
      refine lv_iconst (v := (0 : Int32)) hx hb dX7_base_73 (by decide) ?_
      refine lv_iload_n hx hb dX7_base_74 rfl (lv_at hl 2 rfl) ?_
      refine va_iast hx hb hK hP hD hS 1 0 rfl rfl (by unfold vp_in; decide) dX7_base_75 (fun H locs hP hD hS => ?_)
      have hP : va_P (dC, dI) vwCl (wd_X7_base h0 h_w h_word h_ahead h_behind h_restM h_restN h_powerM h_powerN h_row c_w o_2.1 v_kept v_size v_high v_behindMany v_ends v_lead v_round v_worthM v_worthN (upd o_2.2 (0 : Int32).toNatClampNeg x1)) H := hP
      have hD : va_D A (wd_X7_base h0 h_w h_word h_ahead h_behind h_restM h_restN h_powerM h_powerN h_row c_w o_2.1 v_kept v_size v_high v_behindMany v_ends v_lead v_round v_worthM v_worthN (upd o_2.2 (0 : Int32).toNatClampNeg x1)) := hD
      refine lv_aload_n hx hb dX7_base_76 rfl (lv_at hl 1 rfl) ?_
      refine va_get (D := (dC, dI)) (ci := 7) (v := .ref h_w) (C := RX7) (T := TX7) (N := 19) hx hb hts inn_X7_base_X7 hown hK hP 0 rfl rfl 0 (by decide) (hts (.fieldLink RX7 7 "RingBasesModel" "w" "[I") (List.mem_of_getElem? (i := 4) rfl)) (fun _ h9 => h9) rfl dX7_base_77 ?_
      refine lv_iconst (v := (1 : Int32)) hx hb dX7_base_80 (by decide) ?_
      refine lv_iload_n hx hb dX7_base_81 rfl (lv_at hl 3 rfl) ?_
      refine va_iast hx hb hK hP hD hS 1 0 rfl rfl (by unfold vp_in; decide) dX7_base_82 (fun H locs hP hD hS => ?_)
      have hP : va_P (dC, dI) vwCl (wd_X7_base h0 h_w h_word h_ahead h_behind h_restM h_restN h_powerM h_powerN h_row c_w o_2.1 v_kept v_size v_high v_behindMany v_ends v_lead v_round v_worthM v_worthN (upd (upd o_2.2 (0 : Int32).toNatClampNeg x1) (1 : Int32).toNatClampNeg x2)) H := hP
      have hD : va_D A (wd_X7_base h0 h_w h_word h_ahead h_behind h_restM h_restN h_powerM h_powerN h_row c_w o_2.1 v_kept v_size v_high v_behindMany v_ends v_lead v_round v_worthM v_worthN (upd (upd o_2.2 (0 : Int32).toNatClampNeg x1) (1 : Int32).toNatClampNeg x2)) := hD
      refine lv_aload_n hx hb dX7_base_83 rfl (lv_at hl 1 rfl) ?_
      refine rdVi (As := []) (rest := []) (b := h0) hC (c_X7_top l dC dI h0 h_w h_word h_ahead h_behind h_restM h_restN h_powerM h_powerN h_row c_w o_2.1 v_kept v_size v_high v_behindMany v_ends v_lead v_round v_worthM v_worthN (upd (upd o_2.2 (0 : Int32).toNatClampNeg x1) (1 : Int32).toNatClampNeg x2)  (F_X7_top (upd (upd o_2.2 (0 : Int32).toNatClampNeg x1) (1 : Int32).toNatClampNeg x2)) rfl) (cwV 0 hts gX7_base_X7_top rfl rfl rfl (by decide +kernel) ⟨Nat.le_of_ble_eq_true rfl, Nat.le_of_ble_eq_true rfl⟩) hN (hK.sub (tys' := [(c_w, .int)]) [0] rfl) (hP.sub (ws' := (wd_X7_top h0 h_w h_word h_ahead h_behind h_restM h_restN h_powerM h_powerN h_row c_w o_2.1 v_kept v_size v_high v_behindMany v_ends v_lead v_round v_worthM v_worthN (upd (upd o_2.2 (0 : Int32).toNatClampNeg x1) (1 : Int32).toNatClampNeg x2))) [0, 1] rfl) 0 7 rfl rfl rfl rfl hl.1 (Nat.le_of_ble_eq_true rfl) dX7_base_84 ⟨Nat.zero_le _, Nat.zero_le _⟩ ?_
      obtain ⟨rfl, rfl, rfl⟩ := oks3 hF; exact hE _ _ _ _ hP hS dX7_base_87
    · replace hF := ite_t g_1 hF
      refine lv_ldc (v := (-2000000002 : Int32)) hx hb hown (hts (.constant RX7 156 (-2000000002)) (List.mem_of_getElem? (i := 3) rfl)) dX7_base_62 ?_
      obtain ⟨rfl, rfl, rfl⟩ := oks3 hF; exact hE _ _ _ _ hP hS dX7_base_64
  refine lv_iload_n hx hb dX7_base_0 rfl (lv_at hl 1 rfl) ?_
  refine lv_i2l hx hb dX7_base_1 rfl ?_
  refine lv_lconst (v := (1 : Int64)) hx hb dX7_base_2 (by decide) ?_
  refine lv_ldc2 (v := (9 : Int64)) hx hb hown (hts (.constantLong RX7 152 (9)) (List.mem_of_getElem? (i := 1) rfl)) dX7_base_3 ?_
  refine rdSi (As := [.long x1.toInt64, .long (1 : Int64), .long (9 : Int64)]) (rest := []) hC (c_X7_in l dC dI  x1.toInt64 (1 : Int64) (9 : Int64) (F_X7_in x1.toInt64 (1 : Int64) (9 : Int64)) rfl) (va_cwS 3 hts gX7_base_X7_in rfl rfl rfl (by decide +kernel) ⟨Nat.le_of_ble_eq_true rfl, Nat.le_of_ble_eq_true rfl⟩) hN (hK.sub (tys' := []) [] rfl) (hP.sub (ws' := wd_X7_in) [] rfl) rfl rfl hl.1 (Nat.le_of_ble_eq_true rfl) dX7_base_6 ⟨Nat.zero_le _, Nat.zero_le _⟩ ?_
  refine lv_if_eq (tgt := 56) hx hb dX7_base_9 (by decide) (fun g_3 => ?_) (fun g_3 => ?_)
  · replace hF := ite_t g_3 hF
    refine lv_iconst (v := (0 : Int32)) hx hb dX7_base_56 (by decide) ?_
    exact k_57 v_known v_w (0 : Int32) hF H locs hP hS ls (lv_sub hl [0, 1, 2] rfl)
  · replace hF := ite_f g_3 hF
    refine lv_iload_n hx hb dX7_base_12 rfl (lv_at hl 2 rfl) ?_
    refine lv_if_eq (tgt := 56) hx hb dX7_base_13 (by decide) (fun g_4 => ?_) (fun g_4 => ?_)
    · replace hF := ite_t g_4 hF
      refine lv_iconst (v := (0 : Int32)) hx hb dX7_base_56 (by decide) ?_
      exact k_57 v_known v_w (0 : Int32) hF H locs hP hS ls (lv_sub hl [0, 1, 2] rfl)
    · replace hF := ite_f g_4 hF
      refine lv_iload_n hx hb dX7_base_16 rfl (lv_at hl 2 rfl) ?_
      refine lv_i2l hx hb dX7_base_17 rfl ?_
      refine lv_iconst (v := (2 : Int32)) hx hb dX7_base_18 (by decide) ?_
      refine lv_iload_n hx hb dX7_base_19 rfl (lv_at hl 1 rfl) ?_
      refine lv_isub hx hb dX7_base_20 ?_
      refine lv_iconst (v := (-1 : Int32)) hx hb dX7_base_21 (by decide) ?_
      refine lv_icmp_ge (tgt := 32) hx hb dX7_base_22 (by decide) (fun g_5 => ?_) (fun g_5 => ?_)
      · replace hF := ite_t g_5 hF
        refine lv_iload_n hx hb dX7_base_32 rfl (lv_at hl 1 rfl) ?_
        refine lv_iconst (v := (3 : Int32)) hx hb dX7_base_33 (by decide) ?_
        refine lv_icmp_ge (tgt := 41) hx hb dX7_base_34 (by decide) (fun g_6 => ?_) (fun g_6 => ?_)
        · replace hF := ite_t g_6 hF
          refine lv_ldc2 (v := (-1 : Int64)) hx hb hown (hts (.constantLong RX7 154 (-1)) (List.mem_of_getElem? (i := 2) rfl)) dX7_base_41 ?_
          refine lv_iload_n hx hb dX7_base_44 rfl (lv_at hl 1 rfl) ?_
          refine lv_i2l hx hb dX7_base_45 rfl ?_
          refine rdSi (As := [.long x2.toInt64, .long (-1 : Int64), .long x1.toInt64]) (rest := []) hC (c_X7_in l dC dI  x2.toInt64 (-1 : Int64) x1.toInt64 (F_X7_in x2.toInt64 (-1 : Int64) x1.toInt64) rfl) (va_cwS 3 hts gX7_base_X7_in rfl rfl rfl (by decide +kernel) ⟨Nat.le_of_ble_eq_true rfl, Nat.le_of_ble_eq_true rfl⟩) hN (hK.sub (tys' := []) [] rfl) (hP.sub (ws' := wd_X7_in) [] rfl) rfl rfl hl.1 (Nat.le_of_ble_eq_true rfl) dX7_base_46 ⟨Nat.zero_le _, Nat.zero_le _⟩ ?_
          refine lv_if_eq (tgt := 56) hx hb dX7_base_49 (by decide) (fun g_7 => ?_) (fun g_7 => ?_)
          · replace hF := ite_t g_7 hF
            refine lv_iconst (v := (0 : Int32)) hx hb dX7_base_56 (by decide) ?_
            exact k_57 v_known v_w (0 : Int32) hF H locs hP hS ls (lv_sub hl [0, 1, 2] rfl)
          · replace hF := ite_f g_7 hF
            refine lv_iconst (v := (1 : Int32)) hx hb dX7_base_52 (by decide) ?_
            refine lv_goto (tgt := 57) hx hb dX7_base_53 (by decide) ?_
            exact k_57 v_known v_w (1 : Int32) hF H locs hP hS ls (lv_sub hl [0, 1, 2] rfl)
        · replace hF := ite_f g_6 hF
          refine lv_lconst (v := (1 : Int64)) hx hb dX7_base_37 (by decide) ?_
          refine lv_goto (tgt := 44) hx hb dX7_base_38 (by decide) ?_
          refine lv_iload_n hx hb dX7_base_44 rfl (lv_at hl 1 rfl) ?_
          refine lv_i2l hx hb dX7_base_45 rfl ?_
          refine rdSi (As := [.long x2.toInt64, .long (1 : Int64), .long x1.toInt64]) (rest := []) hC (c_X7_in l dC dI  x2.toInt64 (1 : Int64) x1.toInt64 (F_X7_in x2.toInt64 (1 : Int64) x1.toInt64) rfl) (va_cwS 3 hts gX7_base_X7_in rfl rfl rfl (by decide +kernel) ⟨Nat.le_of_ble_eq_true rfl, Nat.le_of_ble_eq_true rfl⟩) hN (hK.sub (tys' := []) [] rfl) (hP.sub (ws' := wd_X7_in) [] rfl) rfl rfl hl.1 (Nat.le_of_ble_eq_true rfl) dX7_base_46 ⟨Nat.zero_le _, Nat.zero_le _⟩ ?_
          refine lv_if_eq (tgt := 56) hx hb dX7_base_49 (by decide) (fun g_8 => ?_) (fun g_8 => ?_)
          · replace hF := ite_t g_8 hF
            refine lv_iconst (v := (0 : Int32)) hx hb dX7_base_56 (by decide) ?_
            exact k_57 v_known v_w (0 : Int32) hF H locs hP hS ls (lv_sub hl [0, 1, 2] rfl)
          · replace hF := ite_f g_8 hF
            refine lv_iconst (v := (1 : Int32)) hx hb dX7_base_52 (by decide) ?_
            refine lv_goto (tgt := 57) hx hb dX7_base_53 (by decide) ?_
            exact k_57 v_known v_w (1 : Int32) hF H locs hP hS ls (lv_sub hl [0, 1, 2] rfl)
      · replace hF := ite_f g_5 hF
        refine lv_iconst (v := (2 : Int32)) hx hb dX7_base_25 (by decide) ?_
        refine lv_iload_n hx hb dX7_base_26 rfl (lv_at hl 1 rfl) ?_
        refine lv_isub hx hb dX7_base_27 ?_
        refine lv_i2l hx hb dX7_base_28 rfl ?_
        refine lv_goto (tgt := 44) hx hb dX7_base_29 (by decide) ?_
        refine lv_iload_n hx hb dX7_base_44 rfl (lv_at hl 1 rfl) ?_
        refine lv_i2l hx hb dX7_base_45 rfl ?_
        refine rdSi (As := [.long x2.toInt64, .long ((2 : Int32) - x1).toInt64, .long x1.toInt64]) (rest := []) hC (c_X7_in l dC dI  x2.toInt64 (((2 : Int32) - x1).toInt64) x1.toInt64 (F_X7_in x2.toInt64 (((2 : Int32) - x1).toInt64) x1.toInt64) rfl) (va_cwS 3 hts gX7_base_X7_in rfl rfl rfl (by decide +kernel) ⟨Nat.le_of_ble_eq_true rfl, Nat.le_of_ble_eq_true rfl⟩) hN (hK.sub (tys' := []) [] rfl) (hP.sub (ws' := wd_X7_in) [] rfl) rfl rfl hl.1 (Nat.le_of_ble_eq_true rfl) dX7_base_46 ⟨Nat.zero_le _, Nat.zero_le _⟩ ?_
        refine lv_if_eq (tgt := 56) hx hb dX7_base_49 (by decide) (fun g_9 => ?_) (fun g_9 => ?_)
        · replace hF := ite_t g_9 hF
          refine lv_iconst (v := (0 : Int32)) hx hb dX7_base_56 (by decide) ?_
          exact k_57 v_known v_w (0 : Int32) hF H locs hP hS ls (lv_sub hl [0, 1, 2] rfl)
        · replace hF := ite_f g_9 hF
          refine lv_iconst (v := (1 : Int32)) hx hb dX7_base_52 (by decide) ?_
          refine lv_goto (tgt := 57) hx hb dX7_base_53 (by decide) ?_
          exact k_57 v_known v_w (1 : Int32) hF H locs hP hS ls (lv_sub hl [0, 1, 2] rfl)
set_option maxRecDepth 100000 in
set_option maxHeartbeats 4000000 in
theorem c_X7_base (l : Launch) (dC : Nat → ClassId) (dI : Nat → Nat → Nat) (sz : Nat) (h0 h_w h_word h_ahead h_behind h_restM h_restN h_powerM h_powerN h_row : Nat) (c_w : ClassId) (v_known : Int32) (v_kept : Int32) (v_size : Int32) (v_high : Int32) (v_behindMany : Int32) (v_ends : Int32) (v_lead : Int32) (v_round : Int32) (v_worthM : Int64) (v_worthN : Int64) (v_w : (Nat → Int32)) (x1 : Int32) (x2 : Int32) (o : Int32 × Int32 × (Nat → Int32)) (hF : F_X7_base x1 x2 v_known v_w = some o) : Met l yX7_base wsX7_base rm_X7_base (va_Pc [.ref h0, .int x1, .int x2] (PcW dC dI sz (wd_X7_base h0 h_w h_word h_ahead h_behind h_restM h_restN h_powerM h_powerN h_row c_w v_known v_kept v_size v_high v_behindMany v_ends v_lead v_round v_worthM v_worthN v_w) [(c_w, .int)])) (va_Qi (fun (r : Int32) (_ : Unit) => r = o.1) (fun _ t => va_P (dC, dI) vwCl (wd_X7_base h0 h_w h_word h_ahead h_behind h_restM h_restN h_powerM h_powerN h_row c_w o.2.1 v_kept v_size v_high v_behindMany v_ends v_lead v_round v_worthM v_worthN o.2.2) t.heap) (va_A (wd_X7_base h0 h_w h_word h_ahead h_behind h_restM h_restN h_powerM h_powerN h_row c_w v_known v_kept v_size v_high v_behindMany v_ends v_lead v_round v_worthM v_worthN v_w) sz)) 0 0 (va_A (wd_X7_base h0 h_w h_word h_ahead h_behind h_restM h_restN h_powerM h_powerN h_row c_w v_known v_kept v_size v_high v_behindMany v_ends v_lead v_round v_worthM v_worthN v_w) sz) := by
  refine Met.ofW (cc := cX7_base) (maxL := 4) (ret := (some .int)) (by decide) rfl ?_
  intro p e s m args below meth c s₁ B hml hv
  obtain ⟨rfl, hsz, hP, hK, hD0, hN⟩ := hv
  subst hsz
  have hl := lv_entry ([.ref h0, .int x1, .int x2]) (n := 4) (Nat.le_of_ble_eq_true rfl)
  rw [lg_entry_eq]
  generalize (lg_sl ([.ref h0, .int x1, .int x2]) ++ List.replicate (4 - (lg_sl ([.ref h0, .int x1, .int x2])).length) Slot.unset).toArray = ls at hl ⊢
  exact b_X7_base h0 h_w h_word h_ahead h_behind h_restM h_restN h_powerM h_powerN h_row c_w v_known v_kept v_size v_high v_behindMany v_ends v_lead v_round v_worthM v_worthN v_w x1 x2 o.1 o.2.1 o.2.2 hF ⟨B.exec, B.bytes, hml, findClass_of_methodNamed B.named, atoms_spec (ws := wsX7_base) B.pre⟩ hN hK hP (fun q h => Or.inr h) (hD0.self (sz := s.heap.size)) va_S.rf (fun H locs ls pc hP hS hd => W.iret B.exec B.bytes B.returns (fun t ht hW => ⟨⟨_, (), rfl, rfl, by show va_P (dC, dI) vwCl _ t.heap; rw [ht]; exact hP⟩, hS.F ht⟩) hS.2.2 hd B.notSynchronized) hl
abbrev wd_X7_put (h0 h_w h_word h_ahead h_behind h_restM h_restN h_powerM h_powerN h_row : Nat) (c_w : ClassId) (v_known : Int32) (v_kept : Int32) (v_size : Int32) (v_high : Int32) (v_behindMany : Int32) (v_ends : Int32) (v_lead : Int32) (v_round : Int32) (v_worthM : Int64) (v_worthN : Int64) (v_w : (Nat → Int32)) : va_W := [(h0, .inr (7, [.ref h_w, .int v_known, .int v_kept, .ref h_word, .int v_size, .ref h_ahead, .int v_high, .ref h_behind, .int v_behindMany, .ref h_restM, .ref h_restN, .ref h_powerM, .ref h_powerN, .int v_ends, .int v_lead, .int v_round, .ref h_row, .long v_worthM, .long v_worthN])), (h_w, .inl (c_w, 110, .inl v_w))]
abbrev rm_X7_put : Room := { frames := 3, cells := 0, slots := 0, locals := 73 }
def F_X7_put (x1 : Int32) (x2 : Int32) (x3 : Int32) (v_known : Int32) (v_w : (Nat → Int32)) : Option (Int32 × Int32 × (Nat → Int32)) := (if (F_X7_isShelf x1) = 0 then (some ((-2000000001 : Int32), v_known, v_w)) else (if (F_X7_in x2.toInt64 (-999999 : Int64) (999999 : Int64)) = 0 then (some ((-2000000002 : Int32), v_known, v_w)) else (if (F_X7_in x3.toInt64 (-999999 : Int64) (999999 : Int64)) = 0 then (some ((-2000000002 : Int32), v_known, v_w)) else ((F_X7_set x1 x2.toInt64 x3.toInt64 v_known v_w).bind fun o_4 => (some (o_4.1, o_4.2.1, o_4.2.2))))))
set_option maxRecDepth 100000 in
set_option maxHeartbeats 4000000 in
theorem b_X7_put {p : Program} {l : Launch} {e : Env} {s : State} {m : MethodId} {args : Array Value} {below : List Frame} {meth : Method} {c : Code} {Q : State → Prop} {dC : Nat → ClassId} {dI : Nat → Nat → Nat} {H : Heap} {locs : List Loc} {ls : Array Slot} {A : Nat → Prop} (h0 h_w h_word h_ahead h_behind h_restM h_restN h_powerM h_powerN h_row : Nat) (c_w : ClassId) (v_known : Int32) (v_kept : Int32) (v_size : Int32) (v_high : Int32) (v_behindMany : Int32) (v_ends : Int32) (v_lead : Int32) (v_round : Int32) (v_worthM : Int64) (v_worthN : Int64) (v_w : (Nat → Int32)) (x1 : Int32) (x2 : Int32) (x3 : Int32) (ou0 : Int32) (ou1 : Int32) (ou2 : (Nat → Int32)) (hF : F_X7_put x1 x2 x3 v_known v_w = some (ou0, ou1, ou2)) (hC : CallFix p m c cX7_put 4 s args wsX7_put RX7) (hN : NW s) (hK : va_K (dC, dI) vwCl [(c_w, .int)] s) (hP : va_P (dC, dI) vwCl (wd_X7_put h0 h_w h_word h_ahead h_behind h_restM h_restN h_powerM h_powerN h_row c_w v_known v_kept v_size v_high v_behindMany v_ends v_lead v_round v_worthM v_worthN v_w) H) (hA : ∀ q, s.heap.size ≤ q → A q) (hD : va_D A (wd_X7_put h0 h_w h_word h_ahead h_behind h_restM h_restN h_powerM h_powerN h_row c_w v_known v_kept v_size v_high v_behindMany v_ends v_lead v_round v_worthM v_worthN v_w)) (hS : va_S A s.heap H locs) (hE : ∀ (H : Heap) (locs : List Loc) (ls : Array Slot) (pc : Nat), va_P (dC, dI) vwCl (wd_X7_put h0 h_w h_word h_ahead h_behind h_restM h_restN h_powerM h_powerN h_row c_w ou1 v_kept v_size v_high v_behindMany v_ends v_lead v_round v_worthM v_worthN ou2) H → va_S A s.heap H locs → decode cX7_put pc = .ok (.ireturn, 1) → W p l e rm_X7_put s m args below meth c H locs 0 0 Q (F0 m pc ls [.int ou0])) (hl : lv_has ls 4 [(0, .ref h0), (1, .int x1), (2, .int x2), (3, .int x3)]) : W p l e rm_X7_put s m args below meth c H locs 0 0 Q (F0 m 0 ls []) := by
  obtain ⟨hx, hb, hml, hown, hts⟩ := id hC
  have hD0 := hD
  unfold F_X7_put at hF
  refine lv_iload_n hx hb dX7_put_0 rfl (lv_at hl 1 rfl) ?_
  refine rdSi (As := [.int x1]) (rest := []) hC (c_X7_isShelf l dC dI  x1 (F_X7_isShelf x1) rfl) (va_cwS 1 hts gX7_put_X7_isShelf rfl rfl rfl (by decide +kernel) ⟨Nat.le_of_ble_eq_true rfl, Nat.le_of_ble_eq_true rfl⟩) hN (hK.sub (tys' := []) [] rfl) (hP.sub (ws' := wd_X7_isShelf) [] rfl) rfl rfl hl.1 (Nat.le_of_ble_eq_true rfl) dX7_put_1 ⟨Nat.zero_le _, Nat.zero_le _⟩ ?_
  refine lv_if_ne (tgt := 10) hx hb dX7_put_4 (by decide) (fun g_1 => ?_) (fun g_1 => ?_)
  · replace hF := ite_f g_1 hF
    refine lv_iload_n hx hb dX7_put_10 rfl (lv_at hl 2 rfl) ?_
    refine lv_i2l hx hb dX7_put_11 rfl ?_
    refine lv_ldc2 (v := (-999999 : Int64)) hx hb hown (hts (.constantLong RX7 127 (-999999)) (List.mem_of_getElem? (i := 2) rfl)) dX7_put_12 ?_
    refine lv_ldc2 (v := (999999 : Int64)) hx hb hown (hts (.constantLong RX7 129 (999999)) (List.mem_of_getElem? (i := 3) rfl)) dX7_put_15 ?_
    refine rdSi (As := [.long x2.toInt64, .long (-999999 : Int64), .long (999999 : Int64)]) (rest := []) hC (c_X7_in l dC dI  x2.toInt64 (-999999 : Int64) (999999 : Int64) (F_X7_in x2.toInt64 (-999999 : Int64) (999999 : Int64)) rfl) (va_cwS 3 hts gX7_put_X7_in rfl rfl rfl (by decide +kernel) ⟨Nat.le_of_ble_eq_true rfl, Nat.le_of_ble_eq_true rfl⟩) hN (hK.sub (tys' := []) [] rfl) (hP.sub (ws' := wd_X7_in) [] rfl) rfl rfl hl.1 (Nat.le_of_ble_eq_true rfl) dX7_put_18 ⟨Nat.zero_le _, Nat.zero_le _⟩ ?_
    refine lv_if_eq (tgt := 50) hx hb dX7_put_21 (by decide) (fun g_2 => ?_) (fun g_2 => ?_)
    · replace hF := ite_t g_2 hF
      refine lv_ldc (v := (-2000000002 : Int32)) hx hb hown (hts (.constant RX7 156 (-2000000002)) (List.mem_of_getElem? (i := 4) rfl)) dX7_put_50 ?_
      obtain ⟨rfl, rfl, rfl⟩ := oks3 hF; exact hE _ _ _ _ hP hS dX7_put_52
    · replace hF := ite_f g_2 hF
      refine lv_iload_n hx hb dX7_put_24 rfl (lv_at hl 3 rfl) ?_
      refine lv_i2l hx hb dX7_put_25 rfl ?_
      refine lv_ldc2 (v := (-999999 : Int64)) hx hb hown (hts (.constantLong RX7 127 (-999999)) (List.mem_of_getElem? (i := 2) rfl)) dX7_put_26 ?_
      refine lv_ldc2 (v := (999999 : Int64)) hx hb hown (hts (.constantLong RX7 129 (999999)) (List.mem_of_getElem? (i := 3) rfl)) dX7_put_29 ?_
      refine rdSi (As := [.long x3.toInt64, .long (-999999 : Int64), .long (999999 : Int64)]) (rest := []) hC (c_X7_in l dC dI  x3.toInt64 (-999999 : Int64) (999999 : Int64) (F_X7_in x3.toInt64 (-999999 : Int64) (999999 : Int64)) rfl) (va_cwS 3 hts gX7_put_X7_in rfl rfl rfl (by decide +kernel) ⟨Nat.le_of_ble_eq_true rfl, Nat.le_of_ble_eq_true rfl⟩) hN (hK.sub (tys' := []) [] rfl) (hP.sub (ws' := wd_X7_in) [] rfl) rfl rfl hl.1 (Nat.le_of_ble_eq_true rfl) dX7_put_32 ⟨Nat.zero_le _, Nat.zero_le _⟩ ?_
      refine lv_if_eq (tgt := 50) hx hb dX7_put_35 (by decide) (fun g_3 => ?_) (fun g_3 => ?_)
      · replace hF := ite_t g_3 hF
        refine lv_ldc (v := (-2000000002 : Int32)) hx hb hown (hts (.constant RX7 156 (-2000000002)) (List.mem_of_getElem? (i := 4) rfl)) dX7_put_50 ?_
        obtain ⟨rfl, rfl, rfl⟩ := oks3 hF; exact hE _ _ _ _ hP hS dX7_put_52
      · replace hF := ite_f g_3 hF
        refine lv_aload_n hx hb dX7_put_38 rfl (lv_at hl 0 rfl) ?_
        refine lv_iload_n hx hb dX7_put_39 rfl (lv_at hl 1 rfl) ?_
        refine lv_iload_n hx hb dX7_put_40 rfl (lv_at hl 2 rfl) ?_
        refine lv_i2l hx hb dX7_put_41 rfl ?_
        refine lv_iload_n hx hb dX7_put_42 rfl (lv_at hl 3 rfl) ?_
        refine lv_i2l hx hb dX7_put_43 rfl ?_
        obtain ⟨o_4, hc_o_4, hF⟩ := bd_s hF
        refine wrVi (o := o_4.1) (wc' := (wd_X7_set h0 h_w h_word h_ahead h_behind h_restM h_restN h_powerM h_powerN h_row c_w o_4.2.1 v_kept v_size v_high v_behindMany v_ends v_lead v_round v_worthM v_worthN o_4.2.2)) (As := [.int x1, .long x2.toInt64, .long x3.toInt64]) (rest := []) (b := h0) hC (c_X7_set l dC dI H.size h0 h_w h_word h_ahead h_behind h_restM h_restN h_powerM h_powerN h_row c_w v_known v_kept v_size v_high v_behindMany v_ends v_lead v_round v_worthM v_worthN v_w x1 x2.toInt64 x3.toInt64 o_4 hc_o_4) (cwV 3 hts gX7_put_X7_set rfl rfl rfl (by decide +kernel) ⟨Nat.le_of_ble_eq_true rfl, Nat.le_of_ble_eq_true rfl⟩) hN (hK.sub (tys' := [(c_w, .int)]) [0] rfl) hP hD hS hA [0, 1] rfl rfl rfl rfl 0 7 rfl rfl rfl rfl hl.1 (Nat.le_of_ble_eq_true rfl) dX7_put_44 ⟨Nat.zero_le _, Nat.zero_le _⟩ (fun H locs hP hS => ?_)
        have hP : va_P (dC, dI) vwCl (wd_X7_put h0 h_w h_word h_ahead h_behind h_restM h_restN h_powerM h_powerN h_row c_w o_4.2.1 v_kept v_size v_high v_behindMany v_ends v_lead v_round v_worthM v_worthN o_4.2.2) H := hP
        have hD : va_D A (wd_X7_put h0 h_w h_word h_ahead h_behind h_restM h_restN h_powerM h_powerN h_row c_w o_4.2.1 v_kept v_size v_high v_behindMany v_ends v_lead v_round v_worthM v_worthN o_4.2.2) := va_D.re hD rfl
        refine lv_goto (tgt := 52) hx hb dX7_put_47 (by decide) ?_
        obtain ⟨rfl, rfl, rfl⟩ := oks3 hF; exact hE _ _ _ _ hP hS dX7_put_52
  · replace hF := ite_t g_1 hF
    refine lv_ldc (v := (-2000000001 : Int32)) hx hb hown (hts (.constant RX7 163 (-2000000001)) (List.mem_of_getElem? (i := 1) rfl)) dX7_put_7 ?_
    obtain ⟨rfl, rfl, rfl⟩ := oks3 hF; exact hE _ _ _ _ hP hS dX7_put_9
set_option maxRecDepth 100000 in
set_option maxHeartbeats 4000000 in
theorem c_X7_put (l : Launch) (dC : Nat → ClassId) (dI : Nat → Nat → Nat) (sz : Nat) (h0 h_w h_word h_ahead h_behind h_restM h_restN h_powerM h_powerN h_row : Nat) (c_w : ClassId) (v_known : Int32) (v_kept : Int32) (v_size : Int32) (v_high : Int32) (v_behindMany : Int32) (v_ends : Int32) (v_lead : Int32) (v_round : Int32) (v_worthM : Int64) (v_worthN : Int64) (v_w : (Nat → Int32)) (x1 : Int32) (x2 : Int32) (x3 : Int32) (o : Int32 × Int32 × (Nat → Int32)) (hF : F_X7_put x1 x2 x3 v_known v_w = some o) : Met l yX7_put wsX7_put rm_X7_put (va_Pc [.ref h0, .int x1, .int x2, .int x3] (PcW dC dI sz (wd_X7_put h0 h_w h_word h_ahead h_behind h_restM h_restN h_powerM h_powerN h_row c_w v_known v_kept v_size v_high v_behindMany v_ends v_lead v_round v_worthM v_worthN v_w) [(c_w, .int)])) (va_Qi (fun (r : Int32) (_ : Unit) => r = o.1) (fun _ t => va_P (dC, dI) vwCl (wd_X7_put h0 h_w h_word h_ahead h_behind h_restM h_restN h_powerM h_powerN h_row c_w o.2.1 v_kept v_size v_high v_behindMany v_ends v_lead v_round v_worthM v_worthN o.2.2) t.heap) (va_A (wd_X7_put h0 h_w h_word h_ahead h_behind h_restM h_restN h_powerM h_powerN h_row c_w v_known v_kept v_size v_high v_behindMany v_ends v_lead v_round v_worthM v_worthN v_w) sz)) 0 0 (va_A (wd_X7_put h0 h_w h_word h_ahead h_behind h_restM h_restN h_powerM h_powerN h_row c_w v_known v_kept v_size v_high v_behindMany v_ends v_lead v_round v_worthM v_worthN v_w) sz) := by
  refine Met.ofW (cc := cX7_put) (maxL := 4) (ret := (some .int)) (by decide) rfl ?_
  intro p e s m args below meth c s₁ B hml hv
  obtain ⟨rfl, hsz, hP, hK, hD0, hN⟩ := hv
  subst hsz
  have hl := lv_entry ([.ref h0, .int x1, .int x2, .int x3]) (n := 4) (Nat.le_of_ble_eq_true rfl)
  rw [lg_entry_eq]
  generalize (lg_sl ([.ref h0, .int x1, .int x2, .int x3]) ++ List.replicate (4 - (lg_sl ([.ref h0, .int x1, .int x2, .int x3])).length) Slot.unset).toArray = ls at hl ⊢
  exact b_X7_put h0 h_w h_word h_ahead h_behind h_restM h_restN h_powerM h_powerN h_row c_w v_known v_kept v_size v_high v_behindMany v_ends v_lead v_round v_worthM v_worthN v_w x1 x2 x3 o.1 o.2.1 o.2.2 hF ⟨B.exec, B.bytes, hml, findClass_of_methodNamed B.named, atoms_spec (ws := wsX7_put) B.pre⟩ hN hK hP (fun q h => Or.inr h) (hD0.self (sz := s.heap.size)) va_S.rf (fun H locs ls pc hP hS hd => W.iret B.exec B.bytes B.returns (fun t ht hW => ⟨⟨_, (), rfl, rfl, by show va_P (dC, dI) vwCl _ t.heap; rw [ht]; exact hP⟩, hS.F ht⟩) hS.2.2 hd B.notSynchronized) hl
abbrev wd_X7_setIn (h0 h_w h_word h_ahead h_behind h_restM h_restN h_powerM h_powerN h_row : Nat) (c_w : ClassId) (v_known : Int32) (v_kept : Int32) (v_size : Int32) (v_high : Int32) (v_behindMany : Int32) (v_ends : Int32) (v_lead : Int32) (v_round : Int32) (v_worthM : Int64) (v_worthN : Int64) (v_w : (Nat → Int32)) : va_W := [(h0, .inr (7, [.ref h_w, .int v_known, .int v_kept, .ref h_word, .int v_size, .ref h_ahead, .int v_high, .ref h_behind, .int v_behindMany, .ref h_restM, .ref h_restN, .ref h_powerM, .ref h_powerN, .int v_ends, .int v_lead, .int v_round, .ref h_row, .long v_worthM, .long v_worthN])), (h_w, .inl (c_w, 110, .inl v_w))]
abbrev rm_X7_setIn : Room := { frames := 3, cells := 0, slots := 0, locals := 73 }
def F_X7_setIn (x1 : Int32) (x2 : Int64) (x4 : Int64) (v_known : Int32) (v_w : (Nat → Int32)) : Option (Int32 × Int32 × (Nat → Int32)) := (if (F_X7_in x2 (-999999 : Int64) (999999 : Int64)) = 0 then (some ((-2000000004 : Int32), v_known, v_w)) else (if (F_X7_in x4 (-999999 : Int64) (999999 : Int64)) = 0 then (some ((-2000000004 : Int32), v_known, v_w)) else ((F_X7_set x1 x2 x4 v_known v_w).bind fun o_3 => (some (o_3.1, o_3.2.1, o_3.2.2)))))
set_option maxRecDepth 100000 in
set_option maxHeartbeats 4000000 in
theorem b_X7_setIn {p : Program} {l : Launch} {e : Env} {s : State} {m : MethodId} {args : Array Value} {below : List Frame} {meth : Method} {c : Code} {Q : State → Prop} {dC : Nat → ClassId} {dI : Nat → Nat → Nat} {H : Heap} {locs : List Loc} {ls : Array Slot} {A : Nat → Prop} (h0 h_w h_word h_ahead h_behind h_restM h_restN h_powerM h_powerN h_row : Nat) (c_w : ClassId) (v_known : Int32) (v_kept : Int32) (v_size : Int32) (v_high : Int32) (v_behindMany : Int32) (v_ends : Int32) (v_lead : Int32) (v_round : Int32) (v_worthM : Int64) (v_worthN : Int64) (v_w : (Nat → Int32)) (x1 : Int32) (x2 : Int64) (x4 : Int64) (ou0 : Int32) (ou1 : Int32) (ou2 : (Nat → Int32)) (hF : F_X7_setIn x1 x2 x4 v_known v_w = some (ou0, ou1, ou2)) (hC : CallFix p m c cX7_setIn 6 s args wsX7_setIn RX7) (hN : NW s) (hK : va_K (dC, dI) vwCl [(c_w, .int)] s) (hP : va_P (dC, dI) vwCl (wd_X7_setIn h0 h_w h_word h_ahead h_behind h_restM h_restN h_powerM h_powerN h_row c_w v_known v_kept v_size v_high v_behindMany v_ends v_lead v_round v_worthM v_worthN v_w) H) (hA : ∀ q, s.heap.size ≤ q → A q) (hD : va_D A (wd_X7_setIn h0 h_w h_word h_ahead h_behind h_restM h_restN h_powerM h_powerN h_row c_w v_known v_kept v_size v_high v_behindMany v_ends v_lead v_round v_worthM v_worthN v_w)) (hS : va_S A s.heap H locs) (hE : ∀ (H : Heap) (locs : List Loc) (ls : Array Slot) (pc : Nat), va_P (dC, dI) vwCl (wd_X7_setIn h0 h_w h_word h_ahead h_behind h_restM h_restN h_powerM h_powerN h_row c_w ou1 v_kept v_size v_high v_behindMany v_ends v_lead v_round v_worthM v_worthN ou2) H → va_S A s.heap H locs → decode cX7_setIn pc = .ok (.ireturn, 1) → W p l e rm_X7_setIn s m args below meth c H locs 0 0 Q (F0 m pc ls [.int ou0])) (hl : lv_has ls 6 [(0, .ref h0), (1, .int x1), (2, .long x2), (4, .long x4)]) : W p l e rm_X7_setIn s m args below meth c H locs 0 0 Q (F0 m 0 ls []) := by
  obtain ⟨hx, hb, hml, hown, hts⟩ := id hC
  have hD0 := hD
  unfold F_X7_setIn at hF
  refine lv_lload_n hx hb dX7_setIn_0 rfl (lv_at hl 2 rfl) ?_
  refine lv_ldc2 (v := (-999999 : Int64)) hx hb hown (hts (.constantLong RX7 127 (-999999)) (List.mem_of_getElem? (i := 1) rfl)) dX7_setIn_1 ?_
  refine lv_ldc2 (v := (999999 : Int64)) hx hb hown (hts (.constantLong RX7 129 (999999)) (List.mem_of_getElem? (i := 2) rfl)) dX7_setIn_4 ?_
  refine rdSi (As := [.long x2, .long (-999999 : Int64), .long (999999 : Int64)]) (rest := []) hC (c_X7_in l dC dI  x2 (-999999 : Int64) (999999 : Int64) (F_X7_in x2 (-999999 : Int64) (999999 : Int64)) rfl) (va_cwS 3 hts gX7_setIn_X7_in rfl rfl rfl (by decide +kernel) ⟨Nat.le_of_ble_eq_true rfl, Nat.le_of_ble_eq_true rfl⟩) hN (hK.sub (tys' := []) [] rfl) (hP.sub (ws' := wd_X7_in) [] rfl) rfl rfl hl.1 (Nat.le_of_ble_eq_true rfl) dX7_setIn_7 ⟨Nat.zero_le _, Nat.zero_le _⟩ ?_
  refine lv_if_eq (tgt := 38) hx hb dX7_setIn_10 (by decide) (fun g_1 => ?_) (fun g_1 => ?_)
  · replace hF := ite_t g_1 hF
    refine lv_ldc (v := (-2000000004 : Int32)) hx hb hown (hts (.constant RX7 139 (-2000000004)) (List.mem_of_getElem? (i := 3) rfl)) dX7_setIn_38 ?_
    obtain ⟨rfl, rfl, rfl⟩ := oks3 hF; exact hE _ _ _ _ hP hS dX7_setIn_40
  · replace hF := ite_f g_1 hF
    refine lv_lload hx hb dX7_setIn_13 (lv_at hl 3 rfl) ?_
    refine lv_ldc2 (v := (-999999 : Int64)) hx hb hown (hts (.constantLong RX7 127 (-999999)) (List.mem_of_getElem? (i := 1) rfl)) dX7_setIn_15 ?_
    refine lv_ldc2 (v := (999999 : Int64)) hx hb hown (hts (.constantLong RX7 129 (999999)) (List.mem_of_getElem? (i := 2) rfl)) dX7_setIn_18 ?_
    refine rdSi (As := [.long x4, .long (-999999 : Int64), .long (999999 : Int64)]) (rest := []) hC (c_X7_in l dC dI  x4 (-999999 : Int64) (999999 : Int64) (F_X7_in x4 (-999999 : Int64) (999999 : Int64)) rfl) (va_cwS 3 hts gX7_setIn_X7_in rfl rfl rfl (by decide +kernel) ⟨Nat.le_of_ble_eq_true rfl, Nat.le_of_ble_eq_true rfl⟩) hN (hK.sub (tys' := []) [] rfl) (hP.sub (ws' := wd_X7_in) [] rfl) rfl rfl hl.1 (Nat.le_of_ble_eq_true rfl) dX7_setIn_21 ⟨Nat.zero_le _, Nat.zero_le _⟩ ?_
    refine lv_if_eq (tgt := 38) hx hb dX7_setIn_24 (by decide) (fun g_2 => ?_) (fun g_2 => ?_)
    · replace hF := ite_t g_2 hF
      refine lv_ldc (v := (-2000000004 : Int32)) hx hb hown (hts (.constant RX7 139 (-2000000004)) (List.mem_of_getElem? (i := 3) rfl)) dX7_setIn_38 ?_
      obtain ⟨rfl, rfl, rfl⟩ := oks3 hF; exact hE _ _ _ _ hP hS dX7_setIn_40
    · replace hF := ite_f g_2 hF
      refine lv_aload_n hx hb dX7_setIn_27 rfl (lv_at hl 0 rfl) ?_
      refine lv_iload_n hx hb dX7_setIn_28 rfl (lv_at hl 1 rfl) ?_
      refine lv_lload_n hx hb dX7_setIn_29 rfl (lv_at hl 2 rfl) ?_
      refine lv_lload hx hb dX7_setIn_30 (lv_at hl 3 rfl) ?_
      obtain ⟨o_3, hc_o_3, hF⟩ := bd_s hF
      refine wrVi (o := o_3.1) (wc' := (wd_X7_set h0 h_w h_word h_ahead h_behind h_restM h_restN h_powerM h_powerN h_row c_w o_3.2.1 v_kept v_size v_high v_behindMany v_ends v_lead v_round v_worthM v_worthN o_3.2.2)) (As := [.int x1, .long x2, .long x4]) (rest := []) (b := h0) hC (c_X7_set l dC dI H.size h0 h_w h_word h_ahead h_behind h_restM h_restN h_powerM h_powerN h_row c_w v_known v_kept v_size v_high v_behindMany v_ends v_lead v_round v_worthM v_worthN v_w x1 x2 x4 o_3 hc_o_3) (cwV 3 hts gX7_setIn_X7_set rfl rfl rfl (by decide +kernel) ⟨Nat.le_of_ble_eq_true rfl, Nat.le_of_ble_eq_true rfl⟩) hN (hK.sub (tys' := [(c_w, .int)]) [0] rfl) hP hD hS hA [0, 1] rfl rfl rfl rfl 0 7 rfl rfl rfl rfl hl.1 (Nat.le_of_ble_eq_true rfl) dX7_setIn_32 ⟨Nat.zero_le _, Nat.zero_le _⟩ (fun H locs hP hS => ?_)
      have hP : va_P (dC, dI) vwCl (wd_X7_setIn h0 h_w h_word h_ahead h_behind h_restM h_restN h_powerM h_powerN h_row c_w o_3.2.1 v_kept v_size v_high v_behindMany v_ends v_lead v_round v_worthM v_worthN o_3.2.2) H := hP
      have hD : va_D A (wd_X7_setIn h0 h_w h_word h_ahead h_behind h_restM h_restN h_powerM h_powerN h_row c_w o_3.2.1 v_kept v_size v_high v_behindMany v_ends v_lead v_round v_worthM v_worthN o_3.2.2) := va_D.re hD rfl
      refine lv_goto (tgt := 40) hx hb dX7_setIn_35 (by decide) ?_
      obtain ⟨rfl, rfl, rfl⟩ := oks3 hF; exact hE _ _ _ _ hP hS dX7_setIn_40
set_option maxRecDepth 100000 in
set_option maxHeartbeats 4000000 in
theorem c_X7_setIn (l : Launch) (dC : Nat → ClassId) (dI : Nat → Nat → Nat) (sz : Nat) (h0 h_w h_word h_ahead h_behind h_restM h_restN h_powerM h_powerN h_row : Nat) (c_w : ClassId) (v_known : Int32) (v_kept : Int32) (v_size : Int32) (v_high : Int32) (v_behindMany : Int32) (v_ends : Int32) (v_lead : Int32) (v_round : Int32) (v_worthM : Int64) (v_worthN : Int64) (v_w : (Nat → Int32)) (x1 : Int32) (x2 : Int64) (x4 : Int64) (o : Int32 × Int32 × (Nat → Int32)) (hF : F_X7_setIn x1 x2 x4 v_known v_w = some o) : Met l yX7_setIn wsX7_setIn rm_X7_setIn (va_Pc [.ref h0, .int x1, .long x2, .long x4] (PcW dC dI sz (wd_X7_setIn h0 h_w h_word h_ahead h_behind h_restM h_restN h_powerM h_powerN h_row c_w v_known v_kept v_size v_high v_behindMany v_ends v_lead v_round v_worthM v_worthN v_w) [(c_w, .int)])) (va_Qi (fun (r : Int32) (_ : Unit) => r = o.1) (fun _ t => va_P (dC, dI) vwCl (wd_X7_setIn h0 h_w h_word h_ahead h_behind h_restM h_restN h_powerM h_powerN h_row c_w o.2.1 v_kept v_size v_high v_behindMany v_ends v_lead v_round v_worthM v_worthN o.2.2) t.heap) (va_A (wd_X7_setIn h0 h_w h_word h_ahead h_behind h_restM h_restN h_powerM h_powerN h_row c_w v_known v_kept v_size v_high v_behindMany v_ends v_lead v_round v_worthM v_worthN v_w) sz)) 0 0 (va_A (wd_X7_setIn h0 h_w h_word h_ahead h_behind h_restM h_restN h_powerM h_powerN h_row c_w v_known v_kept v_size v_high v_behindMany v_ends v_lead v_round v_worthM v_worthN v_w) sz) := by
  refine Met.ofW (cc := cX7_setIn) (maxL := 6) (ret := (some .int)) (by decide) rfl ?_
  intro p e s m args below meth c s₁ B hml hv
  obtain ⟨rfl, hsz, hP, hK, hD0, hN⟩ := hv
  subst hsz
  have hl := lv_entry ([.ref h0, .int x1, .long x2, .long x4]) (n := 6) (Nat.le_of_ble_eq_true rfl)
  rw [lg_entry_eq]
  generalize (lg_sl ([.ref h0, .int x1, .long x2, .long x4]) ++ List.replicate (6 - (lg_sl ([.ref h0, .int x1, .long x2, .long x4])).length) Slot.unset).toArray = ls at hl ⊢
  exact b_X7_setIn h0 h_w h_word h_ahead h_behind h_restM h_restN h_powerM h_powerN h_row c_w v_known v_kept v_size v_high v_behindMany v_ends v_lead v_round v_worthM v_worthN v_w x1 x2 x4 o.1 o.2.1 o.2.2 hF ⟨B.exec, B.bytes, hml, findClass_of_methodNamed B.named, atoms_spec (ws := wsX7_setIn) B.pre⟩ hN hK hP (fun q h => Or.inr h) (hD0.self (sz := s.heap.size)) va_S.rf (fun H locs ls pc hP hS hd => W.iret B.exec B.bytes B.returns (fun t ht hW => ⟨⟨_, (), rfl, rfl, by show va_P (dC, dI) vwCl _ t.heap; rw [ht]; exact hP⟩, hS.F ht⟩) hS.2.2 hd B.notSynchronized) hl
theorem inn_X7_deed_X7 : ∀ w ∈ wsX70, w ∈ wsX7_deed := fun _ h => List.mem_cons_of_mem _ (List.mem_append_right _ h)
abbrev wd_X7_deed (h0 h_w h_word h_ahead h_behind h_restM h_restN h_powerM h_powerN h_row : Nat) (c_w : ClassId) (v_known : Int32) (v_kept : Int32) (v_size : Int32) (v_high : Int32) (v_behindMany : Int32) (v_ends : Int32) (v_lead : Int32) (v_round : Int32) (v_worthM : Int64) (v_worthN : Int64) (v_w : (Nat → Int32)) : va_W := [(h0, .inr (7, [.ref h_w, .int v_known, .int v_kept, .ref h_word, .int v_size, .ref h_ahead, .int v_high, .ref h_behind, .int v_behindMany, .ref h_restM, .ref h_restN, .ref h_powerM, .ref h_powerN, .int v_ends, .int v_lead, .int v_round, .ref h_row, .long v_worthM, .long v_worthN])), (h_w, .inl (c_w, 110, .inl v_w))]
abbrev rm_X7_deed : Room := { frames := 4, cells := 0, slots := 0, locals := 98 }
def F_X7_deed (x1 : Int32) (x2 : Int32) (x3 : Int32) (x4 : Int32) (v_known : Int32) (v_w : (Nat → Int32)) : Option (Int32 × Int32 × (Nat → Int32)) := (if (F_X7_isShelf x1) = 0 then (some ((-2000000001 : Int32), v_known, v_w)) else (if (F_X7_isShelf x3) = 0 then (some ((-2000000001 : Int32), v_known, v_w)) else (if (F_X7_isShelf x4) = 0 then (some ((-2000000001 : Int32), v_known, v_w)) else ((F_X7_mOf x3 v_w).bind fun o_4 => ((F_X7_nOf x3 v_w).bind fun o_5 => ((F_X7_mOf x4 v_w).bind fun o_6 => ((F_X7_nOf x4 v_w).bind fun o_7 => (if x2 = (0 : Int32) then ((F_X7_setIn x1 (o_4.toInt64 + o_6.toInt64) (o_5.toInt64 + o_7.toInt64) v_known v_w).bind fun o_9 => (some (o_9.1, o_9.2.1, o_9.2.2))) else (if x2 = (1 : Int32) then ((F_X7_setIn x1 (o_4.toInt64 - o_6.toInt64) (o_5.toInt64 - o_7.toInt64) v_known v_w).bind fun o_11 => (some (o_11.1, o_11.2.1, o_11.2.2))) else (if x2 = (2 : Int32) then ((F_X7_setIn x1 ((o_4.toInt64 * o_6.toInt64) + (((v_w (1 : Int32).toNatClampNeg).toInt64 * o_5.toInt64) * o_7.toInt64)) (((o_4.toInt64 * o_7.toInt64) + (o_5.toInt64 * o_6.toInt64)) + (((v_w (0 : Int32).toNatClampNeg).toInt64 * o_5.toInt64) * o_7.toInt64)) v_known v_w).bind fun o_13 => (some (o_13.1, o_13.2.1, o_13.2.2))) else (if x2 = (3 : Int32) then ((F_X7_setIn x1 (o_5.toInt64 * (v_w (1 : Int32).toNatClampNeg).toInt64) (o_4.toInt64 + (o_5.toInt64 * (v_w (0 : Int32).toNatClampNeg).toInt64)) v_known v_w).bind fun o_15 => (some (o_15.1, o_15.2.1, o_15.2.2))) else (some ((-2000000002 : Int32), v_known, v_w)))))))))))))
set_option maxRecDepth 100000 in
set_option maxHeartbeats 4000000 in
theorem b_X7_deed {p : Program} {l : Launch} {e : Env} {s : State} {m : MethodId} {args : Array Value} {below : List Frame} {meth : Method} {c : Code} {Q : State → Prop} {dC : Nat → ClassId} {dI : Nat → Nat → Nat} {H : Heap} {locs : List Loc} {ls : Array Slot} {A : Nat → Prop} (h0 h_w h_word h_ahead h_behind h_restM h_restN h_powerM h_powerN h_row : Nat) (c_w : ClassId) (v_known : Int32) (v_kept : Int32) (v_size : Int32) (v_high : Int32) (v_behindMany : Int32) (v_ends : Int32) (v_lead : Int32) (v_round : Int32) (v_worthM : Int64) (v_worthN : Int64) (v_w : (Nat → Int32)) (x1 : Int32) (x2 : Int32) (x3 : Int32) (x4 : Int32) (ou0 : Int32) (ou1 : Int32) (ou2 : (Nat → Int32)) (hF : F_X7_deed x1 x2 x3 x4 v_known v_w = some (ou0, ou1, ou2)) (hC : CallFix p m c cX7_deed 13 s args wsX7_deed RX7) (hN : NW s) (hK : va_K (dC, dI) vwCl [(c_w, .int)] s) (hP : va_P (dC, dI) vwCl (wd_X7_deed h0 h_w h_word h_ahead h_behind h_restM h_restN h_powerM h_powerN h_row c_w v_known v_kept v_size v_high v_behindMany v_ends v_lead v_round v_worthM v_worthN v_w) H) (hA : ∀ q, s.heap.size ≤ q → A q) (hD : va_D A (wd_X7_deed h0 h_w h_word h_ahead h_behind h_restM h_restN h_powerM h_powerN h_row c_w v_known v_kept v_size v_high v_behindMany v_ends v_lead v_round v_worthM v_worthN v_w)) (hS : va_S A s.heap H locs) (hE : ∀ (H : Heap) (locs : List Loc) (ls : Array Slot) (pc : Nat), va_P (dC, dI) vwCl (wd_X7_deed h0 h_w h_word h_ahead h_behind h_restM h_restN h_powerM h_powerN h_row c_w ou1 v_kept v_size v_high v_behindMany v_ends v_lead v_round v_worthM v_worthN ou2) H → va_S A s.heap H locs → decode cX7_deed pc = .ok (.ireturn, 1) → W p l e rm_X7_deed s m args below meth c H locs 0 0 Q (F0 m pc ls [.int ou0])) (hl : lv_has ls 13 [(0, .ref h0), (1, .int x1), (2, .int x2), (3, .int x3), (4, .int x4)]) : W p l e rm_X7_deed s m args below meth c H locs 0 0 Q (F0 m 0 ls []) := by
  obtain ⟨hx, hb, hml, hown, hts⟩ := id hC
  have hD0 := hD
  unfold F_X7_deed at hF
  refine lv_iload_n hx hb dX7_deed_0 rfl (lv_at hl 1 rfl) ?_
  refine rdSi (As := [.int x1]) (rest := []) hC (c_X7_isShelf l dC dI  x1 (F_X7_isShelf x1) rfl) (va_cwS 1 hts gX7_deed_X7_isShelf rfl rfl rfl (by decide +kernel) ⟨Nat.le_of_ble_eq_true rfl, Nat.le_of_ble_eq_true rfl⟩) hN (hK.sub (tys' := []) [] rfl) (hP.sub (ws' := wd_X7_isShelf) [] rfl) rfl rfl hl.1 (Nat.le_of_ble_eq_true rfl) dX7_deed_1 ⟨Nat.zero_le _, Nat.zero_le _⟩ ?_
  refine lv_if_eq (tgt := 22) hx hb dX7_deed_4 (by decide) (fun g_1 => ?_) (fun g_1 => ?_)
  · replace hF := ite_t g_1 hF
    refine lv_ldc (v := (-2000000001 : Int32)) hx hb hown (hts (.constant RX7 163 (-2000000001)) (List.mem_of_getElem? (i := 1) rfl)) dX7_deed_22 ?_
    obtain ⟨rfl, rfl, rfl⟩ := oks3 hF; exact hE _ _ _ _ hP hS dX7_deed_24
  · replace hF := ite_f g_1 hF
    refine lv_iload_n hx hb dX7_deed_7 rfl (lv_at hl 3 rfl) ?_
    refine rdSi (As := [.int x3]) (rest := []) hC (c_X7_isShelf l dC dI  x3 (F_X7_isShelf x3) rfl) (va_cwS 1 hts gX7_deed_X7_isShelf rfl rfl rfl (by decide +kernel) ⟨Nat.le_of_ble_eq_true rfl, Nat.le_of_ble_eq_true rfl⟩) hN (hK.sub (tys' := []) [] rfl) (hP.sub (ws' := wd_X7_isShelf) [] rfl) rfl rfl hl.1 (Nat.le_of_ble_eq_true rfl) dX7_deed_8 ⟨Nat.zero_le _, Nat.zero_le _⟩ ?_
    refine lv_if_eq (tgt := 22) hx hb dX7_deed_11 (by decide) (fun g_2 => ?_) (fun g_2 => ?_)
    · replace hF := ite_t g_2 hF
      refine lv_ldc (v := (-2000000001 : Int32)) hx hb hown (hts (.constant RX7 163 (-2000000001)) (List.mem_of_getElem? (i := 1) rfl)) dX7_deed_22 ?_
      obtain ⟨rfl, rfl, rfl⟩ := oks3 hF; exact hE _ _ _ _ hP hS dX7_deed_24
    · replace hF := ite_f g_2 hF
      refine lv_iload hx hb dX7_deed_14 (lv_at hl 4 rfl) ?_
      refine rdSi (As := [.int x4]) (rest := []) hC (c_X7_isShelf l dC dI  x4 (F_X7_isShelf x4) rfl) (va_cwS 1 hts gX7_deed_X7_isShelf rfl rfl rfl (by decide +kernel) ⟨Nat.le_of_ble_eq_true rfl, Nat.le_of_ble_eq_true rfl⟩) hN (hK.sub (tys' := []) [] rfl) (hP.sub (ws' := wd_X7_isShelf) [] rfl) rfl rfl hl.1 (Nat.le_of_ble_eq_true rfl) dX7_deed_16 ⟨Nat.zero_le _, Nat.zero_le _⟩ ?_
      refine lv_if_ne (tgt := 25) hx hb dX7_deed_19 (by decide) (fun g_3 => ?_) (fun g_3 => ?_)
      · replace hF := ite_f g_3 hF
        refine lv_aload_n hx hb dX7_deed_25 rfl (lv_at hl 0 rfl) ?_
        refine lv_iload_n hx hb dX7_deed_26 rfl (lv_at hl 3 rfl) ?_
        obtain ⟨o_4, hc_o_4, hF⟩ := bd_s hF
        refine rdVi (As := [.int x3]) (rest := []) (b := h0) hC (c_X7_mOf l dC dI h0 h_w h_word h_ahead h_behind h_restM h_restN h_powerM h_powerN h_row c_w v_known v_kept v_size v_high v_behindMany v_ends v_lead v_round v_worthM v_worthN v_w x3 o_4 hc_o_4) (cwV 1 hts gX7_deed_X7_mOf rfl rfl rfl (by decide +kernel) ⟨Nat.le_of_ble_eq_true rfl, Nat.le_of_ble_eq_true rfl⟩) hN (hK.sub (tys' := [(c_w, .int)]) [0] rfl) (hP.sub (ws' := (wd_X7_mOf h0 h_w h_word h_ahead h_behind h_restM h_restN h_powerM h_powerN h_row c_w v_known v_kept v_size v_high v_behindMany v_ends v_lead v_round v_worthM v_worthN v_w)) [0, 1] rfl) 0 7 rfl rfl rfl rfl hl.1 (Nat.le_of_ble_eq_true rfl) dX7_deed_27 ⟨Nat.zero_le _, Nat.zero_le _⟩ ?_
        refine lv_i2l hx hb dX7_deed_30 rfl ?_
        refine lv_lstore (lv' := [(5, .long o_4.toInt64), (0, .ref h0), (1, .int x1), (2, .int x2), (3, .int x3), (4, .int x4)]) hx hb dX7_deed_31 hl (by decide) rfl (fun ls hl => ?_)
        refine lv_aload_n hx hb dX7_deed_33 rfl (lv_at hl 1 rfl) ?_
        refine lv_iload_n hx hb dX7_deed_34 rfl (lv_at hl 4 rfl) ?_
        obtain ⟨o_5, hc_o_5, hF⟩ := bd_s hF
        refine rdVi (As := [.int x3]) (rest := []) (b := h0) hC (c_X7_nOf l dC dI h0 h_w h_word h_ahead h_behind h_restM h_restN h_powerM h_powerN h_row c_w v_known v_kept v_size v_high v_behindMany v_ends v_lead v_round v_worthM v_worthN v_w x3 o_5 hc_o_5) (cwV 1 hts gX7_deed_X7_nOf rfl rfl rfl (by decide +kernel) ⟨Nat.le_of_ble_eq_true rfl, Nat.le_of_ble_eq_true rfl⟩) hN (hK.sub (tys' := [(c_w, .int)]) [0] rfl) (hP.sub (ws' := (wd_X7_nOf h0 h_w h_word h_ahead h_behind h_restM h_restN h_powerM h_powerN h_row c_w v_known v_kept v_size v_high v_behindMany v_ends v_lead v_round v_worthM v_worthN v_w)) [0, 1] rfl) 0 7 rfl rfl rfl rfl hl.1 (Nat.le_of_ble_eq_true rfl) dX7_deed_35 ⟨Nat.zero_le _, Nat.zero_le _⟩ ?_
        refine lv_i2l hx hb dX7_deed_38 rfl ?_
        refine lv_lstore (lv' := [(7, .long o_5.toInt64), (5, .long o_4.toInt64), (0, .ref h0), (1, .int x1), (2, .int x2), (3, .int x3), (4, .int x4)]) hx hb dX7_deed_39 hl (by decide) rfl (fun ls hl => ?_)
        refine lv_aload_n hx hb dX7_deed_41 rfl (lv_at hl 2 rfl) ?_
        refine lv_iload hx hb dX7_deed_42 (lv_at hl 6 rfl) ?_
        obtain ⟨o_6, hc_o_6, hF⟩ := bd_s hF
        refine rdVi (As := [.int x4]) (rest := []) (b := h0) hC (c_X7_mOf l dC dI h0 h_w h_word h_ahead h_behind h_restM h_restN h_powerM h_powerN h_row c_w v_known v_kept v_size v_high v_behindMany v_ends v_lead v_round v_worthM v_worthN v_w x4 o_6 hc_o_6) (cwV 1 hts gX7_deed_X7_mOf rfl rfl rfl (by decide +kernel) ⟨Nat.le_of_ble_eq_true rfl, Nat.le_of_ble_eq_true rfl⟩) hN (hK.sub (tys' := [(c_w, .int)]) [0] rfl) (hP.sub (ws' := (wd_X7_mOf h0 h_w h_word h_ahead h_behind h_restM h_restN h_powerM h_powerN h_row c_w v_known v_kept v_size v_high v_behindMany v_ends v_lead v_round v_worthM v_worthN v_w)) [0, 1] rfl) 0 7 rfl rfl rfl rfl hl.1 (Nat.le_of_ble_eq_true rfl) dX7_deed_44 ⟨Nat.zero_le _, Nat.zero_le _⟩ ?_
        refine lv_i2l hx hb dX7_deed_47 rfl ?_
        refine lv_lstore (lv' := [(9, .long o_6.toInt64), (7, .long o_5.toInt64), (5, .long o_4.toInt64), (0, .ref h0), (1, .int x1), (2, .int x2), (3, .int x3), (4, .int x4)]) hx hb dX7_deed_48 hl (by decide) rfl (fun ls hl => ?_)
        refine lv_aload_n hx hb dX7_deed_50 rfl (lv_at hl 3 rfl) ?_
        refine lv_iload hx hb dX7_deed_51 (lv_at hl 7 rfl) ?_
        obtain ⟨o_7, hc_o_7, hF⟩ := bd_s hF
        refine rdVi (As := [.int x4]) (rest := []) (b := h0) hC (c_X7_nOf l dC dI h0 h_w h_word h_ahead h_behind h_restM h_restN h_powerM h_powerN h_row c_w v_known v_kept v_size v_high v_behindMany v_ends v_lead v_round v_worthM v_worthN v_w x4 o_7 hc_o_7) (cwV 1 hts gX7_deed_X7_nOf rfl rfl rfl (by decide +kernel) ⟨Nat.le_of_ble_eq_true rfl, Nat.le_of_ble_eq_true rfl⟩) hN (hK.sub (tys' := [(c_w, .int)]) [0] rfl) (hP.sub (ws' := (wd_X7_nOf h0 h_w h_word h_ahead h_behind h_restM h_restN h_powerM h_powerN h_row c_w v_known v_kept v_size v_high v_behindMany v_ends v_lead v_round v_worthM v_worthN v_w)) [0, 1] rfl) 0 7 rfl rfl rfl rfl hl.1 (Nat.le_of_ble_eq_true rfl) dX7_deed_53 ⟨Nat.zero_le _, Nat.zero_le _⟩ ?_
        refine lv_i2l hx hb dX7_deed_56 rfl ?_
        refine lv_lstore (lv' := [(11, .long o_7.toInt64), (9, .long o_6.toInt64), (7, .long o_5.toInt64), (5, .long o_4.toInt64), (0, .ref h0), (1, .int x1), (2, .int x2), (3, .int x3), (4, .int x4)]) hx hb dX7_deed_57 hl (by decide) rfl (fun ls hl => ?_)
        refine lv_iload_n hx hb dX7_deed_59 rfl (lv_at hl 6 rfl) ?_
        by_cases g_8 : x2 = (0 : Int32)
        · replace hF := ite_t g_8 hF
          refine lv_tableIn (tgt := 92) hx hb dX7_deed_60 (by rw [g_8]; decide) (by rw [g_8]; decide) (by rw [g_8]; rfl) (by decide) ?_
          refine lv_aload_n hx hb dX7_deed_92 rfl (lv_at hl 4 rfl) ?_
          refine lv_iload_n hx hb dX7_deed_93 rfl (lv_at hl 5 rfl) ?_
          refine lv_lload hx hb dX7_deed_94 (lv_at hl 3 rfl) ?_
          refine lv_lload hx hb dX7_deed_96 (lv_at hl 1 rfl) ?_
          refine lv_ladd hx hb dX7_deed_98 ?_
          refine lv_lload hx hb dX7_deed_99 (lv_at hl 2 rfl) ?_
          refine lv_lload hx hb dX7_deed_101 (lv_at hl 0 rfl) ?_
          refine lv_ladd hx hb dX7_deed_103 ?_
          obtain ⟨o_9, hc_o_9, hF⟩ := bd_s hF
          refine wrVi (o := o_9.1) (wc' := (wd_X7_setIn h0 h_w h_word h_ahead h_behind h_restM h_restN h_powerM h_powerN h_row c_w o_9.2.1 v_kept v_size v_high v_behindMany v_ends v_lead v_round v_worthM v_worthN o_9.2.2)) (As := [.int x1, .long (o_4.toInt64 + o_6.toInt64), .long (o_5.toInt64 + o_7.toInt64)]) (rest := []) (b := h0) hC (c_X7_setIn l dC dI H.size h0 h_w h_word h_ahead h_behind h_restM h_restN h_powerM h_powerN h_row c_w v_known v_kept v_size v_high v_behindMany v_ends v_lead v_round v_worthM v_worthN v_w x1 (o_4.toInt64 + o_6.toInt64) (o_5.toInt64 + o_7.toInt64) o_9 hc_o_9) (cwV 3 hts gX7_deed_X7_setIn rfl rfl rfl (by decide +kernel) ⟨Nat.le_of_ble_eq_true rfl, Nat.le_of_ble_eq_true rfl⟩) hN (hK.sub (tys' := [(c_w, .int)]) [0] rfl) hP hD hS hA [0, 1] rfl rfl rfl rfl 0 7 rfl rfl rfl rfl hl.1 (Nat.le_of_ble_eq_true rfl) dX7_deed_104 ⟨Nat.zero_le _, Nat.zero_le _⟩ (fun H locs hP hS => ?_)
          have hP : va_P (dC, dI) vwCl (wd_X7_deed h0 h_w h_word h_ahead h_behind h_restM h_restN h_powerM h_powerN h_row c_w o_9.2.1 v_kept v_size v_high v_behindMany v_ends v_lead v_round v_worthM v_worthN o_9.2.2) H := hP
          have hD : va_D A (wd_X7_deed h0 h_w h_word h_ahead h_behind h_restM h_restN h_powerM h_powerN h_row c_w o_9.2.1 v_kept v_size v_high v_behindMany v_ends v_lead v_round v_worthM v_worthN o_9.2.2) := va_D.re hD rfl
          obtain ⟨rfl, rfl, rfl⟩ := oks3 hF; exact hE _ _ _ _ hP hS dX7_deed_107
        · replace hF := ite_f g_8 hF
          by_cases g_10 : x2 = (1 : Int32)
          · replace hF := ite_t g_10 hF
            refine lv_tableIn (tgt := 108) hx hb dX7_deed_60 (by rw [g_10]; decide) (by rw [g_10]; decide) (by rw [g_10]; rfl) (by decide) ?_
            refine lv_aload_n hx hb dX7_deed_108 rfl (lv_at hl 4 rfl) ?_
            refine lv_iload_n hx hb dX7_deed_109 rfl (lv_at hl 5 rfl) ?_
            refine lv_lload hx hb dX7_deed_110 (lv_at hl 3 rfl) ?_
            refine lv_lload hx hb dX7_deed_112 (lv_at hl 1 rfl) ?_
            refine lv_lsub hx hb dX7_deed_114 ?_
            refine lv_lload hx hb dX7_deed_115 (lv_at hl 2 rfl) ?_
            refine lv_lload hx hb dX7_deed_117 (lv_at hl 0 rfl) ?_
            refine lv_lsub hx hb dX7_deed_119 ?_
            obtain ⟨o_11, hc_o_11, hF⟩ := bd_s hF
            refine wrVi (o := o_11.1) (wc' := (wd_X7_setIn h0 h_w h_word h_ahead h_behind h_restM h_restN h_powerM h_powerN h_row c_w o_11.2.1 v_kept v_size v_high v_behindMany v_ends v_lead v_round v_worthM v_worthN o_11.2.2)) (As := [.int x1, .long (o_4.toInt64 - o_6.toInt64), .long (o_5.toInt64 - o_7.toInt64)]) (rest := []) (b := h0) hC (c_X7_setIn l dC dI H.size h0 h_w h_word h_ahead h_behind h_restM h_restN h_powerM h_powerN h_row c_w v_known v_kept v_size v_high v_behindMany v_ends v_lead v_round v_worthM v_worthN v_w x1 (o_4.toInt64 - o_6.toInt64) (o_5.toInt64 - o_7.toInt64) o_11 hc_o_11) (cwV 3 hts gX7_deed_X7_setIn rfl rfl rfl (by decide +kernel) ⟨Nat.le_of_ble_eq_true rfl, Nat.le_of_ble_eq_true rfl⟩) hN (hK.sub (tys' := [(c_w, .int)]) [0] rfl) hP hD hS hA [0, 1] rfl rfl rfl rfl 0 7 rfl rfl rfl rfl hl.1 (Nat.le_of_ble_eq_true rfl) dX7_deed_120 ⟨Nat.zero_le _, Nat.zero_le _⟩ (fun H locs hP hS => ?_)
            have hP : va_P (dC, dI) vwCl (wd_X7_deed h0 h_w h_word h_ahead h_behind h_restM h_restN h_powerM h_powerN h_row c_w o_11.2.1 v_kept v_size v_high v_behindMany v_ends v_lead v_round v_worthM v_worthN o_11.2.2) H := hP
            have hD : va_D A (wd_X7_deed h0 h_w h_word h_ahead h_behind h_restM h_restN h_powerM h_powerN h_row c_w o_11.2.1 v_kept v_size v_high v_behindMany v_ends v_lead v_round v_worthM v_worthN o_11.2.2) := va_D.re hD rfl
            obtain ⟨rfl, rfl, rfl⟩ := oks3 hF; exact hE _ _ _ _ hP hS dX7_deed_123
          · replace hF := ite_f g_10 hF
            by_cases g_12 : x2 = (2 : Int32)
            · replace hF := ite_t g_12 hF
              refine lv_tableIn (tgt := 124) hx hb dX7_deed_60 (by rw [g_12]; decide) (by rw [g_12]; decide) (by rw [g_12]; rfl) (by decide) ?_
              refine lv_aload_n hx hb dX7_deed_124 rfl (lv_at hl 4 rfl) ?_
              refine lv_iload_n hx hb dX7_deed_125 rfl (lv_at hl 5 rfl) ?_
              refine lv_lload hx hb dX7_deed_126 (lv_at hl 3 rfl) ?_
              refine lv_lload hx hb dX7_deed_128 (lv_at hl 1 rfl) ?_
              refine lv_lmul hx hb dX7_deed_130 ?_
              refine lv_aload_n hx hb dX7_deed_131 rfl (lv_at hl 4 rfl) ?_
              refine va_get (D := (dC, dI)) (ci := 7) (v := .ref h_w) (C := RX7) (T := TX7) (N := 19) hx hb hts inn_X7_deed_X7 hown hK hP 0 rfl rfl 0 (by decide) (hts (.fieldLink RX7 7 "RingBasesModel" "w" "[I") (List.mem_of_getElem? (i := 2) rfl)) (fun _ h9 => h9) rfl dX7_deed_132 ?_
              refine lv_iconst (v := (1 : Int32)) hx hb dX7_deed_135 (by decide) ?_
              refine va_iald hx hb hK hP 1 0 rfl rfl (by unfold vp_in; decide) dX7_deed_136 ?_
              refine lv_i2l hx hb dX7_deed_137 rfl ?_
              refine lv_lload hx hb dX7_deed_138 (lv_at hl 2 rfl) ?_
              refine lv_lmul hx hb dX7_deed_140 ?_
              refine lv_lload hx hb dX7_deed_141 (lv_at hl 0 rfl) ?_
              refine lv_lmul hx hb dX7_deed_143 ?_
              refine lv_ladd hx hb dX7_deed_144 ?_
              refine lv_lload hx hb dX7_deed_145 (lv_at hl 3 rfl) ?_
              refine lv_lload hx hb dX7_deed_147 (lv_at hl 0 rfl) ?_
              refine lv_lmul hx hb dX7_deed_149 ?_
              refine lv_lload hx hb dX7_deed_150 (lv_at hl 2 rfl) ?_
              refine lv_lload hx hb dX7_deed_152 (lv_at hl 1 rfl) ?_
              refine lv_lmul hx hb dX7_deed_154 ?_
              refine lv_ladd hx hb dX7_deed_155 ?_
              refine lv_aload_n hx hb dX7_deed_156 rfl (lv_at hl 4 rfl) ?_
              refine va_get (D := (dC, dI)) (ci := 7) (v := .ref h_w) (C := RX7) (T := TX7) (N := 19) hx hb hts inn_X7_deed_X7 hown hK hP 0 rfl rfl 0 (by decide) (hts (.fieldLink RX7 7 "RingBasesModel" "w" "[I") (List.mem_of_getElem? (i := 2) rfl)) (fun _ h9 => h9) rfl dX7_deed_157 ?_
              refine lv_iconst (v := (0 : Int32)) hx hb dX7_deed_160 (by decide) ?_
              refine va_iald hx hb hK hP 1 0 rfl rfl (by unfold vp_in; decide) dX7_deed_161 ?_
              refine lv_i2l hx hb dX7_deed_162 rfl ?_
              refine lv_lload hx hb dX7_deed_163 (lv_at hl 2 rfl) ?_
              refine lv_lmul hx hb dX7_deed_165 ?_
              refine lv_lload hx hb dX7_deed_166 (lv_at hl 0 rfl) ?_
              refine lv_lmul hx hb dX7_deed_168 ?_
              refine lv_ladd hx hb dX7_deed_169 ?_
              obtain ⟨o_13, hc_o_13, hF⟩ := bd_s hF
              refine wrVi (o := o_13.1) (wc' := (wd_X7_setIn h0 h_w h_word h_ahead h_behind h_restM h_restN h_powerM h_powerN h_row c_w o_13.2.1 v_kept v_size v_high v_behindMany v_ends v_lead v_round v_worthM v_worthN o_13.2.2)) (As := [.int x1, .long ((o_4.toInt64 * o_6.toInt64) + (((v_w (1 : Int32).toNatClampNeg).toInt64 * o_5.toInt64) * o_7.toInt64)), .long (((o_4.toInt64 * o_7.toInt64) + (o_5.toInt64 * o_6.toInt64)) + (((v_w (0 : Int32).toNatClampNeg).toInt64 * o_5.toInt64) * o_7.toInt64))]) (rest := []) (b := h0) hC (c_X7_setIn l dC dI H.size h0 h_w h_word h_ahead h_behind h_restM h_restN h_powerM h_powerN h_row c_w v_known v_kept v_size v_high v_behindMany v_ends v_lead v_round v_worthM v_worthN v_w x1 ((o_4.toInt64 * o_6.toInt64) + (((v_w (1 : Int32).toNatClampNeg).toInt64 * o_5.toInt64) * o_7.toInt64)) (((o_4.toInt64 * o_7.toInt64) + (o_5.toInt64 * o_6.toInt64)) + (((v_w (0 : Int32).toNatClampNeg).toInt64 * o_5.toInt64) * o_7.toInt64)) o_13 hc_o_13) (cwV 3 hts gX7_deed_X7_setIn rfl rfl rfl (by decide +kernel) ⟨Nat.le_of_ble_eq_true rfl, Nat.le_of_ble_eq_true rfl⟩) hN (hK.sub (tys' := [(c_w, .int)]) [0] rfl) hP hD hS hA [0, 1] rfl rfl rfl rfl 0 7 rfl rfl rfl rfl hl.1 (Nat.le_of_ble_eq_true rfl) dX7_deed_170 ⟨Nat.zero_le _, Nat.zero_le _⟩ (fun H locs hP hS => ?_)
              have hP : va_P (dC, dI) vwCl (wd_X7_deed h0 h_w h_word h_ahead h_behind h_restM h_restN h_powerM h_powerN h_row c_w o_13.2.1 v_kept v_size v_high v_behindMany v_ends v_lead v_round v_worthM v_worthN o_13.2.2) H := hP
              have hD : va_D A (wd_X7_deed h0 h_w h_word h_ahead h_behind h_restM h_restN h_powerM h_powerN h_row c_w o_13.2.1 v_kept v_size v_high v_behindMany v_ends v_lead v_round v_worthM v_worthN o_13.2.2) := va_D.re hD rfl
              obtain ⟨rfl, rfl, rfl⟩ := oks3 hF; exact hE _ _ _ _ hP hS dX7_deed_173
            · replace hF := ite_f g_12 hF
              by_cases g_14 : x2 = (3 : Int32)
              · replace hF := ite_t g_14 hF
                refine lv_tableIn (tgt := 174) hx hb dX7_deed_60 (by rw [g_14]; decide) (by rw [g_14]; decide) (by rw [g_14]; rfl) (by decide) ?_
                refine lv_aload_n hx hb dX7_deed_174 rfl (lv_at hl 4 rfl) ?_
                refine lv_iload_n hx hb dX7_deed_175 rfl (lv_at hl 5 rfl) ?_
                refine lv_lload hx hb dX7_deed_176 (lv_at hl 2 rfl) ?_
                refine lv_aload_n hx hb dX7_deed_178 rfl (lv_at hl 4 rfl) ?_
                refine va_get (D := (dC, dI)) (ci := 7) (v := .ref h_w) (C := RX7) (T := TX7) (N := 19) hx hb hts inn_X7_deed_X7 hown hK hP 0 rfl rfl 0 (by decide) (hts (.fieldLink RX7 7 "RingBasesModel" "w" "[I") (List.mem_of_getElem? (i := 2) rfl)) (fun _ h9 => h9) rfl dX7_deed_179 ?_
                refine lv_iconst (v := (1 : Int32)) hx hb dX7_deed_182 (by decide) ?_
                refine va_iald hx hb hK hP 1 0 rfl rfl (by unfold vp_in; decide) dX7_deed_183 ?_
                refine lv_i2l hx hb dX7_deed_184 rfl ?_
                refine lv_lmul hx hb dX7_deed_185 ?_
                refine lv_lload hx hb dX7_deed_186 (lv_at hl 3 rfl) ?_
                refine lv_lload hx hb dX7_deed_188 (lv_at hl 2 rfl) ?_
                refine lv_aload_n hx hb dX7_deed_190 rfl (lv_at hl 4 rfl) ?_
                refine va_get (D := (dC, dI)) (ci := 7) (v := .ref h_w) (C := RX7) (T := TX7) (N := 19) hx hb hts inn_X7_deed_X7 hown hK hP 0 rfl rfl 0 (by decide) (hts (.fieldLink RX7 7 "RingBasesModel" "w" "[I") (List.mem_of_getElem? (i := 2) rfl)) (fun _ h9 => h9) rfl dX7_deed_191 ?_
                refine lv_iconst (v := (0 : Int32)) hx hb dX7_deed_194 (by decide) ?_
                refine va_iald hx hb hK hP 1 0 rfl rfl (by unfold vp_in; decide) dX7_deed_195 ?_
                refine lv_i2l hx hb dX7_deed_196 rfl ?_
                refine lv_lmul hx hb dX7_deed_197 ?_
                refine lv_ladd hx hb dX7_deed_198 ?_
                obtain ⟨o_15, hc_o_15, hF⟩ := bd_s hF
                refine wrVi (o := o_15.1) (wc' := (wd_X7_setIn h0 h_w h_word h_ahead h_behind h_restM h_restN h_powerM h_powerN h_row c_w o_15.2.1 v_kept v_size v_high v_behindMany v_ends v_lead v_round v_worthM v_worthN o_15.2.2)) (As := [.int x1, .long (o_5.toInt64 * (v_w (1 : Int32).toNatClampNeg).toInt64), .long (o_4.toInt64 + (o_5.toInt64 * (v_w (0 : Int32).toNatClampNeg).toInt64))]) (rest := []) (b := h0) hC (c_X7_setIn l dC dI H.size h0 h_w h_word h_ahead h_behind h_restM h_restN h_powerM h_powerN h_row c_w v_known v_kept v_size v_high v_behindMany v_ends v_lead v_round v_worthM v_worthN v_w x1 (o_5.toInt64 * (v_w (1 : Int32).toNatClampNeg).toInt64) (o_4.toInt64 + (o_5.toInt64 * (v_w (0 : Int32).toNatClampNeg).toInt64)) o_15 hc_o_15) (cwV 3 hts gX7_deed_X7_setIn rfl rfl rfl (by decide +kernel) ⟨Nat.le_of_ble_eq_true rfl, Nat.le_of_ble_eq_true rfl⟩) hN (hK.sub (tys' := [(c_w, .int)]) [0] rfl) hP hD hS hA [0, 1] rfl rfl rfl rfl 0 7 rfl rfl rfl rfl hl.1 (Nat.le_of_ble_eq_true rfl) dX7_deed_199 ⟨Nat.zero_le _, Nat.zero_le _⟩ (fun H locs hP hS => ?_)
                have hP : va_P (dC, dI) vwCl (wd_X7_deed h0 h_w h_word h_ahead h_behind h_restM h_restN h_powerM h_powerN h_row c_w o_15.2.1 v_kept v_size v_high v_behindMany v_ends v_lead v_round v_worthM v_worthN o_15.2.2) H := hP
                have hD : va_D A (wd_X7_deed h0 h_w h_word h_ahead h_behind h_restM h_restN h_powerM h_powerN h_row c_w o_15.2.1 v_kept v_size v_high v_behindMany v_ends v_lead v_round v_worthM v_worthN o_15.2.2) := va_D.re hD rfl
                obtain ⟨rfl, rfl, rfl⟩ := oks3 hF; exact hE _ _ _ _ hP hS dX7_deed_202
              · replace hF := ite_f g_14 hF
                have tg_8 := lv_neT g_8 (a := 0) (by decide)
                have tg_10 := lv_neT g_10 (a := 1) (by decide)
                have tg_12 := lv_neT g_12 (a := 2) (by decide)
                have tg_14 := lv_neT g_14 (a := 3) (by decide)
                refine lv_tableOut (tgt := 203) hx hb dX7_deed_60 (by omega) (by decide) ?_
                refine lv_ldc (v := (-2000000002 : Int32)) hx hb hown (hts (.constant RX7 156 (-2000000002)) (List.mem_of_getElem? (i := 3) rfl)) dX7_deed_203 ?_
                obtain ⟨rfl, rfl, rfl⟩ := oks3 hF; exact hE _ _ _ _ hP hS dX7_deed_205
      · replace hF := ite_t g_3 hF
        refine lv_ldc (v := (-2000000001 : Int32)) hx hb hown (hts (.constant RX7 163 (-2000000001)) (List.mem_of_getElem? (i := 1) rfl)) dX7_deed_22 ?_
        obtain ⟨rfl, rfl, rfl⟩ := oks3 hF; exact hE _ _ _ _ hP hS dX7_deed_24
set_option maxRecDepth 100000 in
set_option maxHeartbeats 4000000 in
theorem c_X7_deed (l : Launch) (dC : Nat → ClassId) (dI : Nat → Nat → Nat) (sz : Nat) (h0 h_w h_word h_ahead h_behind h_restM h_restN h_powerM h_powerN h_row : Nat) (c_w : ClassId) (v_known : Int32) (v_kept : Int32) (v_size : Int32) (v_high : Int32) (v_behindMany : Int32) (v_ends : Int32) (v_lead : Int32) (v_round : Int32) (v_worthM : Int64) (v_worthN : Int64) (v_w : (Nat → Int32)) (x1 : Int32) (x2 : Int32) (x3 : Int32) (x4 : Int32) (o : Int32 × Int32 × (Nat → Int32)) (hF : F_X7_deed x1 x2 x3 x4 v_known v_w = some o) : Met l yX7_deed wsX7_deed rm_X7_deed (va_Pc [.ref h0, .int x1, .int x2, .int x3, .int x4] (PcW dC dI sz (wd_X7_deed h0 h_w h_word h_ahead h_behind h_restM h_restN h_powerM h_powerN h_row c_w v_known v_kept v_size v_high v_behindMany v_ends v_lead v_round v_worthM v_worthN v_w) [(c_w, .int)])) (va_Qi (fun (r : Int32) (_ : Unit) => r = o.1) (fun _ t => va_P (dC, dI) vwCl (wd_X7_deed h0 h_w h_word h_ahead h_behind h_restM h_restN h_powerM h_powerN h_row c_w o.2.1 v_kept v_size v_high v_behindMany v_ends v_lead v_round v_worthM v_worthN o.2.2) t.heap) (va_A (wd_X7_deed h0 h_w h_word h_ahead h_behind h_restM h_restN h_powerM h_powerN h_row c_w v_known v_kept v_size v_high v_behindMany v_ends v_lead v_round v_worthM v_worthN v_w) sz)) 0 0 (va_A (wd_X7_deed h0 h_w h_word h_ahead h_behind h_restM h_restN h_powerM h_powerN h_row c_w v_known v_kept v_size v_high v_behindMany v_ends v_lead v_round v_worthM v_worthN v_w) sz) := by
  refine Met.ofW (cc := cX7_deed) (maxL := 13) (ret := (some .int)) (by decide) rfl ?_
  intro p e s m args below meth c s₁ B hml hv
  obtain ⟨rfl, hsz, hP, hK, hD0, hN⟩ := hv
  subst hsz
  have hl := lv_entry ([.ref h0, .int x1, .int x2, .int x3, .int x4]) (n := 13) (Nat.le_of_ble_eq_true rfl)
  rw [lg_entry_eq]
  generalize (lg_sl ([.ref h0, .int x1, .int x2, .int x3, .int x4]) ++ List.replicate (13 - (lg_sl ([.ref h0, .int x1, .int x2, .int x3, .int x4])).length) Slot.unset).toArray = ls at hl ⊢
  exact b_X7_deed h0 h_w h_word h_ahead h_behind h_restM h_restN h_powerM h_powerN h_row c_w v_known v_kept v_size v_high v_behindMany v_ends v_lead v_round v_worthM v_worthN v_w x1 x2 x3 x4 o.1 o.2.1 o.2.2 hF ⟨B.exec, B.bytes, hml, findClass_of_methodNamed B.named, atoms_spec (ws := wsX7_deed) B.pre⟩ hN hK hP (fun q h => Or.inr h) (hD0.self (sz := s.heap.size)) va_S.rf (fun H locs ls pc hP hS hd => W.iret B.exec B.bytes B.returns (fun t ht hW => ⟨⟨_, (), rfl, rfl, by show va_P (dC, dI) vwCl _ t.heap; rw [ht]; exact hP⟩, hS.F ht⟩) hS.2.2 hd B.notSynchronized) hl
abbrev wd_X7_drift (h0 h_w h_word h_ahead h_behind h_restM h_restN h_powerM h_powerN h_row : Nat) (c_w : ClassId) (v_known : Int32) (v_kept : Int32) (v_size : Int32) (v_high : Int32) (v_behindMany : Int32) (v_ends : Int32) (v_lead : Int32) (v_round : Int32) (v_worthM : Int64) (v_worthN : Int64) (v_w : (Nat → Int32)) : va_W := [(h0, .inr (7, [.ref h_w, .int v_known, .int v_kept, .ref h_word, .int v_size, .ref h_ahead, .int v_high, .ref h_behind, .int v_behindMany, .ref h_restM, .ref h_restN, .ref h_powerM, .ref h_powerN, .int v_ends, .int v_lead, .int v_round, .ref h_row, .long v_worthM, .long v_worthN])), (h_w, .inl (c_w, 110, .inl v_w))]
abbrev rm_X7_drift : Room := { frames := 3, cells := 0, slots := 0, locals := 73 }
def F_X7_drift_101 (x1 : Int32) (x7 : Int64) (x9 : Int32) (v_known : Int32) (v_w : (Nat → Int32)) (s1 : Int32) (s2 : Int64) : Option (Int32 × Int32 × (Nat → Int32)) := (if x9 = 0 then ((F_X7_set s1 s2 x7 v_known v_w).bind fun o_2 => (if 0 ≤ o_2.1 then ((F_X7_mOf x1 o_2.2.2).bind fun o_4 => (some ((o_4 + (2000 : Int32)), o_2.2.1, o_2.2.2))) else (some ((-1 : Int32), o_2.2.1, o_2.2.2)))) else ((F_X7_set s1 s2 (-x7) v_known v_w).bind fun o_5 => (if 0 ≤ o_5.1 then ((F_X7_mOf x1 o_5.2.2).bind fun o_7 => (some ((o_7 + (2000 : Int32)), o_5.2.1, o_5.2.2))) else (some ((-1 : Int32), o_5.2.1, o_5.2.2)))))
def F_X7_drift (x1 : Int32) (x2 : Int32) (v_known : Int32) (v_w : (Nat → Int32)) : Option (Int32 × Int32 × (Nat → Int32)) := (if (F_X7_isShelf x1) = 0 then (some ((-2000000001 : Int32), v_known, v_w)) else (if (F_X7_in x2.toInt64 (1 : Int64) (999999 : Int64)) = 0 then (some ((-2000000002 : Int32), v_known, v_w)) else (if 0 ≤ (F_X7_signOf ((((x2.toInt64 * (16807 : Int64)) - (x2.toInt64 * (16807 : Int64)) / (2147483647 : Int64) * (2147483647 : Int64)) - ((x2.toInt64 * (16807 : Int64)) - (x2.toInt64 * (16807 : Int64)) / (2147483647 : Int64) * (2147483647 : Int64)) / (2001 : Int64) * (2001 : Int64)) - (1000 : Int64)) ((((((x2.toInt64 * (16807 : Int64)) - (x2.toInt64 * (16807 : Int64)) / (2147483647 : Int64) * (2147483647 : Int64)) * (16807 : Int64)) - (((x2.toInt64 * (16807 : Int64)) - (x2.toInt64 * (16807 : Int64)) / (2147483647 : Int64) * (2147483647 : Int64)) * (16807 : Int64)) / (2147483647 : Int64) * (2147483647 : Int64)) - ((((x2.toInt64 * (16807 : Int64)) - (x2.toInt64 * (16807 : Int64)) / (2147483647 : Int64) * (2147483647 : Int64)) * (16807 : Int64)) - (((x2.toInt64 * (16807 : Int64)) - (x2.toInt64 * (16807 : Int64)) / (2147483647 : Int64) * (2147483647 : Int64)) * (16807 : Int64)) / (2147483647 : Int64) * (2147483647 : Int64)) / (2001 : Int64) * (2001 : Int64)) - (1000 : Int64)) v_w) then (if (0 : Int32) = 0 then (F_X7_drift_101  x1 ((((((x2.toInt64 * (16807 : Int64)) - (x2.toInt64 * (16807 : Int64)) / (2147483647 : Int64) * (2147483647 : Int64)) * (16807 : Int64)) - (((x2.toInt64 * (16807 : Int64)) - (x2.toInt64 * (16807 : Int64)) / (2147483647 : Int64) * (2147483647 : Int64)) * (16807 : Int64)) / (2147483647 : Int64) * (2147483647 : Int64)) - ((((x2.toInt64 * (16807 : Int64)) - (x2.toInt64 * (16807 : Int64)) / (2147483647 : Int64) * (2147483647 : Int64)) * (16807 : Int64)) - (((x2.toInt64 * (16807 : Int64)) - (x2.toInt64 * (16807 : Int64)) / (2147483647 : Int64) * (2147483647 : Int64)) * (16807 : Int64)) / (2147483647 : Int64) * (2147483647 : Int64)) / (2001 : Int64) * (2001 : Int64)) - (1000 : Int64)) (0 : Int32) v_known v_w x1 ((((x2.toInt64 * (16807 : Int64)) - (x2.toInt64 * (16807 : Int64)) / (2147483647 : Int64) * (2147483647 : Int64)) - ((x2.toInt64 * (16807 : Int64)) - (x2.toInt64 * (16807 : Int64)) / (2147483647 : Int64) * (2147483647 : Int64)) / (2001 : Int64) * (2001 : Int64)) - (1000 : Int64))) else (F_X7_drift_101  x1 ((((((x2.toInt64 * (16807 : Int64)) - (x2.toInt64 * (16807 : Int64)) / (2147483647 : Int64) * (2147483647 : Int64)) * (16807 : Int64)) - (((x2.toInt64 * (16807 : Int64)) - (x2.toInt64 * (16807 : Int64)) / (2147483647 : Int64) * (2147483647 : Int64)) * (16807 : Int64)) / (2147483647 : Int64) * (2147483647 : Int64)) - ((((x2.toInt64 * (16807 : Int64)) - (x2.toInt64 * (16807 : Int64)) / (2147483647 : Int64) * (2147483647 : Int64)) * (16807 : Int64)) - (((x2.toInt64 * (16807 : Int64)) - (x2.toInt64 * (16807 : Int64)) / (2147483647 : Int64) * (2147483647 : Int64)) * (16807 : Int64)) / (2147483647 : Int64) * (2147483647 : Int64)) / (2001 : Int64) * (2001 : Int64)) - (1000 : Int64)) (0 : Int32) v_known v_w x1 (-((((x2.toInt64 * (16807 : Int64)) - (x2.toInt64 * (16807 : Int64)) / (2147483647 : Int64) * (2147483647 : Int64)) - ((x2.toInt64 * (16807 : Int64)) - (x2.toInt64 * (16807 : Int64)) / (2147483647 : Int64) * (2147483647 : Int64)) / (2001 : Int64) * (2001 : Int64)) - (1000 : Int64))))) else (if (1 : Int32) = 0 then (F_X7_drift_101  x1 ((((((x2.toInt64 * (16807 : Int64)) - (x2.toInt64 * (16807 : Int64)) / (2147483647 : Int64) * (2147483647 : Int64)) * (16807 : Int64)) - (((x2.toInt64 * (16807 : Int64)) - (x2.toInt64 * (16807 : Int64)) / (2147483647 : Int64) * (2147483647 : Int64)) * (16807 : Int64)) / (2147483647 : Int64) * (2147483647 : Int64)) - ((((x2.toInt64 * (16807 : Int64)) - (x2.toInt64 * (16807 : Int64)) / (2147483647 : Int64) * (2147483647 : Int64)) * (16807 : Int64)) - (((x2.toInt64 * (16807 : Int64)) - (x2.toInt64 * (16807 : Int64)) / (2147483647 : Int64) * (2147483647 : Int64)) * (16807 : Int64)) / (2147483647 : Int64) * (2147483647 : Int64)) / (2001 : Int64) * (2001 : Int64)) - (1000 : Int64)) (1 : Int32) v_known v_w x1 ((((x2.toInt64 * (16807 : Int64)) - (x2.toInt64 * (16807 : Int64)) / (2147483647 : Int64) * (2147483647 : Int64)) - ((x2.toInt64 * (16807 : Int64)) - (x2.toInt64 * (16807 : Int64)) / (2147483647 : Int64) * (2147483647 : Int64)) / (2001 : Int64) * (2001 : Int64)) - (1000 : Int64))) else (F_X7_drift_101  x1 ((((((x2.toInt64 * (16807 : Int64)) - (x2.toInt64 * (16807 : Int64)) / (2147483647 : Int64) * (2147483647 : Int64)) * (16807 : Int64)) - (((x2.toInt64 * (16807 : Int64)) - (x2.toInt64 * (16807 : Int64)) / (2147483647 : Int64) * (2147483647 : Int64)) * (16807 : Int64)) / (2147483647 : Int64) * (2147483647 : Int64)) - ((((x2.toInt64 * (16807 : Int64)) - (x2.toInt64 * (16807 : Int64)) / (2147483647 : Int64) * (2147483647 : Int64)) * (16807 : Int64)) - (((x2.toInt64 * (16807 : Int64)) - (x2.toInt64 * (16807 : Int64)) / (2147483647 : Int64) * (2147483647 : Int64)) * (16807 : Int64)) / (2147483647 : Int64) * (2147483647 : Int64)) / (2001 : Int64) * (2001 : Int64)) - (1000 : Int64)) (1 : Int32) v_known v_w x1 (-((((x2.toInt64 * (16807 : Int64)) - (x2.toInt64 * (16807 : Int64)) / (2147483647 : Int64) * (2147483647 : Int64)) - ((x2.toInt64 * (16807 : Int64)) - (x2.toInt64 * (16807 : Int64)) / (2147483647 : Int64) * (2147483647 : Int64)) / (2001 : Int64) * (2001 : Int64)) - (1000 : Int64))))))))
set_option maxRecDepth 100000 in
set_option maxHeartbeats 4000000 in
theorem b_X7_drift {p : Program} {l : Launch} {e : Env} {s : State} {m : MethodId} {args : Array Value} {below : List Frame} {meth : Method} {c : Code} {Q : State → Prop} {dC : Nat → ClassId} {dI : Nat → Nat → Nat} {H : Heap} {locs : List Loc} {ls : Array Slot} {A : Nat → Prop} (h0 h_w h_word h_ahead h_behind h_restM h_restN h_powerM h_powerN h_row : Nat) (c_w : ClassId) (v_known : Int32) (v_kept : Int32) (v_size : Int32) (v_high : Int32) (v_behindMany : Int32) (v_ends : Int32) (v_lead : Int32) (v_round : Int32) (v_worthM : Int64) (v_worthN : Int64) (v_w : (Nat → Int32)) (x1 : Int32) (x2 : Int32) (ou0 : Int32) (ou1 : Int32) (ou2 : (Nat → Int32)) (hF : F_X7_drift x1 x2 v_known v_w = some (ou0, ou1, ou2)) (hC : CallFix p m c cX7_drift 11 s args wsX7_drift RX7) (hN : NW s) (hK : va_K (dC, dI) vwCl [(c_w, .int)] s) (hP : va_P (dC, dI) vwCl (wd_X7_drift h0 h_w h_word h_ahead h_behind h_restM h_restN h_powerM h_powerN h_row c_w v_known v_kept v_size v_high v_behindMany v_ends v_lead v_round v_worthM v_worthN v_w) H) (hA : ∀ q, s.heap.size ≤ q → A q) (hD : va_D A (wd_X7_drift h0 h_w h_word h_ahead h_behind h_restM h_restN h_powerM h_powerN h_row c_w v_known v_kept v_size v_high v_behindMany v_ends v_lead v_round v_worthM v_worthN v_w)) (hS : va_S A s.heap H locs) (hE : ∀ (H : Heap) (locs : List Loc) (ls : Array Slot) (pc : Nat), va_P (dC, dI) vwCl (wd_X7_drift h0 h_w h_word h_ahead h_behind h_restM h_restN h_powerM h_powerN h_row c_w ou1 v_kept v_size v_high v_behindMany v_ends v_lead v_round v_worthM v_worthN ou2) H → va_S A s.heap H locs → decode cX7_drift pc = .ok (.ireturn, 1) → W p l e rm_X7_drift s m args below meth c H locs 0 0 Q (F0 m pc ls [.int ou0])) (hl : lv_has ls 11 [(0, .ref h0), (1, .int x1), (2, .int x2)]) : W p l e rm_X7_drift s m args below meth c H locs 0 0 Q (F0 m 0 ls []) := by
  obtain ⟨hx, hb, hml, hown, hts⟩ := id hC
  have hD0 := hD
  unfold F_X7_drift at hF
  have k_101 : ∀ (x7 : Int64) (x9 : Int32) (v_known : Int32) (v_w : (Nat → Int32)) (s1 : Int32) (s2 : Int64), F_X7_drift_101  x1 x7 x9 v_known v_w s1 s2 = some (ou0, ou1, ou2) → ∀ (H : Heap) (locs : List Loc), va_P (dC, dI) vwCl (wd_X7_drift h0 h_w h_word h_ahead h_behind h_restM h_restN h_powerM h_powerN h_row c_w v_known v_kept v_size v_high v_behindMany v_ends v_lead v_round v_worthM v_worthN v_w) H → va_S A s.heap H locs → ∀ ls : Array Slot, lv_has ls 11 [(0, .ref h0), (1, .int x1), (7, .long x7), (9, .int x9)] → W p l e rm_X7_drift s m args below meth c H locs 0 0 Q (F0 m 101 ls [.long s2, .int s1, .ref h0]) := by
    intro x7 x9 v_known v_w s1 s2 hF H locs hP hS ls hl
    rw [F_X7_drift_101] at hF
    have hD : va_D A (wd_X7_drift h0 h_w h_word h_ahead h_behind h_restM h_restN h_powerM h_powerN h_row c_w v_known v_kept v_size v_high v_behindMany v_ends v_lead v_round v_worthM v_worthN v_w) := hD0.re rfl
    refine lv_iload hx hb dX7_drift_101 (lv_at hl 3 rfl) ?_
    refine lv_if_eq (tgt := 112) hx hb dX7_drift_103 (by decide) (fun g_1 => ?_) (fun g_1 => ?_)
    · replace hF := ite_t g_1 hF
      refine lv_lload hx hb dX7_drift_112 (lv_at hl 2 rfl) ?_
      obtain ⟨o_2, hc_o_2, hF⟩ := bd_s hF
      refine wrVi (o := o_2.1) (wc' := (wd_X7_set h0 h_w h_word h_ahead h_behind h_restM h_restN h_powerM h_powerN h_row c_w o_2.2.1 v_kept v_size v_high v_behindMany v_ends v_lead v_round v_worthM v_worthN o_2.2.2)) (As := [.int s1, .long s2, .long x7]) (rest := []) (b := h0) hC (c_X7_set l dC dI H.size h0 h_w h_word h_ahead h_behind h_restM h_restN h_powerM h_powerN h_row c_w v_known v_kept v_size v_high v_behindMany v_ends v_lead v_round v_worthM v_worthN v_w s1 s2 x7 o_2 hc_o_2) (cwV 3 hts gX7_drift_X7_set rfl rfl rfl (by decide +kernel) ⟨Nat.le_of_ble_eq_true rfl, Nat.le_of_ble_eq_true rfl⟩) hN (hK.sub (tys' := [(c_w, .int)]) [0] rfl) hP hD hS hA [0, 1] rfl rfl rfl rfl 0 7 rfl rfl rfl rfl hl.1 (Nat.le_of_ble_eq_true rfl) dX7_drift_114 ⟨Nat.zero_le _, Nat.zero_le _⟩ (fun H locs hP hS => ?_)
      have hP : va_P (dC, dI) vwCl (wd_X7_drift h0 h_w h_word h_ahead h_behind h_restM h_restN h_powerM h_powerN h_row c_w o_2.2.1 v_kept v_size v_high v_behindMany v_ends v_lead v_round v_worthM v_worthN o_2.2.2) H := hP
      have hD : va_D A (wd_X7_drift h0 h_w h_word h_ahead h_behind h_restM h_restN h_powerM h_powerN h_row c_w o_2.2.1 v_kept v_size v_high v_behindMany v_ends v_lead v_round v_worthM v_worthN o_2.2.2) := va_D.re hD rfl
      refine lv_istore (lv' := [(10, .int o_2.1), (0, .ref h0), (1, .int x1), (7, .long x7), (9, .int x9)]) hx hb dX7_drift_117 hl (by decide) rfl (fun ls hl => ?_)
      refine lv_iload hx hb dX7_drift_119 (lv_at hl 0 rfl) ?_
      refine lv_if_ge (tgt := 128) hx hb dX7_drift_121 (by decide) (fun g_3 => ?_) (fun g_3 => ?_)
      · replace hF := ite_t g_3 hF
        refine lv_aload_n hx hb dX7_drift_128 rfl (lv_at hl 1 rfl) ?_
        refine lv_iload_n hx hb dX7_drift_129 rfl (lv_at hl 2 rfl) ?_
        obtain ⟨o_4, hc_o_4, hF⟩ := bd_s hF
        refine rdVi (As := [.int x1]) (rest := []) (b := h0) hC (c_X7_mOf l dC dI h0 h_w h_word h_ahead h_behind h_restM h_restN h_powerM h_powerN h_row c_w o_2.2.1 v_kept v_size v_high v_behindMany v_ends v_lead v_round v_worthM v_worthN o_2.2.2 x1 o_4 hc_o_4) (cwV 1 hts gX7_drift_X7_mOf rfl rfl rfl (by decide +kernel) ⟨Nat.le_of_ble_eq_true rfl, Nat.le_of_ble_eq_true rfl⟩) hN (hK.sub (tys' := [(c_w, .int)]) [0] rfl) (hP.sub (ws' := (wd_X7_mOf h0 h_w h_word h_ahead h_behind h_restM h_restN h_powerM h_powerN h_row c_w o_2.2.1 v_kept v_size v_high v_behindMany v_ends v_lead v_round v_worthM v_worthN o_2.2.2)) [0, 1] rfl) 0 7 rfl rfl rfl rfl hl.1 (Nat.le_of_ble_eq_true rfl) dX7_drift_130 ⟨Nat.zero_le _, Nat.zero_le _⟩ ?_
        refine lv_sipush (v := (2000 : Int32)) hx hb dX7_drift_133 (by decide) ?_
        refine lv_iadd hx hb dX7_drift_136 ?_
        obtain ⟨rfl, rfl, rfl⟩ := oks3 hF; exact hE _ _ _ _ hP hS dX7_drift_137
      · replace hF := ite_f g_3 hF
        refine lv_iconst (v := (-1 : Int32)) hx hb dX7_drift_124 (by decide) ?_
        refine lv_goto (tgt := 137) hx hb dX7_drift_125 (by decide) ?_
        obtain ⟨rfl, rfl, rfl⟩ := oks3 hF; exact hE _ _ _ _ hP hS dX7_drift_137
    · replace hF := ite_f g_1 hF
      refine lv_lload hx hb dX7_drift_106 (lv_at hl 2 rfl) ?_
      refine lv_lneg hx hb dX7_drift_108 ?_
      refine lv_goto (tgt := 114) hx hb dX7_drift_109 (by decide) ?_
      obtain ⟨o_5, hc_o_5, hF⟩ := bd_s hF
      refine wrVi (o := o_5.1) (wc' := (wd_X7_set h0 h_w h_word h_ahead h_behind h_restM h_restN h_powerM h_powerN h_row c_w o_5.2.1 v_kept v_size v_high v_behindMany v_ends v_lead v_round v_worthM v_worthN o_5.2.2)) (As := [.int s1, .long s2, .long (-x7)]) (rest := []) (b := h0) hC (c_X7_set l dC dI H.size h0 h_w h_word h_ahead h_behind h_restM h_restN h_powerM h_powerN h_row c_w v_known v_kept v_size v_high v_behindMany v_ends v_lead v_round v_worthM v_worthN v_w s1 s2 (-x7) o_5 hc_o_5) (cwV 3 hts gX7_drift_X7_set rfl rfl rfl (by decide +kernel) ⟨Nat.le_of_ble_eq_true rfl, Nat.le_of_ble_eq_true rfl⟩) hN (hK.sub (tys' := [(c_w, .int)]) [0] rfl) hP hD hS hA [0, 1] rfl rfl rfl rfl 0 7 rfl rfl rfl rfl hl.1 (Nat.le_of_ble_eq_true rfl) dX7_drift_114 ⟨Nat.zero_le _, Nat.zero_le _⟩ (fun H locs hP hS => ?_)
      have hP : va_P (dC, dI) vwCl (wd_X7_drift h0 h_w h_word h_ahead h_behind h_restM h_restN h_powerM h_powerN h_row c_w o_5.2.1 v_kept v_size v_high v_behindMany v_ends v_lead v_round v_worthM v_worthN o_5.2.2) H := hP
      have hD : va_D A (wd_X7_drift h0 h_w h_word h_ahead h_behind h_restM h_restN h_powerM h_powerN h_row c_w o_5.2.1 v_kept v_size v_high v_behindMany v_ends v_lead v_round v_worthM v_worthN o_5.2.2) := va_D.re hD rfl
      refine lv_istore (lv' := [(10, .int o_5.1), (0, .ref h0), (1, .int x1), (7, .long x7), (9, .int x9)]) hx hb dX7_drift_117 hl (by decide) rfl (fun ls hl => ?_)
      refine lv_iload hx hb dX7_drift_119 (lv_at hl 0 rfl) ?_
      refine lv_if_ge (tgt := 128) hx hb dX7_drift_121 (by decide) (fun g_6 => ?_) (fun g_6 => ?_)
      · replace hF := ite_t g_6 hF
        refine lv_aload_n hx hb dX7_drift_128 rfl (lv_at hl 1 rfl) ?_
        refine lv_iload_n hx hb dX7_drift_129 rfl (lv_at hl 2 rfl) ?_
        obtain ⟨o_7, hc_o_7, hF⟩ := bd_s hF
        refine rdVi (As := [.int x1]) (rest := []) (b := h0) hC (c_X7_mOf l dC dI h0 h_w h_word h_ahead h_behind h_restM h_restN h_powerM h_powerN h_row c_w o_5.2.1 v_kept v_size v_high v_behindMany v_ends v_lead v_round v_worthM v_worthN o_5.2.2 x1 o_7 hc_o_7) (cwV 1 hts gX7_drift_X7_mOf rfl rfl rfl (by decide +kernel) ⟨Nat.le_of_ble_eq_true rfl, Nat.le_of_ble_eq_true rfl⟩) hN (hK.sub (tys' := [(c_w, .int)]) [0] rfl) (hP.sub (ws' := (wd_X7_mOf h0 h_w h_word h_ahead h_behind h_restM h_restN h_powerM h_powerN h_row c_w o_5.2.1 v_kept v_size v_high v_behindMany v_ends v_lead v_round v_worthM v_worthN o_5.2.2)) [0, 1] rfl) 0 7 rfl rfl rfl rfl hl.1 (Nat.le_of_ble_eq_true rfl) dX7_drift_130 ⟨Nat.zero_le _, Nat.zero_le _⟩ ?_
        refine lv_sipush (v := (2000 : Int32)) hx hb dX7_drift_133 (by decide) ?_
        refine lv_iadd hx hb dX7_drift_136 ?_
        obtain ⟨rfl, rfl, rfl⟩ := oks3 hF; exact hE _ _ _ _ hP hS dX7_drift_137
      · replace hF := ite_f g_6 hF
        refine lv_iconst (v := (-1 : Int32)) hx hb dX7_drift_124 (by decide) ?_
        refine lv_goto (tgt := 137) hx hb dX7_drift_125 (by decide) ?_
        obtain ⟨rfl, rfl, rfl⟩ := oks3 hF; exact hE _ _ _ _ hP hS dX7_drift_137
  refine lv_iload_n hx hb dX7_drift_0 rfl (lv_at hl 1 rfl) ?_
  refine rdSi (As := [.int x1]) (rest := []) hC (c_X7_isShelf l dC dI  x1 (F_X7_isShelf x1) rfl) (va_cwS 1 hts gX7_drift_X7_isShelf rfl rfl rfl (by decide +kernel) ⟨Nat.le_of_ble_eq_true rfl, Nat.le_of_ble_eq_true rfl⟩) hN (hK.sub (tys' := []) [] rfl) (hP.sub (ws' := wd_X7_isShelf) [] rfl) rfl rfl hl.1 (Nat.le_of_ble_eq_true rfl) dX7_drift_1 ⟨Nat.zero_le _, Nat.zero_le _⟩ ?_
  refine lv_if_ne (tgt := 10) hx hb dX7_drift_4 (by decide) (fun g_8 => ?_) (fun g_8 => ?_)
  · replace hF := ite_f g_8 hF
    refine lv_iload_n hx hb dX7_drift_10 rfl (lv_at hl 2 rfl) ?_
    refine lv_i2l hx hb dX7_drift_11 rfl ?_
    refine lv_lconst (v := (1 : Int64)) hx hb dX7_drift_12 (by decide) ?_
    refine lv_ldc2 (v := (999999 : Int64)) hx hb hown (hts (.constantLong RX7 129 (999999)) (List.mem_of_getElem? (i := 2) rfl)) dX7_drift_13 ?_
    refine rdSi (As := [.long x2.toInt64, .long (1 : Int64), .long (999999 : Int64)]) (rest := []) hC (c_X7_in l dC dI  x2.toInt64 (1 : Int64) (999999 : Int64) (F_X7_in x2.toInt64 (1 : Int64) (999999 : Int64)) rfl) (va_cwS 3 hts gX7_drift_X7_in rfl rfl rfl (by decide +kernel) ⟨Nat.le_of_ble_eq_true rfl, Nat.le_of_ble_eq_true rfl⟩) hN (hK.sub (tys' := []) [] rfl) (hP.sub (ws' := wd_X7_in) [] rfl) rfl rfl hl.1 (Nat.le_of_ble_eq_true rfl) dX7_drift_16 ⟨Nat.zero_le _, Nat.zero_le _⟩ ?_
    refine lv_if_ne (tgt := 25) hx hb dX7_drift_19 (by decide) (fun g_9 => ?_) (fun g_9 => ?_)
    · replace hF := ite_f g_9 hF
      refine lv_iload_n hx hb dX7_drift_25 rfl (lv_at hl 2 rfl) ?_
      refine lv_i2l hx hb dX7_drift_26 rfl ?_
      refine lv_ldc2 (v := (16807 : Int64)) hx hb hown (hts (.constantLong RX7 177 (16807)) (List.mem_of_getElem? (i := 4) rfl)) dX7_drift_27 ?_
      refine lv_lmul hx hb dX7_drift_30 ?_
      refine lv_ldc2 (v := (2147483647 : Int64)) hx hb hown (hts (.constantLong RX7 179 (2147483647)) (List.mem_of_getElem? (i := 5) rfl)) dX7_drift_31 ?_
      refine lv_lrem hx hb dX7_drift_34 (by decide) ?_
      refine lv_lstore_n (lv' := [(3, .long ((x2.toInt64 * (16807 : Int64)) - (x2.toInt64 * (16807 : Int64)) / (2147483647 : Int64) * (2147483647 : Int64))), (0, .ref h0), (1, .int x1), (2, .int x2)]) hx hb dX7_drift_35 rfl hl (by decide) rfl (fun ls hl => ?_)
      refine lv_lload_n hx hb dX7_drift_36 rfl (lv_at hl 0 rfl) ?_
      refine lv_ldc2 (v := (2001 : Int64)) hx hb hown (hts (.constantLong RX7 181 (2001)) (List.mem_of_getElem? (i := 6) rfl)) dX7_drift_37 ?_
      refine lv_lrem hx hb dX7_drift_40 (by decide) ?_
      refine lv_ldc2 (v := (1000 : Int64)) hx hb hown (hts (.constantLong RX7 183 (1000)) (List.mem_of_getElem? (i := 7) rfl)) dX7_drift_41 ?_
      refine lv_lsub hx hb dX7_drift_44 ?_
      refine lv_lstore (lv' := [(5, .long ((((x2.toInt64 * (16807 : Int64)) - (x2.toInt64 * (16807 : Int64)) / (2147483647 : Int64) * (2147483647 : Int64)) - ((x2.toInt64 * (16807 : Int64)) - (x2.toInt64 * (16807 : Int64)) / (2147483647 : Int64) * (2147483647 : Int64)) / (2001 : Int64) * (2001 : Int64)) - (1000 : Int64))), (3, .long ((x2.toInt64 * (16807 : Int64)) - (x2.toInt64 * (16807 : Int64)) / (2147483647 : Int64) * (2147483647 : Int64))), (0, .ref h0), (1, .int x1), (2, .int x2)]) hx hb dX7_drift_45 hl (by decide) rfl (fun ls hl => ?_)
      refine lv_lload_n hx hb dX7_drift_47 rfl (lv_at hl 1 rfl) ?_
      refine lv_ldc2 (v := (16807 : Int64)) hx hb hown (hts (.constantLong RX7 177 (16807)) (List.mem_of_getElem? (i := 4) rfl)) dX7_drift_48 ?_
      refine lv_lmul hx hb dX7_drift_51 ?_
      refine lv_ldc2 (v := (2147483647 : Int64)) hx hb hown (hts (.constantLong RX7 179 (2147483647)) (List.mem_of_getElem? (i := 5) rfl)) dX7_drift_52 ?_
      refine lv_lrem hx hb dX7_drift_55 (by decide) ?_
      refine lv_lstore_n (lv' := [(3, .long ((((x2.toInt64 * (16807 : Int64)) - (x2.toInt64 * (16807 : Int64)) / (2147483647 : Int64) * (2147483647 : Int64)) * (16807 : Int64)) - (((x2.toInt64 * (16807 : Int64)) - (x2.toInt64 * (16807 : Int64)) / (2147483647 : Int64) * (2147483647 : Int64)) * (16807 : Int64)) / (2147483647 : Int64) * (2147483647 : Int64))), (5, .long ((((x2.toInt64 * (16807 : Int64)) - (x2.toInt64 * (16807 : Int64)) / (2147483647 : Int64) * (2147483647 : Int64)) - ((x2.toInt64 * (16807 : Int64)) - (x2.toInt64 * (16807 : Int64)) / (2147483647 : Int64) * (2147483647 : Int64)) / (2001 : Int64) * (2001 : Int64)) - (1000 : Int64))), (0, .ref h0), (1, .int x1), (2, .int x2)]) hx hb dX7_drift_56 rfl hl (by decide) rfl (fun ls hl => ?_)
      refine lv_lload_n hx hb dX7_drift_57 rfl (lv_at hl 0 rfl) ?_
      refine lv_ldc2 (v := (2001 : Int64)) hx hb hown (hts (.constantLong RX7 181 (2001)) (List.mem_of_getElem? (i := 6) rfl)) dX7_drift_58 ?_
      refine lv_lrem hx hb dX7_drift_61 (by decide) ?_
      refine lv_ldc2 (v := (1000 : Int64)) hx hb hown (hts (.constantLong RX7 183 (1000)) (List.mem_of_getElem? (i := 7) rfl)) dX7_drift_62 ?_
      refine lv_lsub hx hb dX7_drift_65 ?_
      refine lv_lstore (lv' := [(7, .long ((((((x2.toInt64 * (16807 : Int64)) - (x2.toInt64 * (16807 : Int64)) / (2147483647 : Int64) * (2147483647 : Int64)) * (16807 : Int64)) - (((x2.toInt64 * (16807 : Int64)) - (x2.toInt64 * (16807 : Int64)) / (2147483647 : Int64) * (2147483647 : Int64)) * (16807 : Int64)) / (2147483647 : Int64) * (2147483647 : Int64)) - ((((x2.toInt64 * (16807 : Int64)) - (x2.toInt64 * (16807 : Int64)) / (2147483647 : Int64) * (2147483647 : Int64)) * (16807 : Int64)) - (((x2.toInt64 * (16807 : Int64)) - (x2.toInt64 * (16807 : Int64)) / (2147483647 : Int64) * (2147483647 : Int64)) * (16807 : Int64)) / (2147483647 : Int64) * (2147483647 : Int64)) / (2001 : Int64) * (2001 : Int64)) - (1000 : Int64))), (3, .long ((((x2.toInt64 * (16807 : Int64)) - (x2.toInt64 * (16807 : Int64)) / (2147483647 : Int64) * (2147483647 : Int64)) * (16807 : Int64)) - (((x2.toInt64 * (16807 : Int64)) - (x2.toInt64 * (16807 : Int64)) / (2147483647 : Int64) * (2147483647 : Int64)) * (16807 : Int64)) / (2147483647 : Int64) * (2147483647 : Int64))), (5, .long ((((x2.toInt64 * (16807 : Int64)) - (x2.toInt64 * (16807 : Int64)) / (2147483647 : Int64) * (2147483647 : Int64)) - ((x2.toInt64 * (16807 : Int64)) - (x2.toInt64 * (16807 : Int64)) / (2147483647 : Int64) * (2147483647 : Int64)) / (2001 : Int64) * (2001 : Int64)) - (1000 : Int64))), (0, .ref h0), (1, .int x1), (2, .int x2)]) hx hb dX7_drift_66 hl (by decide) rfl (fun ls hl => ?_)
      refine lv_aload_n hx hb dX7_drift_68 rfl (lv_at hl 3 rfl) ?_
      refine lv_lload hx hb dX7_drift_69 (lv_at hl 2 rfl) ?_
      refine lv_lload hx hb dX7_drift_71 (lv_at hl 0 rfl) ?_
      refine rdVi (As := [.long ((((x2.toInt64 * (16807 : Int64)) - (x2.toInt64 * (16807 : Int64)) / (2147483647 : Int64) * (2147483647 : Int64)) - ((x2.toInt64 * (16807 : Int64)) - (x2.toInt64 * (16807 : Int64)) / (2147483647 : Int64) * (2147483647 : Int64)) / (2001 : Int64) * (2001 : Int64)) - (1000 : Int64)), .long ((((((x2.toInt64 * (16807 : Int64)) - (x2.toInt64 * (16807 : Int64)) / (2147483647 : Int64) * (2147483647 : Int64)) * (16807 : Int64)) - (((x2.toInt64 * (16807 : Int64)) - (x2.toInt64 * (16807 : Int64)) / (2147483647 : Int64) * (2147483647 : Int64)) * (16807 : Int64)) / (2147483647 : Int64) * (2147483647 : Int64)) - ((((x2.toInt64 * (16807 : Int64)) - (x2.toInt64 * (16807 : Int64)) / (2147483647 : Int64) * (2147483647 : Int64)) * (16807 : Int64)) - (((x2.toInt64 * (16807 : Int64)) - (x2.toInt64 * (16807 : Int64)) / (2147483647 : Int64) * (2147483647 : Int64)) * (16807 : Int64)) / (2147483647 : Int64) * (2147483647 : Int64)) / (2001 : Int64) * (2001 : Int64)) - (1000 : Int64))]) (rest := []) (b := h0) hC (c_X7_signOf l dC dI h0 h_w h_word h_ahead h_behind h_restM h_restN h_powerM h_powerN h_row c_w v_known v_kept v_size v_high v_behindMany v_ends v_lead v_round v_worthM v_worthN v_w ((((x2.toInt64 * (16807 : Int64)) - (x2.toInt64 * (16807 : Int64)) / (2147483647 : Int64) * (2147483647 : Int64)) - ((x2.toInt64 * (16807 : Int64)) - (x2.toInt64 * (16807 : Int64)) / (2147483647 : Int64) * (2147483647 : Int64)) / (2001 : Int64) * (2001 : Int64)) - (1000 : Int64)) ((((((x2.toInt64 * (16807 : Int64)) - (x2.toInt64 * (16807 : Int64)) / (2147483647 : Int64) * (2147483647 : Int64)) * (16807 : Int64)) - (((x2.toInt64 * (16807 : Int64)) - (x2.toInt64 * (16807 : Int64)) / (2147483647 : Int64) * (2147483647 : Int64)) * (16807 : Int64)) / (2147483647 : Int64) * (2147483647 : Int64)) - ((((x2.toInt64 * (16807 : Int64)) - (x2.toInt64 * (16807 : Int64)) / (2147483647 : Int64) * (2147483647 : Int64)) * (16807 : Int64)) - (((x2.toInt64 * (16807 : Int64)) - (x2.toInt64 * (16807 : Int64)) / (2147483647 : Int64) * (2147483647 : Int64)) * (16807 : Int64)) / (2147483647 : Int64) * (2147483647 : Int64)) / (2001 : Int64) * (2001 : Int64)) - (1000 : Int64)) (F_X7_signOf ((((x2.toInt64 * (16807 : Int64)) - (x2.toInt64 * (16807 : Int64)) / (2147483647 : Int64) * (2147483647 : Int64)) - ((x2.toInt64 * (16807 : Int64)) - (x2.toInt64 * (16807 : Int64)) / (2147483647 : Int64) * (2147483647 : Int64)) / (2001 : Int64) * (2001 : Int64)) - (1000 : Int64)) ((((((x2.toInt64 * (16807 : Int64)) - (x2.toInt64 * (16807 : Int64)) / (2147483647 : Int64) * (2147483647 : Int64)) * (16807 : Int64)) - (((x2.toInt64 * (16807 : Int64)) - (x2.toInt64 * (16807 : Int64)) / (2147483647 : Int64) * (2147483647 : Int64)) * (16807 : Int64)) / (2147483647 : Int64) * (2147483647 : Int64)) - ((((x2.toInt64 * (16807 : Int64)) - (x2.toInt64 * (16807 : Int64)) / (2147483647 : Int64) * (2147483647 : Int64)) * (16807 : Int64)) - (((x2.toInt64 * (16807 : Int64)) - (x2.toInt64 * (16807 : Int64)) / (2147483647 : Int64) * (2147483647 : Int64)) * (16807 : Int64)) / (2147483647 : Int64) * (2147483647 : Int64)) / (2001 : Int64) * (2001 : Int64)) - (1000 : Int64)) v_w) rfl) (cwV 2 hts gX7_drift_X7_signOf rfl rfl rfl (by decide +kernel) ⟨Nat.le_of_ble_eq_true rfl, Nat.le_of_ble_eq_true rfl⟩) hN (hK.sub (tys' := [(c_w, .int)]) [0] rfl) (hP.sub (ws' := (wd_X7_signOf h0 h_w h_word h_ahead h_behind h_restM h_restN h_powerM h_powerN h_row c_w v_known v_kept v_size v_high v_behindMany v_ends v_lead v_round v_worthM v_worthN v_w)) [0, 1] rfl) 0 7 rfl rfl rfl rfl hl.1 (Nat.le_of_ble_eq_true rfl) dX7_drift_73 ⟨Nat.zero_le _, Nat.zero_le _⟩ ?_
      refine lv_if_ge (tgt := 83) hx hb dX7_drift_76 (by decide) (fun g_10 => ?_) (fun g_10 => ?_)
      · replace hF := ite_t g_10 hF
        refine lv_iconst (v := (0 : Int32)) hx hb dX7_drift_83 (by decide) ?_
        refine lv_istore (lv' := [(9, .int (0 : Int32)), (7, .long ((((((x2.toInt64 * (16807 : Int64)) - (x2.toInt64 * (16807 : Int64)) / (2147483647 : Int64) * (2147483647 : Int64)) * (16807 : Int64)) - (((x2.toInt64 * (16807 : Int64)) - (x2.toInt64 * (16807 : Int64)) / (2147483647 : Int64) * (2147483647 : Int64)) * (16807 : Int64)) / (2147483647 : Int64) * (2147483647 : Int64)) - ((((x2.toInt64 * (16807 : Int64)) - (x2.toInt64 * (16807 : Int64)) / (2147483647 : Int64) * (2147483647 : Int64)) * (16807 : Int64)) - (((x2.toInt64 * (16807 : Int64)) - (x2.toInt64 * (16807 : Int64)) / (2147483647 : Int64) * (2147483647 : Int64)) * (16807 : Int64)) / (2147483647 : Int64) * (2147483647 : Int64)) / (2001 : Int64) * (2001 : Int64)) - (1000 : Int64))), (3, .long ((((x2.toInt64 * (16807 : Int64)) - (x2.toInt64 * (16807 : Int64)) / (2147483647 : Int64) * (2147483647 : Int64)) * (16807 : Int64)) - (((x2.toInt64 * (16807 : Int64)) - (x2.toInt64 * (16807 : Int64)) / (2147483647 : Int64) * (2147483647 : Int64)) * (16807 : Int64)) / (2147483647 : Int64) * (2147483647 : Int64))), (5, .long ((((x2.toInt64 * (16807 : Int64)) - (x2.toInt64 * (16807 : Int64)) / (2147483647 : Int64) * (2147483647 : Int64)) - ((x2.toInt64 * (16807 : Int64)) - (x2.toInt64 * (16807 : Int64)) / (2147483647 : Int64) * (2147483647 : Int64)) / (2001 : Int64) * (2001 : Int64)) - (1000 : Int64))), (0, .ref h0), (1, .int x1), (2, .int x2)]) hx hb dX7_drift_84 hl (by decide) rfl (fun ls hl => ?_)
        refine lv_aload_n hx hb dX7_drift_86 rfl (lv_at hl 4 rfl) ?_
        refine lv_iload_n hx hb dX7_drift_87 rfl (lv_at hl 5 rfl) ?_
        refine lv_iload hx hb dX7_drift_88 (lv_at hl 0 rfl) ?_
        refine lv_if_eq (tgt := 99) hx hb dX7_drift_90 (by decide) (fun g_11 => ?_) (fun g_11 => ?_)
        · replace hF := ite_t g_11 hF
          refine lv_lload hx hb dX7_drift_99 (lv_at hl 3 rfl) ?_
          exact k_101 ((((((x2.toInt64 * (16807 : Int64)) - (x2.toInt64 * (16807 : Int64)) / (2147483647 : Int64) * (2147483647 : Int64)) * (16807 : Int64)) - (((x2.toInt64 * (16807 : Int64)) - (x2.toInt64 * (16807 : Int64)) / (2147483647 : Int64) * (2147483647 : Int64)) * (16807 : Int64)) / (2147483647 : Int64) * (2147483647 : Int64)) - ((((x2.toInt64 * (16807 : Int64)) - (x2.toInt64 * (16807 : Int64)) / (2147483647 : Int64) * (2147483647 : Int64)) * (16807 : Int64)) - (((x2.toInt64 * (16807 : Int64)) - (x2.toInt64 * (16807 : Int64)) / (2147483647 : Int64) * (2147483647 : Int64)) * (16807 : Int64)) / (2147483647 : Int64) * (2147483647 : Int64)) / (2001 : Int64) * (2001 : Int64)) - (1000 : Int64)) (0 : Int32) v_known v_w x1 ((((x2.toInt64 * (16807 : Int64)) - (x2.toInt64 * (16807 : Int64)) / (2147483647 : Int64) * (2147483647 : Int64)) - ((x2.toInt64 * (16807 : Int64)) - (x2.toInt64 * (16807 : Int64)) / (2147483647 : Int64) * (2147483647 : Int64)) / (2001 : Int64) * (2001 : Int64)) - (1000 : Int64)) hF H locs hP hS ls (lv_sub hl [4, 5, 1, 0] rfl)
        · replace hF := ite_f g_11 hF
          refine lv_lload hx hb dX7_drift_93 (lv_at hl 3 rfl) ?_
          refine lv_lneg hx hb dX7_drift_95 ?_
          refine lv_goto (tgt := 101) hx hb dX7_drift_96 (by decide) ?_
          exact k_101 ((((((x2.toInt64 * (16807 : Int64)) - (x2.toInt64 * (16807 : Int64)) / (2147483647 : Int64) * (2147483647 : Int64)) * (16807 : Int64)) - (((x2.toInt64 * (16807 : Int64)) - (x2.toInt64 * (16807 : Int64)) / (2147483647 : Int64) * (2147483647 : Int64)) * (16807 : Int64)) / (2147483647 : Int64) * (2147483647 : Int64)) - ((((x2.toInt64 * (16807 : Int64)) - (x2.toInt64 * (16807 : Int64)) / (2147483647 : Int64) * (2147483647 : Int64)) * (16807 : Int64)) - (((x2.toInt64 * (16807 : Int64)) - (x2.toInt64 * (16807 : Int64)) / (2147483647 : Int64) * (2147483647 : Int64)) * (16807 : Int64)) / (2147483647 : Int64) * (2147483647 : Int64)) / (2001 : Int64) * (2001 : Int64)) - (1000 : Int64)) (0 : Int32) v_known v_w x1 (-((((x2.toInt64 * (16807 : Int64)) - (x2.toInt64 * (16807 : Int64)) / (2147483647 : Int64) * (2147483647 : Int64)) - ((x2.toInt64 * (16807 : Int64)) - (x2.toInt64 * (16807 : Int64)) / (2147483647 : Int64) * (2147483647 : Int64)) / (2001 : Int64) * (2001 : Int64)) - (1000 : Int64))) hF H locs hP hS ls (lv_sub hl [4, 5, 1, 0] rfl)
      · replace hF := ite_f g_10 hF
        refine lv_iconst (v := (1 : Int32)) hx hb dX7_drift_79 (by decide) ?_
        refine lv_goto (tgt := 84) hx hb dX7_drift_80 (by decide) ?_
        refine lv_istore (lv' := [(9, .int (1 : Int32)), (7, .long ((((((x2.toInt64 * (16807 : Int64)) - (x2.toInt64 * (16807 : Int64)) / (2147483647 : Int64) * (2147483647 : Int64)) * (16807 : Int64)) - (((x2.toInt64 * (16807 : Int64)) - (x2.toInt64 * (16807 : Int64)) / (2147483647 : Int64) * (2147483647 : Int64)) * (16807 : Int64)) / (2147483647 : Int64) * (2147483647 : Int64)) - ((((x2.toInt64 * (16807 : Int64)) - (x2.toInt64 * (16807 : Int64)) / (2147483647 : Int64) * (2147483647 : Int64)) * (16807 : Int64)) - (((x2.toInt64 * (16807 : Int64)) - (x2.toInt64 * (16807 : Int64)) / (2147483647 : Int64) * (2147483647 : Int64)) * (16807 : Int64)) / (2147483647 : Int64) * (2147483647 : Int64)) / (2001 : Int64) * (2001 : Int64)) - (1000 : Int64))), (3, .long ((((x2.toInt64 * (16807 : Int64)) - (x2.toInt64 * (16807 : Int64)) / (2147483647 : Int64) * (2147483647 : Int64)) * (16807 : Int64)) - (((x2.toInt64 * (16807 : Int64)) - (x2.toInt64 * (16807 : Int64)) / (2147483647 : Int64) * (2147483647 : Int64)) * (16807 : Int64)) / (2147483647 : Int64) * (2147483647 : Int64))), (5, .long ((((x2.toInt64 * (16807 : Int64)) - (x2.toInt64 * (16807 : Int64)) / (2147483647 : Int64) * (2147483647 : Int64)) - ((x2.toInt64 * (16807 : Int64)) - (x2.toInt64 * (16807 : Int64)) / (2147483647 : Int64) * (2147483647 : Int64)) / (2001 : Int64) * (2001 : Int64)) - (1000 : Int64))), (0, .ref h0), (1, .int x1), (2, .int x2)]) hx hb dX7_drift_84 hl (by decide) rfl (fun ls hl => ?_)
        refine lv_aload_n hx hb dX7_drift_86 rfl (lv_at hl 4 rfl) ?_
        refine lv_iload_n hx hb dX7_drift_87 rfl (lv_at hl 5 rfl) ?_
        refine lv_iload hx hb dX7_drift_88 (lv_at hl 0 rfl) ?_
        refine lv_if_eq (tgt := 99) hx hb dX7_drift_90 (by decide) (fun g_12 => ?_) (fun g_12 => ?_)
        · replace hF := ite_t g_12 hF
          refine lv_lload hx hb dX7_drift_99 (lv_at hl 3 rfl) ?_
          exact k_101 ((((((x2.toInt64 * (16807 : Int64)) - (x2.toInt64 * (16807 : Int64)) / (2147483647 : Int64) * (2147483647 : Int64)) * (16807 : Int64)) - (((x2.toInt64 * (16807 : Int64)) - (x2.toInt64 * (16807 : Int64)) / (2147483647 : Int64) * (2147483647 : Int64)) * (16807 : Int64)) / (2147483647 : Int64) * (2147483647 : Int64)) - ((((x2.toInt64 * (16807 : Int64)) - (x2.toInt64 * (16807 : Int64)) / (2147483647 : Int64) * (2147483647 : Int64)) * (16807 : Int64)) - (((x2.toInt64 * (16807 : Int64)) - (x2.toInt64 * (16807 : Int64)) / (2147483647 : Int64) * (2147483647 : Int64)) * (16807 : Int64)) / (2147483647 : Int64) * (2147483647 : Int64)) / (2001 : Int64) * (2001 : Int64)) - (1000 : Int64)) (1 : Int32) v_known v_w x1 ((((x2.toInt64 * (16807 : Int64)) - (x2.toInt64 * (16807 : Int64)) / (2147483647 : Int64) * (2147483647 : Int64)) - ((x2.toInt64 * (16807 : Int64)) - (x2.toInt64 * (16807 : Int64)) / (2147483647 : Int64) * (2147483647 : Int64)) / (2001 : Int64) * (2001 : Int64)) - (1000 : Int64)) hF H locs hP hS ls (lv_sub hl [4, 5, 1, 0] rfl)
        · replace hF := ite_f g_12 hF
          refine lv_lload hx hb dX7_drift_93 (lv_at hl 3 rfl) ?_
          refine lv_lneg hx hb dX7_drift_95 ?_
          refine lv_goto (tgt := 101) hx hb dX7_drift_96 (by decide) ?_
          exact k_101 ((((((x2.toInt64 * (16807 : Int64)) - (x2.toInt64 * (16807 : Int64)) / (2147483647 : Int64) * (2147483647 : Int64)) * (16807 : Int64)) - (((x2.toInt64 * (16807 : Int64)) - (x2.toInt64 * (16807 : Int64)) / (2147483647 : Int64) * (2147483647 : Int64)) * (16807 : Int64)) / (2147483647 : Int64) * (2147483647 : Int64)) - ((((x2.toInt64 * (16807 : Int64)) - (x2.toInt64 * (16807 : Int64)) / (2147483647 : Int64) * (2147483647 : Int64)) * (16807 : Int64)) - (((x2.toInt64 * (16807 : Int64)) - (x2.toInt64 * (16807 : Int64)) / (2147483647 : Int64) * (2147483647 : Int64)) * (16807 : Int64)) / (2147483647 : Int64) * (2147483647 : Int64)) / (2001 : Int64) * (2001 : Int64)) - (1000 : Int64)) (1 : Int32) v_known v_w x1 (-((((x2.toInt64 * (16807 : Int64)) - (x2.toInt64 * (16807 : Int64)) / (2147483647 : Int64) * (2147483647 : Int64)) - ((x2.toInt64 * (16807 : Int64)) - (x2.toInt64 * (16807 : Int64)) / (2147483647 : Int64) * (2147483647 : Int64)) / (2001 : Int64) * (2001 : Int64)) - (1000 : Int64))) hF H locs hP hS ls (lv_sub hl [4, 5, 1, 0] rfl)
    · replace hF := ite_t g_9 hF
      refine lv_ldc (v := (-2000000002 : Int32)) hx hb hown (hts (.constant RX7 156 (-2000000002)) (List.mem_of_getElem? (i := 3) rfl)) dX7_drift_22 ?_
      obtain ⟨rfl, rfl, rfl⟩ := oks3 hF; exact hE _ _ _ _ hP hS dX7_drift_24
  · replace hF := ite_t g_8 hF
    refine lv_ldc (v := (-2000000001 : Int32)) hx hb hown (hts (.constant RX7 163 (-2000000001)) (List.mem_of_getElem? (i := 1) rfl)) dX7_drift_7 ?_
    obtain ⟨rfl, rfl, rfl⟩ := oks3 hF; exact hE _ _ _ _ hP hS dX7_drift_9
set_option maxRecDepth 100000 in
set_option maxHeartbeats 4000000 in
theorem c_X7_drift (l : Launch) (dC : Nat → ClassId) (dI : Nat → Nat → Nat) (sz : Nat) (h0 h_w h_word h_ahead h_behind h_restM h_restN h_powerM h_powerN h_row : Nat) (c_w : ClassId) (v_known : Int32) (v_kept : Int32) (v_size : Int32) (v_high : Int32) (v_behindMany : Int32) (v_ends : Int32) (v_lead : Int32) (v_round : Int32) (v_worthM : Int64) (v_worthN : Int64) (v_w : (Nat → Int32)) (x1 : Int32) (x2 : Int32) (o : Int32 × Int32 × (Nat → Int32)) (hF : F_X7_drift x1 x2 v_known v_w = some o) : Met l yX7_drift wsX7_drift rm_X7_drift (va_Pc [.ref h0, .int x1, .int x2] (PcW dC dI sz (wd_X7_drift h0 h_w h_word h_ahead h_behind h_restM h_restN h_powerM h_powerN h_row c_w v_known v_kept v_size v_high v_behindMany v_ends v_lead v_round v_worthM v_worthN v_w) [(c_w, .int)])) (va_Qi (fun (r : Int32) (_ : Unit) => r = o.1) (fun _ t => va_P (dC, dI) vwCl (wd_X7_drift h0 h_w h_word h_ahead h_behind h_restM h_restN h_powerM h_powerN h_row c_w o.2.1 v_kept v_size v_high v_behindMany v_ends v_lead v_round v_worthM v_worthN o.2.2) t.heap) (va_A (wd_X7_drift h0 h_w h_word h_ahead h_behind h_restM h_restN h_powerM h_powerN h_row c_w v_known v_kept v_size v_high v_behindMany v_ends v_lead v_round v_worthM v_worthN v_w) sz)) 0 0 (va_A (wd_X7_drift h0 h_w h_word h_ahead h_behind h_restM h_restN h_powerM h_powerN h_row c_w v_known v_kept v_size v_high v_behindMany v_ends v_lead v_round v_worthM v_worthN v_w) sz) := by
  refine Met.ofW (cc := cX7_drift) (maxL := 11) (ret := (some .int)) (by decide) rfl ?_
  intro p e s m args below meth c s₁ B hml hv
  obtain ⟨rfl, hsz, hP, hK, hD0, hN⟩ := hv
  subst hsz
  have hl := lv_entry ([.ref h0, .int x1, .int x2]) (n := 11) (Nat.le_of_ble_eq_true rfl)
  rw [lg_entry_eq]
  generalize (lg_sl ([.ref h0, .int x1, .int x2]) ++ List.replicate (11 - (lg_sl ([.ref h0, .int x1, .int x2])).length) Slot.unset).toArray = ls at hl ⊢
  exact b_X7_drift h0 h_w h_word h_ahead h_behind h_restM h_restN h_powerM h_powerN h_row c_w v_known v_kept v_size v_high v_behindMany v_ends v_lead v_round v_worthM v_worthN v_w x1 x2 o.1 o.2.1 o.2.2 hF ⟨B.exec, B.bytes, hml, findClass_of_methodNamed B.named, atoms_spec (ws := wsX7_drift) B.pre⟩ hN hK hP (fun q h => Or.inr h) (hD0.self (sz := s.heap.size)) va_S.rf (fun H locs ls pc hP hS hd => W.iret B.exec B.bytes B.returns (fun t ht hW => ⟨⟨_, (), rfl, rfl, by show va_P (dC, dI) vwCl _ t.heap; rw [ht]; exact hP⟩, hS.F ht⟩) hS.2.2 hd B.notSynchronized) hl
theorem inn_X7_undo_X7 : ∀ w ∈ wsX70, w ∈ wsX7_undo := fun _ h => List.mem_cons_of_mem _ (List.mem_append_right _ h)
abbrev wd_X7_undo (h0 h_w h_word h_ahead h_behind h_restM h_restN h_powerM h_powerN h_row : Nat) (c_w : ClassId) (v_known : Int32) (v_kept : Int32) (v_size : Int32) (v_high : Int32) (v_behindMany : Int32) (v_ends : Int32) (v_lead : Int32) (v_round : Int32) (v_worthM : Int64) (v_worthN : Int64) (v_w : (Nat → Int32)) : va_W := [(h0, .inr (7, [.ref h_w, .int v_known, .int v_kept, .ref h_word, .int v_size, .ref h_ahead, .int v_high, .ref h_behind, .int v_behindMany, .ref h_restM, .ref h_restN, .ref h_powerM, .ref h_powerN, .int v_ends, .int v_lead, .int v_round, .ref h_row, .long v_worthM, .long v_worthN])), (h_w, .inl (c_w, 110, .inl v_w))]
abbrev rm_X7_undo : Room := { frames := 1, cells := 0, slots := 0, locals := 23 }
def F_X7_undo_38 (v_known : Int32) (v_w : (Nat → Int32)) : Option (Int32 × Int32 × (Nat → Int32)) := (some ((v_known - (1 : Int32)), (v_known - (1 : Int32)), v_w))
def F_X7_undo_12 : Nat → Int32 → Int32 → (Nat → Int32) → Option (Int32 × Int32 × (Nat → Int32))
  | 0, _, _, _ => none
  | fu + 1, x1, v_known, v_w => (if (8 : Int32) ≤ x1 then (F_X7_undo_38   v_known v_w) else ((F_X7_copyRow ((10 : Int32) * (x1 + (1 : Int32))) ((10 : Int32) * x1) v_w).bind fun o_2 => (F_X7_undo_12  fu (x1 + (1 : Int32)) v_known o_2)))
def F_X7_undo (v_known : Int32) (v_w : (Nat → Int32)) : Option (Int32 × Int32 × (Nat → Int32)) := (if v_known = 0 then (some ((-2000000003 : Int32), v_known, v_w)) else (F_X7_undo_12   128 (0 : Int32) v_known v_w))
set_option maxRecDepth 100000 in
set_option maxHeartbeats 4000000 in
theorem b_X7_undo {p : Program} {l : Launch} {e : Env} {s : State} {m : MethodId} {args : Array Value} {below : List Frame} {meth : Method} {c : Code} {Q : State → Prop} {dC : Nat → ClassId} {dI : Nat → Nat → Nat} {H : Heap} {locs : List Loc} {ls : Array Slot} {A : Nat → Prop} (h0 h_w h_word h_ahead h_behind h_restM h_restN h_powerM h_powerN h_row : Nat) (c_w : ClassId) (v_known : Int32) (v_kept : Int32) (v_size : Int32) (v_high : Int32) (v_behindMany : Int32) (v_ends : Int32) (v_lead : Int32) (v_round : Int32) (v_worthM : Int64) (v_worthN : Int64) (v_w : (Nat → Int32)) (ou0 : Int32) (ou1 : Int32) (ou2 : (Nat → Int32)) (hF : F_X7_undo v_known v_w = some (ou0, ou1, ou2)) (hC : CallFix p m c cX7_undo 2 s args wsX7_undo RX7) (hN : NW s) (hK : va_K (dC, dI) vwCl [(c_w, .int)] s) (hP : va_P (dC, dI) vwCl (wd_X7_undo h0 h_w h_word h_ahead h_behind h_restM h_restN h_powerM h_powerN h_row c_w v_known v_kept v_size v_high v_behindMany v_ends v_lead v_round v_worthM v_worthN v_w) H) (hA : ∀ q, s.heap.size ≤ q → A q) (hD : va_D A (wd_X7_undo h0 h_w h_word h_ahead h_behind h_restM h_restN h_powerM h_powerN h_row c_w v_known v_kept v_size v_high v_behindMany v_ends v_lead v_round v_worthM v_worthN v_w)) (hS : va_S A s.heap H locs) (hE : ∀ (H : Heap) (locs : List Loc) (ls : Array Slot) (pc : Nat), va_P (dC, dI) vwCl (wd_X7_undo h0 h_w h_word h_ahead h_behind h_restM h_restN h_powerM h_powerN h_row c_w ou1 v_kept v_size v_high v_behindMany v_ends v_lead v_round v_worthM v_worthN ou2) H → va_S A s.heap H locs → decode cX7_undo pc = .ok (.ireturn, 1) → W p l e rm_X7_undo s m args below meth c H locs 0 0 Q (F0 m pc ls [.int ou0])) (hl : lv_has ls 2 [(0, .ref h0)]) : W p l e rm_X7_undo s m args below meth c H locs 0 0 Q (F0 m 0 ls []) := by
  obtain ⟨hx, hb, hml, hown, hts⟩ := id hC
  have hD0 := hD
  unfold F_X7_undo at hF
  have k_12 : ∀ (fu_12 : Nat) (x1 : Int32) (v_known : Int32) (v_w : (Nat → Int32)), F_X7_undo_12   fu_12 x1 v_known v_w = some (ou0, ou1, ou2) → ∀ (H : Heap) (locs : List Loc), va_P (dC, dI) vwCl (wd_X7_undo h0 h_w h_word h_ahead h_behind h_restM h_restN h_powerM h_powerN h_row c_w v_known v_kept v_size v_high v_behindMany v_ends v_lead v_round v_worthM v_worthN v_w) H → va_S A s.heap H locs → ∀ ls : Array Slot, lv_has ls 2 [(0, .ref h0), (1, .int x1)] → W p l e rm_X7_undo s m args below meth c H locs 0 0 Q (F0 m 12 ls []) := by
    intro fu_12
    induction fu_12 with
    | zero => intro x1 v_known v_w hF; rw [F_X7_undo_12] at hF; cases hF
    | succ fu_12 ih =>
      intro x1 v_known v_w hF H locs hP hS ls hl
      rw [F_X7_undo_12] at hF
      have ih_12 := ih
      have hD : va_D A (wd_X7_undo h0 h_w h_word h_ahead h_behind h_restM h_restN h_powerM h_powerN h_row c_w v_known v_kept v_size v_high v_behindMany v_ends v_lead v_round v_worthM v_worthN v_w) := hD0.re rfl
      have k_38 : ∀ (v_known : Int32) (v_w : (Nat → Int32)), F_X7_undo_38   v_known v_w = some (ou0, ou1, ou2) → ∀ (H : Heap) (locs : List Loc), va_P (dC, dI) vwCl (wd_X7_undo h0 h_w h_word h_ahead h_behind h_restM h_restN h_powerM h_powerN h_row c_w v_known v_kept v_size v_high v_behindMany v_ends v_lead v_round v_worthM v_worthN v_w) H → va_S A s.heap H locs → ∀ ls : Array Slot, lv_has ls 2 [(0, .ref h0)] → W p l e rm_X7_undo s m args below meth c H locs 0 0 Q (F0 m 38 ls []) := by
        intro v_known v_w hF H locs hP hS ls hl
        rw [F_X7_undo_38] at hF
        have hD : va_D A (wd_X7_undo h0 h_w h_word h_ahead h_behind h_restM h_restN h_powerM h_powerN h_row c_w v_known v_kept v_size v_high v_behindMany v_ends v_lead v_round v_worthM v_worthN v_w) := hD0.re rfl
        refine lv_aload_n hx hb dX7_undo_38 rfl (lv_at hl 0 rfl) ?_
        refine lv_dup hx hb dX7_undo_39 rfl ?_
        refine va_get (D := (dC, dI)) (ci := 7) (v := .int v_known) (C := RX7) (T := TX7) (N := 19) hx hb hts inn_X7_undo_X7 hown hK hP 0 rfl rfl 1 (by decide) (hts (.fieldLink RX7 42 "RingBasesModel" "known" "I") (List.mem_of_getElem? (i := 1) rfl)) (fun _ h9 => h9) rfl dX7_undo_40 ?_
        refine lv_iconst (v := (1 : Int32)) hx hb dX7_undo_43 (by decide) ?_
        refine lv_isub hx hb dX7_undo_44 ?_
        refine va_put (D := (dC, dI)) (ty := .int) (ci := 7) (v := .int (v_known - (1 : Int32))) (C := RX7) (T := TX7) (N := 19) hx hb hts inn_X7_undo_X7 tyX7 tyX7_ok nmX7 hown hK hP hD hS 0 rfl rfl 1 (by decide) (hts (.fieldLink RX7 42 "RingBasesModel" "known" "I") (List.mem_of_getElem? (i := 1) rfl)) (fun _ h9 => h9) rfl (by decide +kernel) rfl rfl (Nat.le_of_ble_eq_true rfl) dX7_undo_45 (fun H locs hP hD hS => ?_)
        have hP : va_P (dC, dI) vwCl (wd_X7_undo h0 h_w h_word h_ahead h_behind h_restM h_restN h_powerM h_powerN h_row c_w (v_known - (1 : Int32)) v_kept v_size v_high v_behindMany v_ends v_lead v_round v_worthM v_worthN v_w) H := hP
        have hD : va_D A (wd_X7_undo h0 h_w h_word h_ahead h_behind h_restM h_restN h_powerM h_powerN h_row c_w (v_known - (1 : Int32)) v_kept v_size v_high v_behindMany v_ends v_lead v_round v_worthM v_worthN v_w) := hD
        refine lv_aload_n hx hb dX7_undo_48 rfl (lv_at hl 0 rfl) ?_
        refine va_get (D := (dC, dI)) (ci := 7) (v := .int (v_known - (1 : Int32))) (C := RX7) (T := TX7) (N := 19) hx hb hts inn_X7_undo_X7 hown hK hP 0 rfl rfl 1 (by decide) (hts (.fieldLink RX7 42 "RingBasesModel" "known" "I") (List.mem_of_getElem? (i := 1) rfl)) (fun _ h9 => h9) rfl dX7_undo_49 ?_
        obtain ⟨rfl, rfl, rfl⟩ := oks3 hF; exact hE _ _ _ _ hP hS dX7_undo_52
      refine lv_iload_n hx hb dX7_undo_12 rfl (lv_at hl 1 rfl) ?_
      refine lv_bipush (v := (8 : Int32)) hx hb dX7_undo_13 (by decide) ?_
      refine lv_icmp_ge (tgt := 38) hx hb dX7_undo_15 (by decide) (fun g_1 => ?_) (fun g_1 => ?_)
      · replace hF := ite_t g_1 hF
        exact k_38 v_known v_w hF H locs hP hS ls (lv_sub hl [0] rfl)
      · replace hF := ite_f g_1 hF
        refine lv_aload_n hx hb dX7_undo_18 rfl (lv_at hl 0 rfl) ?_
        refine lv_bipush (v := (10 : Int32)) hx hb dX7_undo_19 (by decide) ?_
        refine lv_iload_n hx hb dX7_undo_21 rfl (lv_at hl 1 rfl) ?_
        refine lv_iconst (v := (1 : Int32)) hx hb dX7_undo_22 (by decide) ?_
        refine lv_iadd hx hb dX7_undo_23 ?_
        refine lv_imul hx hb dX7_undo_24 ?_
        refine lv_bipush (v := (10 : Int32)) hx hb dX7_undo_25 (by decide) ?_
        refine lv_iload_n hx hb dX7_undo_27 rfl (lv_at hl 1 rfl) ?_
        refine lv_imul hx hb dX7_undo_28 ?_
        obtain ⟨o_2, hc_o_2, hF⟩ := bd_s hF
        refine wrVv (wc' := (wd_X7_copyRow h0 h_w h_word h_ahead h_behind h_restM h_restN h_powerM h_powerN h_row c_w v_known v_kept v_size v_high v_behindMany v_ends v_lead v_round v_worthM v_worthN o_2)) (As := [.int ((10 : Int32) * (x1 + (1 : Int32))), .int ((10 : Int32) * x1)]) (rest := []) (b := h0) hC (c_X7_copyRow l dC dI H.size h0 h_w h_word h_ahead h_behind h_restM h_restN h_powerM h_powerN h_row c_w v_known v_kept v_size v_high v_behindMany v_ends v_lead v_round v_worthM v_worthN v_w ((10 : Int32) * (x1 + (1 : Int32))) ((10 : Int32) * x1) o_2 hc_o_2) (cwV 2 hts gX7_undo_X7_copyRow rfl rfl rfl (by decide +kernel) ⟨Nat.le_of_ble_eq_true rfl, Nat.le_of_ble_eq_true rfl⟩) hN (hK.sub (tys' := [(c_w, .int)]) [0] rfl) hP hD hS hA [0, 1] rfl rfl rfl rfl 0 7 rfl rfl rfl rfl hl.1 (Nat.le_of_ble_eq_true rfl) dX7_undo_29 ⟨Nat.zero_le _, Nat.zero_le _⟩ (fun H locs hP hS => ?_)
        have hP : va_P (dC, dI) vwCl (wd_X7_undo h0 h_w h_word h_ahead h_behind h_restM h_restN h_powerM h_powerN h_row c_w v_known v_kept v_size v_high v_behindMany v_ends v_lead v_round v_worthM v_worthN o_2) H := hP
        have hD : va_D A (wd_X7_undo h0 h_w h_word h_ahead h_behind h_restM h_restN h_powerM h_powerN h_row c_w v_known v_kept v_size v_high v_behindMany v_ends v_lead v_round v_worthM v_worthN o_2) := va_D.re hD rfl
        refine lv_iinc (v := (x1 + (1 : Int32))) (lv' := [(1, .int (x1 + (1 : Int32))), (0, .ref h0)]) hx hb dX7_undo_32 hl (k := 1) rfl rfl (by decide) rfl (fun ls hl => ?_)
        refine lv_goto (tgt := 12) hx hb dX7_undo_35 (by decide) ?_
        exact ih (x1 + (1 : Int32)) v_known o_2 hF H locs hP hS ls (lv_sub hl [1, 0] rfl)
  refine lv_aload_n hx hb dX7_undo_0 rfl (lv_at hl 0 rfl) ?_
  refine va_get (D := (dC, dI)) (ci := 7) (v := .int v_known) (C := RX7) (T := TX7) (N := 19) hx hb hts inn_X7_undo_X7 hown hK hP 0 rfl rfl 1 (by decide) (hts (.fieldLink RX7 42 "RingBasesModel" "known" "I") (List.mem_of_getElem? (i := 1) rfl)) (fun _ h9 => h9) rfl dX7_undo_1 ?_
  refine lv_if_ne (tgt := 10) hx hb dX7_undo_4 (by decide) (fun g_3 => ?_) (fun g_3 => ?_)
  · replace hF := ite_f g_3 hF
    refine lv_iconst (v := (0 : Int32)) hx hb dX7_undo_10 (by decide) ?_
    refine lv_istore_n (lv' := [(1, .int (0 : Int32)), (0, .ref h0)]) hx hb dX7_undo_11 rfl hl (by decide) rfl (fun ls hl => ?_)
    exact k_12 _ (0 : Int32) v_known v_w hF H locs hP hS ls (lv_sub hl [1, 0] rfl)
  · replace hF := ite_t g_3 hF
    refine lv_ldc (v := (-2000000003 : Int32)) hx hb hown (hts (.constant RX7 140 (-2000000003)) (List.mem_of_getElem? (i := 2) rfl)) dX7_undo_7 ?_
    obtain ⟨rfl, rfl, rfl⟩ := oks3 hF; exact hE _ _ _ _ hP hS dX7_undo_9
set_option maxRecDepth 100000 in
set_option maxHeartbeats 4000000 in
theorem c_X7_undo (l : Launch) (dC : Nat → ClassId) (dI : Nat → Nat → Nat) (sz : Nat) (h0 h_w h_word h_ahead h_behind h_restM h_restN h_powerM h_powerN h_row : Nat) (c_w : ClassId) (v_known : Int32) (v_kept : Int32) (v_size : Int32) (v_high : Int32) (v_behindMany : Int32) (v_ends : Int32) (v_lead : Int32) (v_round : Int32) (v_worthM : Int64) (v_worthN : Int64) (v_w : (Nat → Int32)) (o : Int32 × Int32 × (Nat → Int32)) (hF : F_X7_undo v_known v_w = some o) : Met l yX7_undo wsX7_undo rm_X7_undo (va_Pc [.ref h0] (PcW dC dI sz (wd_X7_undo h0 h_w h_word h_ahead h_behind h_restM h_restN h_powerM h_powerN h_row c_w v_known v_kept v_size v_high v_behindMany v_ends v_lead v_round v_worthM v_worthN v_w) [(c_w, .int)])) (va_Qi (fun (r : Int32) (_ : Unit) => r = o.1) (fun _ t => va_P (dC, dI) vwCl (wd_X7_undo h0 h_w h_word h_ahead h_behind h_restM h_restN h_powerM h_powerN h_row c_w o.2.1 v_kept v_size v_high v_behindMany v_ends v_lead v_round v_worthM v_worthN o.2.2) t.heap) (va_A (wd_X7_undo h0 h_w h_word h_ahead h_behind h_restM h_restN h_powerM h_powerN h_row c_w v_known v_kept v_size v_high v_behindMany v_ends v_lead v_round v_worthM v_worthN v_w) sz)) 0 0 (va_A (wd_X7_undo h0 h_w h_word h_ahead h_behind h_restM h_restN h_powerM h_powerN h_row c_w v_known v_kept v_size v_high v_behindMany v_ends v_lead v_round v_worthM v_worthN v_w) sz) := by
  refine Met.ofW (cc := cX7_undo) (maxL := 2) (ret := (some .int)) (by decide) rfl ?_
  intro p e s m args below meth c s₁ B hml hv
  obtain ⟨rfl, hsz, hP, hK, hD0, hN⟩ := hv
  subst hsz
  have hl := lv_entry ([.ref h0]) (n := 2) (Nat.le_of_ble_eq_true rfl)
  rw [lg_entry_eq]
  generalize (lg_sl ([.ref h0]) ++ List.replicate (2 - (lg_sl ([.ref h0])).length) Slot.unset).toArray = ls at hl ⊢
  exact b_X7_undo h0 h_w h_word h_ahead h_behind h_restM h_restN h_powerM h_powerN h_row c_w v_known v_kept v_size v_high v_behindMany v_ends v_lead v_round v_worthM v_worthN v_w o.1 o.2.1 o.2.2 hF ⟨B.exec, B.bytes, hml, findClass_of_methodNamed B.named, atoms_spec (ws := wsX7_undo) B.pre⟩ hN hK hP (fun q h => Or.inr h) (hD0.self (sz := s.heap.size)) va_S.rf (fun H locs ls pc hP hS hd => W.iret B.exec B.bytes B.returns (fun t ht hW => ⟨⟨_, (), rfl, rfl, by show va_P (dC, dI) vwCl _ t.heap; rw [ht]; exact hP⟩, hS.F ht⟩) hS.2.2 hd B.notSynchronized) hl
abbrev wd_X7_well (h0 h_w h_word h_ahead h_behind h_restM h_restN h_powerM h_powerN h_row : Nat) (c_w c_word c_row : ClassId) (v_known : Int32) (v_kept : Int32) (v_size : Int32) (v_high : Int32) (v_behindMany : Int32) (v_ends : Int32) (v_lead : Int32) (v_round : Int32) (v_worthM : Int64) (v_worthN : Int64) (v_w : (Nat → Int32)) (v_word : (Nat → Int32)) (v_row : (Nat → Int32)) : va_W := [(h0, .inr (7, [.ref h_w, .int v_known, .int v_kept, .ref h_word, .int v_size, .ref h_ahead, .int v_high, .ref h_behind, .int v_behindMany, .ref h_restM, .ref h_restN, .ref h_powerM, .ref h_powerN, .int v_ends, .int v_lead, .int v_round, .ref h_row, .long v_worthM, .long v_worthN])), (h_w, .inl (c_w, 110, .inl v_w)), (h_word, .inl (c_word, 60, .inl v_word)), (h_row, .inl (c_row, 60, .inl v_row))]
abbrev rm_X7_well : Room := { frames := 3, cells := 0, slots := 0, locals := 68 }
def F_X7_well (v_size : Int32) (v_w : (Nat → Int32)) (v_word : (Nat → Int32)) (v_row : (Nat → Int32)) : Option (Int32 × (Nat → Int32)) := ((F_X7_layRow v_size v_word v_row).bind fun o_1 => ((F_X7_figures v_size v_word).bind fun o_2 => ((F_X7_isWell o_2 v_w o_1).bind fun o_3 => (if o_3 = 0 then (some ((0 : Int32), o_1)) else (some ((1 : Int32), o_1))))))
set_option maxRecDepth 100000 in
set_option maxHeartbeats 4000000 in
theorem b_X7_well {p : Program} {l : Launch} {e : Env} {s : State} {m : MethodId} {args : Array Value} {below : List Frame} {meth : Method} {c : Code} {Q : State → Prop} {dC : Nat → ClassId} {dI : Nat → Nat → Nat} {H : Heap} {locs : List Loc} {ls : Array Slot} {A : Nat → Prop} (h0 h_w h_word h_ahead h_behind h_restM h_restN h_powerM h_powerN h_row : Nat) (c_w c_word c_row : ClassId) (v_known : Int32) (v_kept : Int32) (v_size : Int32) (v_high : Int32) (v_behindMany : Int32) (v_ends : Int32) (v_lead : Int32) (v_round : Int32) (v_worthM : Int64) (v_worthN : Int64) (v_w : (Nat → Int32)) (v_word : (Nat → Int32)) (v_row : (Nat → Int32)) (ou0 : Int32) (ou1 : (Nat → Int32)) (hF : F_X7_well v_size v_w v_word v_row = some (ou0, ou1)) (hC : CallFix p m c cX7_well 1 s args wsX7_well RX7) (hN : NW s) (hK : va_K (dC, dI) vwCl [(c_w, .int), (c_word, .int), (c_row, .int)] s) (hP : va_P (dC, dI) vwCl (wd_X7_well h0 h_w h_word h_ahead h_behind h_restM h_restN h_powerM h_powerN h_row c_w c_word c_row v_known v_kept v_size v_high v_behindMany v_ends v_lead v_round v_worthM v_worthN v_w v_word v_row) H) (hA : ∀ q, s.heap.size ≤ q → A q) (hD : va_D A (wd_X7_well h0 h_w h_word h_ahead h_behind h_restM h_restN h_powerM h_powerN h_row c_w c_word c_row v_known v_kept v_size v_high v_behindMany v_ends v_lead v_round v_worthM v_worthN v_w v_word v_row)) (hS : va_S A s.heap H locs) (hE : ∀ (H : Heap) (locs : List Loc) (ls : Array Slot) (pc : Nat), va_P (dC, dI) vwCl (wd_X7_well h0 h_w h_word h_ahead h_behind h_restM h_restN h_powerM h_powerN h_row c_w c_word c_row v_known v_kept v_size v_high v_behindMany v_ends v_lead v_round v_worthM v_worthN v_w v_word ou1) H → va_S A s.heap H locs → decode cX7_well pc = .ok (.ireturn, 1) → W p l e rm_X7_well s m args below meth c H locs 0 0 Q (F0 m pc ls [.int ou0])) (hl : lv_has ls 1 [(0, .ref h0)]) : W p l e rm_X7_well s m args below meth c H locs 0 0 Q (F0 m 0 ls []) := by
  obtain ⟨hx, hb, hml, hown, hts⟩ := id hC
  have hD0 := hD
  unfold F_X7_well at hF
  refine lv_aload_n hx hb dX7_well_0 rfl (lv_at hl 0 rfl) ?_
  obtain ⟨o_1, hc_o_1, hF⟩ := bd_s hF
  refine wrVv (wc' := (wd_X7_layRow h0 h_w h_word h_ahead h_behind h_restM h_restN h_powerM h_powerN h_row c_word c_row v_known v_kept v_size v_high v_behindMany v_ends v_lead v_round v_worthM v_worthN v_word o_1)) (As := []) (rest := []) (b := h0) hC (c_X7_layRow l dC dI H.size h0 h_w h_word h_ahead h_behind h_restM h_restN h_powerM h_powerN h_row c_word c_row v_known v_kept v_size v_high v_behindMany v_ends v_lead v_round v_worthM v_worthN v_word v_row  o_1 hc_o_1) (cwV 0 hts gX7_well_X7_layRow rfl rfl rfl (by decide +kernel) ⟨Nat.le_of_ble_eq_true rfl, Nat.le_of_ble_eq_true rfl⟩) hN (hK.sub (tys' := [(c_word, .int), (c_row, .int)]) [1, 2] rfl) hP hD hS hA [0, 2, 3] rfl rfl rfl rfl 0 7 rfl rfl rfl rfl hl.1 (Nat.le_of_ble_eq_true rfl) dX7_well_1 ⟨Nat.zero_le _, Nat.zero_le _⟩ (fun H locs hP hS => ?_)
  have hP : va_P (dC, dI) vwCl (wd_X7_well h0 h_w h_word h_ahead h_behind h_restM h_restN h_powerM h_powerN h_row c_w c_word c_row v_known v_kept v_size v_high v_behindMany v_ends v_lead v_round v_worthM v_worthN v_w v_word o_1) H := hP
  have hD : va_D A (wd_X7_well h0 h_w h_word h_ahead h_behind h_restM h_restN h_powerM h_powerN h_row c_w c_word c_row v_known v_kept v_size v_high v_behindMany v_ends v_lead v_round v_worthM v_worthN v_w v_word o_1) := va_D.re hD rfl
  refine lv_aload_n hx hb dX7_well_4 rfl (lv_at hl 0 rfl) ?_
  refine lv_aload_n hx hb dX7_well_5 rfl (lv_at hl 0 rfl) ?_
  obtain ⟨o_2, hc_o_2, hF⟩ := bd_s hF
  refine rdVi (As := []) (rest := [.ref h0]) (b := h0) hC (c_X7_figures l dC dI h0 h_w h_word h_ahead h_behind h_restM h_restN h_powerM h_powerN h_row c_word v_known v_kept v_size v_high v_behindMany v_ends v_lead v_round v_worthM v_worthN v_word  o_2 hc_o_2) (cwV 0 hts gX7_well_X7_figures rfl rfl rfl (by decide +kernel) ⟨Nat.le_of_ble_eq_true rfl, Nat.le_of_ble_eq_true rfl⟩) hN (hK.sub (tys' := [(c_word, .int)]) [1] rfl) (hP.sub (ws' := (wd_X7_figures h0 h_w h_word h_ahead h_behind h_restM h_restN h_powerM h_powerN h_row c_word v_known v_kept v_size v_high v_behindMany v_ends v_lead v_round v_worthM v_worthN v_word)) [0, 2] rfl) 0 7 rfl rfl rfl rfl hl.1 (Nat.le_of_ble_eq_true rfl) dX7_well_6 ⟨Nat.zero_le _, Nat.zero_le _⟩ ?_
  obtain ⟨o_3, hc_o_3, hF⟩ := bd_s hF
  refine rdVi (As := [.int o_2]) (rest := []) (b := h0) hC (c_X7_isWell l dC dI h0 h_w h_word h_ahead h_behind h_restM h_restN h_powerM h_powerN h_row c_w c_row v_known v_kept v_size v_high v_behindMany v_ends v_lead v_round v_worthM v_worthN v_w o_1 o_2 o_3 hc_o_3) (cwV 1 hts gX7_well_X7_isWell rfl rfl rfl (by decide +kernel) ⟨Nat.le_of_ble_eq_true rfl, Nat.le_of_ble_eq_true rfl⟩) hN (hK.sub (tys' := [(c_w, .int), (c_row, .int)]) [0, 2] rfl) (hP.sub (ws' := (wd_X7_isWell h0 h_w h_word h_ahead h_behind h_restM h_restN h_powerM h_powerN h_row c_w c_row v_known v_kept v_size v_high v_behindMany v_ends v_lead v_round v_worthM v_worthN v_w o_1)) [0, 1, 3] rfl) 0 7 rfl rfl rfl rfl hl.1 (Nat.le_of_ble_eq_true rfl) dX7_well_9 ⟨Nat.zero_le _, Nat.zero_le _⟩ ?_
  refine lv_if_eq (tgt := 19) hx hb dX7_well_12 (by decide) (fun g_4 => ?_) (fun g_4 => ?_)
  · replace hF := ite_t g_4 hF
    refine lv_iconst (v := (0 : Int32)) hx hb dX7_well_19 (by decide) ?_
    obtain ⟨rfl, rfl⟩ := oks2 hF; exact hE _ _ _ _ hP hS dX7_well_20
  · replace hF := ite_f g_4 hF
    refine lv_iconst (v := (1 : Int32)) hx hb dX7_well_15 (by decide) ?_
    refine lv_goto (tgt := 20) hx hb dX7_well_16 (by decide) ?_
    obtain ⟨rfl, rfl⟩ := oks2 hF; exact hE _ _ _ _ hP hS dX7_well_20
set_option maxRecDepth 100000 in
set_option maxHeartbeats 4000000 in
theorem c_X7_well (l : Launch) (dC : Nat → ClassId) (dI : Nat → Nat → Nat) (sz : Nat) (h0 h_w h_word h_ahead h_behind h_restM h_restN h_powerM h_powerN h_row : Nat) (c_w c_word c_row : ClassId) (v_known : Int32) (v_kept : Int32) (v_size : Int32) (v_high : Int32) (v_behindMany : Int32) (v_ends : Int32) (v_lead : Int32) (v_round : Int32) (v_worthM : Int64) (v_worthN : Int64) (v_w : (Nat → Int32)) (v_word : (Nat → Int32)) (v_row : (Nat → Int32)) (o : Int32 × (Nat → Int32)) (hF : F_X7_well v_size v_w v_word v_row = some o) : Met l yX7_well wsX7_well rm_X7_well (va_Pc [.ref h0] (PcW dC dI sz (wd_X7_well h0 h_w h_word h_ahead h_behind h_restM h_restN h_powerM h_powerN h_row c_w c_word c_row v_known v_kept v_size v_high v_behindMany v_ends v_lead v_round v_worthM v_worthN v_w v_word v_row) [(c_w, .int), (c_word, .int), (c_row, .int)])) (va_Qi (fun (r : Int32) (_ : Unit) => r = o.1) (fun _ t => va_P (dC, dI) vwCl (wd_X7_well h0 h_w h_word h_ahead h_behind h_restM h_restN h_powerM h_powerN h_row c_w c_word c_row v_known v_kept v_size v_high v_behindMany v_ends v_lead v_round v_worthM v_worthN v_w v_word o.2) t.heap) (va_A (wd_X7_well h0 h_w h_word h_ahead h_behind h_restM h_restN h_powerM h_powerN h_row c_w c_word c_row v_known v_kept v_size v_high v_behindMany v_ends v_lead v_round v_worthM v_worthN v_w v_word v_row) sz)) 0 0 (va_A (wd_X7_well h0 h_w h_word h_ahead h_behind h_restM h_restN h_powerM h_powerN h_row c_w c_word c_row v_known v_kept v_size v_high v_behindMany v_ends v_lead v_round v_worthM v_worthN v_w v_word v_row) sz) := by
  refine Met.ofW (cc := cX7_well) (maxL := 1) (ret := (some .int)) (by decide) rfl ?_
  intro p e s m args below meth c s₁ B hml hv
  obtain ⟨rfl, hsz, hP, hK, hD0, hN⟩ := hv
  subst hsz
  have hl := lv_entry ([.ref h0]) (n := 1) (Nat.le_of_ble_eq_true rfl)
  rw [lg_entry_eq]
  generalize (lg_sl ([.ref h0]) ++ List.replicate (1 - (lg_sl ([.ref h0])).length) Slot.unset).toArray = ls at hl ⊢
  exact b_X7_well h0 h_w h_word h_ahead h_behind h_restM h_restN h_powerM h_powerN h_row c_w c_word c_row v_known v_kept v_size v_high v_behindMany v_ends v_lead v_round v_worthM v_worthN v_w v_word v_row o.1 o.2 hF ⟨B.exec, B.bytes, hml, findClass_of_methodNamed B.named, atoms_spec (ws := wsX7_well) B.pre⟩ hN hK hP (fun q h => Or.inr h) (hD0.self (sz := s.heap.size)) va_S.rf (fun H locs ls pc hP hS hd => W.iret B.exec B.bytes B.returns (fun t ht hW => ⟨⟨_, (), rfl, rfl, by show va_P (dC, dI) vwCl _ t.heap; rw [ht]; exact hP⟩, hS.F ht⟩) hS.2.2 hd B.notSynchronized) hl
theorem inn_X7_worth_X7 : ∀ w ∈ wsX70, w ∈ wsX7_worth := fun _ h => List.mem_cons_of_mem _ (List.mem_append_right _ h)
abbrev wd_X7_worth (h0 h_w h_word h_ahead h_behind h_restM h_restN h_powerM h_powerN h_row : Nat) (c_w c_word c_row : ClassId) (v_known : Int32) (v_kept : Int32) (v_size : Int32) (v_high : Int32) (v_behindMany : Int32) (v_ends : Int32) (v_lead : Int32) (v_round : Int32) (v_worthM : Int64) (v_worthN : Int64) (v_w : (Nat → Int32)) (v_word : (Nat → Int32)) (v_row : (Nat → Int32)) : va_W := [(h0, .inr (7, [.ref h_w, .int v_known, .int v_kept, .ref h_word, .int v_size, .ref h_ahead, .int v_high, .ref h_behind, .int v_behindMany, .ref h_restM, .ref h_restN, .ref h_powerM, .ref h_powerN, .int v_ends, .int v_lead, .int v_round, .ref h_row, .long v_worthM, .long v_worthN])), (h_w, .inl (c_w, 110, .inl v_w)), (h_word, .inl (c_word, 60, .inl v_word)), (h_row, .inl (c_row, 60, .inl v_row))]
abbrev rm_X7_worth : Room := { frames := 2, cells := 0, slots := 0, locals := 49 }
def F_X7_worth (x1 : Int32) (v_size : Int32) (v_w : (Nat → Int32)) (v_word : (Nat → Int32)) (v_row : (Nat → Int32)) : Option (Int32 × Int64 × Int64 × (Nat → Int32)) := ((F_X7_layWorth v_size v_w v_word v_row).bind fun o_1 => (if o_1.1 = 0 then (some ((-2000000004 : Int32), o_1.2.1, o_1.2.2.1, o_1.2.2.2)) else (if x1 = 0 then (some ((o_1.2.1.toInt32 + (1000000 : Int32)), o_1.2.1, o_1.2.2.1, o_1.2.2.2)) else (some ((o_1.2.2.1.toInt32 + (1000000 : Int32)), o_1.2.1, o_1.2.2.1, o_1.2.2.2)))))
set_option maxRecDepth 100000 in
set_option maxHeartbeats 4000000 in
theorem b_X7_worth {p : Program} {l : Launch} {e : Env} {s : State} {m : MethodId} {args : Array Value} {below : List Frame} {meth : Method} {c : Code} {Q : State → Prop} {dC : Nat → ClassId} {dI : Nat → Nat → Nat} {H : Heap} {locs : List Loc} {ls : Array Slot} {A : Nat → Prop} (h0 h_w h_word h_ahead h_behind h_restM h_restN h_powerM h_powerN h_row : Nat) (c_w c_word c_row : ClassId) (v_known : Int32) (v_kept : Int32) (v_size : Int32) (v_high : Int32) (v_behindMany : Int32) (v_ends : Int32) (v_lead : Int32) (v_round : Int32) (v_worthM : Int64) (v_worthN : Int64) (v_w : (Nat → Int32)) (v_word : (Nat → Int32)) (v_row : (Nat → Int32)) (x1 : Int32) (ou0 : Int32) (ou1 : Int64) (ou2 : Int64) (ou3 : (Nat → Int32)) (hF : F_X7_worth x1 v_size v_w v_word v_row = some (ou0, ou1, ou2, ou3)) (hC : CallFix p m c cX7_worth 2 s args wsX7_worth RX7) (hN : NW s) (hK : va_K (dC, dI) vwCl [(c_w, .int), (c_word, .int), (c_row, .int)] s) (hP : va_P (dC, dI) vwCl (wd_X7_worth h0 h_w h_word h_ahead h_behind h_restM h_restN h_powerM h_powerN h_row c_w c_word c_row v_known v_kept v_size v_high v_behindMany v_ends v_lead v_round v_worthM v_worthN v_w v_word v_row) H) (hA : ∀ q, s.heap.size ≤ q → A q) (hD : va_D A (wd_X7_worth h0 h_w h_word h_ahead h_behind h_restM h_restN h_powerM h_powerN h_row c_w c_word c_row v_known v_kept v_size v_high v_behindMany v_ends v_lead v_round v_worthM v_worthN v_w v_word v_row)) (hS : va_S A s.heap H locs) (hE : ∀ (H : Heap) (locs : List Loc) (ls : Array Slot) (pc : Nat), va_P (dC, dI) vwCl (wd_X7_worth h0 h_w h_word h_ahead h_behind h_restM h_restN h_powerM h_powerN h_row c_w c_word c_row v_known v_kept v_size v_high v_behindMany v_ends v_lead v_round ou1 ou2 v_w v_word ou3) H → va_S A s.heap H locs → decode cX7_worth pc = .ok (.ireturn, 1) → W p l e rm_X7_worth s m args below meth c H locs 0 0 Q (F0 m pc ls [.int ou0])) (hl : lv_has ls 2 [(0, .ref h0), (1, .int x1)]) : W p l e rm_X7_worth s m args below meth c H locs 0 0 Q (F0 m 0 ls []) := by
  obtain ⟨hx, hb, hml, hown, hts⟩ := id hC
  have hD0 := hD
  unfold F_X7_worth at hF
  refine lv_aload_n hx hb dX7_worth_0 rfl (lv_at hl 0 rfl) ?_
  obtain ⟨o_1, hc_o_1, hF⟩ := bd_s hF
  refine wrVi (o := o_1.1) (wc' := (wd_X7_layWorth h0 h_w h_word h_ahead h_behind h_restM h_restN h_powerM h_powerN h_row c_w c_word c_row v_known v_kept v_size v_high v_behindMany v_ends v_lead v_round o_1.2.1 o_1.2.2.1 v_w v_word o_1.2.2.2)) (As := []) (rest := []) (b := h0) hC (c_X7_layWorth l dC dI H.size h0 h_w h_word h_ahead h_behind h_restM h_restN h_powerM h_powerN h_row c_w c_word c_row v_known v_kept v_size v_high v_behindMany v_ends v_lead v_round v_worthM v_worthN v_w v_word v_row  o_1 hc_o_1) (cwV 0 hts gX7_worth_X7_layWorth rfl rfl rfl (by decide +kernel) ⟨Nat.le_of_ble_eq_true rfl, Nat.le_of_ble_eq_true rfl⟩) hN (hK.sub (tys' := [(c_w, .int), (c_word, .int), (c_row, .int)]) [0, 1, 2] rfl) hP hD hS hA [0, 1, 2, 3] rfl rfl rfl rfl 0 7 rfl rfl rfl rfl hl.1 (Nat.le_of_ble_eq_true rfl) dX7_worth_1 ⟨Nat.zero_le _, Nat.zero_le _⟩ (fun H locs hP hS => ?_)
  have hP : va_P (dC, dI) vwCl (wd_X7_worth h0 h_w h_word h_ahead h_behind h_restM h_restN h_powerM h_powerN h_row c_w c_word c_row v_known v_kept v_size v_high v_behindMany v_ends v_lead v_round o_1.2.1 o_1.2.2.1 v_w v_word o_1.2.2.2) H := hP
  have hD : va_D A (wd_X7_worth h0 h_w h_word h_ahead h_behind h_restM h_restN h_powerM h_powerN h_row c_w c_word c_row v_known v_kept v_size v_high v_behindMany v_ends v_lead v_round o_1.2.1 o_1.2.2.1 v_w v_word o_1.2.2.2) := va_D.re hD rfl
  refine lv_if_ne (tgt := 10) hx hb dX7_worth_4 (by decide) (fun g_2 => ?_) (fun g_2 => ?_)
  · replace hF := ite_f g_2 hF
    refine lv_iload_n hx hb dX7_worth_10 rfl (lv_at hl 1 rfl) ?_
    refine lv_if_ne (tgt := 21) hx hb dX7_worth_11 (by decide) (fun g_3 => ?_) (fun g_3 => ?_)
    · replace hF := ite_f g_3 hF
      refine lv_aload_n hx hb dX7_worth_21 rfl (lv_at hl 0 rfl) ?_
      refine va_get (D := (dC, dI)) (ci := 7) (v := .long o_1.2.2.1) (C := RX7) (T := TX7) (N := 19) hx hb hts inn_X7_worth_X7 hown hK hP 0 rfl rfl 18 (by decide) (hts (.fieldLink RX7 124 "RingBasesModel" "worthN" "J") (List.mem_of_getElem? (i := 3) rfl)) (fun _ h9 => h9) rfl dX7_worth_22 ?_
      refine lv_l2i hx hb dX7_worth_25 rfl ?_
      refine lv_ldc (v := (1000000 : Int32)) hx hb hown (hts (.constant RX7 185 (1000000)) (List.mem_of_getElem? (i := 4) rfl)) dX7_worth_26 ?_
      refine lv_iadd hx hb dX7_worth_28 ?_
      obtain ⟨rfl, rfl, rfl, rfl⟩ := oks4 hF; exact hE _ _ _ _ hP hS dX7_worth_29
    · replace hF := ite_t g_3 hF
      refine lv_aload_n hx hb dX7_worth_14 rfl (lv_at hl 0 rfl) ?_
      refine va_get (D := (dC, dI)) (ci := 7) (v := .long o_1.2.1) (C := RX7) (T := TX7) (N := 19) hx hb hts inn_X7_worth_X7 hown hK hP 0 rfl rfl 17 (by decide) (hts (.fieldLink RX7 120 "RingBasesModel" "worthM" "J") (List.mem_of_getElem? (i := 2) rfl)) (fun _ h9 => h9) rfl dX7_worth_15 ?_
      refine lv_goto (tgt := 25) hx hb dX7_worth_18 (by decide) ?_
      refine lv_l2i hx hb dX7_worth_25 rfl ?_
      refine lv_ldc (v := (1000000 : Int32)) hx hb hown (hts (.constant RX7 185 (1000000)) (List.mem_of_getElem? (i := 4) rfl)) dX7_worth_26 ?_
      refine lv_iadd hx hb dX7_worth_28 ?_
      obtain ⟨rfl, rfl, rfl, rfl⟩ := oks4 hF; exact hE _ _ _ _ hP hS dX7_worth_29
  · replace hF := ite_t g_2 hF
    refine lv_ldc (v := (-2000000004 : Int32)) hx hb hown (hts (.constant RX7 139 (-2000000004)) (List.mem_of_getElem? (i := 1) rfl)) dX7_worth_7 ?_
    obtain ⟨rfl, rfl, rfl, rfl⟩ := oks4 hF; exact hE _ _ _ _ hP hS dX7_worth_9
set_option maxRecDepth 100000 in
set_option maxHeartbeats 4000000 in
theorem c_X7_worth (l : Launch) (dC : Nat → ClassId) (dI : Nat → Nat → Nat) (sz : Nat) (h0 h_w h_word h_ahead h_behind h_restM h_restN h_powerM h_powerN h_row : Nat) (c_w c_word c_row : ClassId) (v_known : Int32) (v_kept : Int32) (v_size : Int32) (v_high : Int32) (v_behindMany : Int32) (v_ends : Int32) (v_lead : Int32) (v_round : Int32) (v_worthM : Int64) (v_worthN : Int64) (v_w : (Nat → Int32)) (v_word : (Nat → Int32)) (v_row : (Nat → Int32)) (x1 : Int32) (o : Int32 × Int64 × Int64 × (Nat → Int32)) (hF : F_X7_worth x1 v_size v_w v_word v_row = some o) : Met l yX7_worth wsX7_worth rm_X7_worth (va_Pc [.ref h0, .int x1] (PcW dC dI sz (wd_X7_worth h0 h_w h_word h_ahead h_behind h_restM h_restN h_powerM h_powerN h_row c_w c_word c_row v_known v_kept v_size v_high v_behindMany v_ends v_lead v_round v_worthM v_worthN v_w v_word v_row) [(c_w, .int), (c_word, .int), (c_row, .int)])) (va_Qi (fun (r : Int32) (_ : Unit) => r = o.1) (fun _ t => va_P (dC, dI) vwCl (wd_X7_worth h0 h_w h_word h_ahead h_behind h_restM h_restN h_powerM h_powerN h_row c_w c_word c_row v_known v_kept v_size v_high v_behindMany v_ends v_lead v_round o.2.1 o.2.2.1 v_w v_word o.2.2.2) t.heap) (va_A (wd_X7_worth h0 h_w h_word h_ahead h_behind h_restM h_restN h_powerM h_powerN h_row c_w c_word c_row v_known v_kept v_size v_high v_behindMany v_ends v_lead v_round v_worthM v_worthN v_w v_word v_row) sz)) 0 0 (va_A (wd_X7_worth h0 h_w h_word h_ahead h_behind h_restM h_restN h_powerM h_powerN h_row c_w c_word c_row v_known v_kept v_size v_high v_behindMany v_ends v_lead v_round v_worthM v_worthN v_w v_word v_row) sz) := by
  refine Met.ofW (cc := cX7_worth) (maxL := 2) (ret := (some .int)) (by decide) rfl ?_
  intro p e s m args below meth c s₁ B hml hv
  obtain ⟨rfl, hsz, hP, hK, hD0, hN⟩ := hv
  subst hsz
  have hl := lv_entry ([.ref h0, .int x1]) (n := 2) (Nat.le_of_ble_eq_true rfl)
  rw [lg_entry_eq]
  generalize (lg_sl ([.ref h0, .int x1]) ++ List.replicate (2 - (lg_sl ([.ref h0, .int x1])).length) Slot.unset).toArray = ls at hl ⊢
  exact b_X7_worth h0 h_w h_word h_ahead h_behind h_restM h_restN h_powerM h_powerN h_row c_w c_word c_row v_known v_kept v_size v_high v_behindMany v_ends v_lead v_round v_worthM v_worthN v_w v_word v_row x1 o.1 o.2.1 o.2.2.1 o.2.2.2 hF ⟨B.exec, B.bytes, hml, findClass_of_methodNamed B.named, atoms_spec (ws := wsX7_worth) B.pre⟩ hN hK hP (fun q h => Or.inr h) (hD0.self (sz := s.heap.size)) va_S.rf (fun H locs ls pc hP hS hd => W.iret B.exec B.bytes B.returns (fun t ht hW => ⟨⟨_, (), rfl, rfl, by show va_P (dC, dI) vwCl _ t.heap; rw [ht]; exact hP⟩, hS.F ht⟩) hS.2.2 hd B.notSynchronized) hl
theorem inn_X7_told_X7 : ∀ w ∈ wsX70, w ∈ wsX7_told := fun _ h => List.mem_cons_of_mem _ (List.mem_append_right _ h)
abbrev wd_X7_told (h0 h_w h_word h_ahead h_behind h_restM h_restN h_powerM h_powerN h_row : Nat) (c_w c_word c_ahead c_behind c_restM c_restN c_powerM c_powerN c_row : ClassId) (v_known : Int32) (v_kept : Int32) (v_size : Int32) (v_high : Int32) (v_behindMany : Int32) (v_ends : Int32) (v_lead : Int32) (v_round : Int32) (v_worthM : Int64) (v_worthN : Int64) (v_w : (Nat → Int32)) (v_word : (Nat → Int32)) (v_ahead : (Nat → Int32)) (v_behind : (Nat → Int32)) (v_restM : (Nat → Int64)) (v_restN : (Nat → Int64)) (v_powerM : (Nat → Int64)) (v_powerN : (Nat → Int64)) (v_row : (Nat → Int32)) : va_W := [(h0, .inr (7, [.ref h_w, .int v_known, .int v_kept, .ref h_word, .int v_size, .ref h_ahead, .int v_high, .ref h_behind, .int v_behindMany, .ref h_restM, .ref h_restN, .ref h_powerM, .ref h_powerN, .int v_ends, .int v_lead, .int v_round, .ref h_row, .long v_worthM, .long v_worthN])), (h_w, .inl (c_w, 110, .inl v_w)), (h_word, .inl (c_word, 60, .inl v_word)), (h_ahead, .inl (c_ahead, 64, .inl v_ahead)), (h_behind, .inl (c_behind, 40, .inl v_behind)), (h_restM, .inl (c_restM, 41, .inr (.inl v_restM))), (h_restN, .inl (c_restN, 41, .inr (.inl v_restN))), (h_powerM, .inl (c_powerM, 64, .inr (.inl v_powerM))), (h_powerN, .inl (c_powerN, 64, .inr (.inl v_powerN))), (h_row, .inl (c_row, 60, .inl v_row))]
abbrev rm_X7_told : Room := { frames := 5, cells := 0, slots := 0, locals := 132 }
def F_X7_told (x1 : Int32) (v_known : Int32) (v_size : Int32) (v_high : Int32) (v_behindMany : Int32) (v_ends : Int32) (v_lead : Int32) (v_round : Int32) (v_worthM : Int64) (v_worthN : Int64) (v_w : (Nat → Int32)) (v_word : (Nat → Int32)) (v_ahead : (Nat → Int32)) (v_behind : (Nat → Int32)) (v_restM : (Nat → Int64)) (v_restN : (Nat → Int64)) (v_powerM : (Nat → Int64)) (v_powerN : (Nat → Int64)) (v_row : (Nat → Int32)) : Option (Int32 × Int32 × Int32 × Int32 × Int32 × Int32 × Int64 × Int64 × (Nat → Int32) × (Nat → Int32) × (Nat → Int64) × (Nat → Int64) × (Nat → Int64) × (Nat → Int64) × (Nat → Int32)) := (if x1 = (0 : Int32) then (some ((v_w (0 : Int32).toNatClampNeg), v_high, v_behindMany, v_ends, v_lead, v_round, v_worthM, v_worthN, v_ahead, v_behind, v_restM, v_restN, v_powerM, v_powerN, v_row)) else (if x1 = (1 : Int32) then (some (((v_w (1 : Int32).toNatClampNeg) + (10 : Int32)), v_high, v_behindMany, v_ends, v_lead, v_round, v_worthM, v_worthN, v_ahead, v_behind, v_restM, v_restN, v_powerM, v_powerN, v_row)) else (if x1 = (2 : Int32) then (some ((F_X7_top v_w), v_high, v_behindMany, v_ends, v_lead, v_round, v_worthM, v_worthN, v_ahead, v_behind, v_restM, v_restN, v_powerM, v_powerN, v_row)) else (if x1 = (3 : Int32) then ((F_X7_wholeOf (0 : Int64) (1 : Int64) v_w).bind fun o_5 => (some (o_5.toInt32, v_high, v_behindMany, v_ends, v_lead, v_round, v_worthM, v_worthN, v_ahead, v_behind, v_restM, v_restN, v_powerM, v_powerN, v_row))) else (if x1 = (4 : Int32) then (some (v_size, v_high, v_behindMany, v_ends, v_lead, v_round, v_worthM, v_worthN, v_ahead, v_behind, v_restM, v_restN, v_powerM, v_powerN, v_row)) else (if x1 = (5 : Int32) then ((F_X7_well v_size v_w v_word v_row).bind fun o_8 => (some (o_8.1, v_high, v_behindMany, v_ends, v_lead, v_round, v_worthM, v_worthN, v_ahead, v_behind, v_restM, v_restN, v_powerM, v_powerN, o_8.2))) else (if x1 = (6 : Int32) then ((F_X7_badly v_size v_w v_word v_row).bind fun o_10 => (some (o_10.1, v_high, v_behindMany, v_ends, v_lead, v_round, v_worthM, v_worthN, v_ahead, v_behind, v_restM, v_restN, v_powerM, v_powerN, o_10.2))) else (if x1 = (7 : Int32) then ((F_X7_shiftNow v_size v_word).bind fun o_12 => (some (o_12, v_high, v_behindMany, v_ends, v_lead, v_round, v_worthM, v_worthN, v_ahead, v_behind, v_restM, v_restN, v_powerM, v_powerN, v_row))) else (if x1 = (8 : Int32) then ((F_X7_worth (x1 - (8 : Int32)) v_size v_w v_word v_row).bind fun o_14 => (some (o_14.1, v_high, v_behindMany, v_ends, v_lead, v_round, o_14.2.1, o_14.2.2.1, v_ahead, v_behind, v_restM, v_restN, v_powerM, v_powerN, o_14.2.2.2))) else (if x1 = (9 : Int32) then ((F_X7_worth (x1 - (8 : Int32)) v_size v_w v_word v_row).bind fun o_16 => (some (o_16.1, v_high, v_behindMany, v_ends, v_lead, v_round, o_16.2.1, o_16.2.2.1, v_ahead, v_behind, v_restM, v_restN, v_powerM, v_powerN, o_16.2.2.2))) else (if x1 = (10 : Int32) then ((F_X7_normalMany v_size v_high v_behindMany v_ends v_lead v_round v_w v_word v_ahead v_behind v_restM v_restN v_powerM v_powerN v_row).bind fun o_18 => (some (o_18.1, o_18.2.1, o_18.2.2.1, o_18.2.2.2.1, o_18.2.2.2.2.1, o_18.2.2.2.2.2.1, o_18.2.2.2.2.2.2.1, o_18.2.2.2.2.2.2.2.1, o_18.2.2.2.2.2.2.2.2.1, o_18.2.2.2.2.2.2.2.2.2.1, o_18.2.2.2.2.2.2.2.2.2.2.1, o_18.2.2.2.2.2.2.2.2.2.2.2.1, o_18.2.2.2.2.2.2.2.2.2.2.2.2.1, o_18.2.2.2.2.2.2.2.2.2.2.2.2.2.1, o_18.2.2.2.2.2.2.2.2.2.2.2.2.2.2))) else (if x1 = (11 : Int32) then (some (v_known, v_high, v_behindMany, v_ends, v_lead, v_round, v_worthM, v_worthN, v_ahead, v_behind, v_restM, v_restN, v_powerM, v_powerN, v_row)) else (some ((-2000000002 : Int32), v_high, v_behindMany, v_ends, v_lead, v_round, v_worthM, v_worthN, v_ahead, v_behind, v_restM, v_restN, v_powerM, v_powerN, v_row))))))))))))))
set_option maxRecDepth 100000 in
set_option maxHeartbeats 4000000 in
theorem b_X7_told {p : Program} {l : Launch} {e : Env} {s : State} {m : MethodId} {args : Array Value} {below : List Frame} {meth : Method} {c : Code} {Q : State → Prop} {dC : Nat → ClassId} {dI : Nat → Nat → Nat} {H : Heap} {locs : List Loc} {ls : Array Slot} {A : Nat → Prop} (h0 h_w h_word h_ahead h_behind h_restM h_restN h_powerM h_powerN h_row : Nat) (c_w c_word c_ahead c_behind c_restM c_restN c_powerM c_powerN c_row : ClassId) (v_known : Int32) (v_kept : Int32) (v_size : Int32) (v_high : Int32) (v_behindMany : Int32) (v_ends : Int32) (v_lead : Int32) (v_round : Int32) (v_worthM : Int64) (v_worthN : Int64) (v_w : (Nat → Int32)) (v_word : (Nat → Int32)) (v_ahead : (Nat → Int32)) (v_behind : (Nat → Int32)) (v_restM : (Nat → Int64)) (v_restN : (Nat → Int64)) (v_powerM : (Nat → Int64)) (v_powerN : (Nat → Int64)) (v_row : (Nat → Int32)) (x1 : Int32) (ou0 : Int32) (ou1 : Int32) (ou2 : Int32) (ou3 : Int32) (ou4 : Int32) (ou5 : Int32) (ou6 : Int64) (ou7 : Int64) (ou8 : (Nat → Int32)) (ou9 : (Nat → Int32)) (ou10 : (Nat → Int64)) (ou11 : (Nat → Int64)) (ou12 : (Nat → Int64)) (ou13 : (Nat → Int64)) (ou14 : (Nat → Int32)) (hF : F_X7_told x1 v_known v_size v_high v_behindMany v_ends v_lead v_round v_worthM v_worthN v_w v_word v_ahead v_behind v_restM v_restN v_powerM v_powerN v_row = some (ou0, ou1, ou2, ou3, ou4, ou5, ou6, ou7, ou8, ou9, ou10, ou11, ou12, ou13, ou14)) (hC : CallFix p m c cX7_told 2 s args wsX7_told RX7) (hN : NW s) (hK : va_K (dC, dI) vwCl [(c_w, .int), (c_word, .int), (c_ahead, .int), (c_behind, .int), (c_restM, .long), (c_restN, .long), (c_powerM, .long), (c_powerN, .long), (c_row, .int)] s) (hP : va_P (dC, dI) vwCl (wd_X7_told h0 h_w h_word h_ahead h_behind h_restM h_restN h_powerM h_powerN h_row c_w c_word c_ahead c_behind c_restM c_restN c_powerM c_powerN c_row v_known v_kept v_size v_high v_behindMany v_ends v_lead v_round v_worthM v_worthN v_w v_word v_ahead v_behind v_restM v_restN v_powerM v_powerN v_row) H) (hA : ∀ q, s.heap.size ≤ q → A q) (hD : va_D A (wd_X7_told h0 h_w h_word h_ahead h_behind h_restM h_restN h_powerM h_powerN h_row c_w c_word c_ahead c_behind c_restM c_restN c_powerM c_powerN c_row v_known v_kept v_size v_high v_behindMany v_ends v_lead v_round v_worthM v_worthN v_w v_word v_ahead v_behind v_restM v_restN v_powerM v_powerN v_row)) (hS : va_S A s.heap H locs) (hE : ∀ (H : Heap) (locs : List Loc) (ls : Array Slot) (pc : Nat), va_P (dC, dI) vwCl (wd_X7_told h0 h_w h_word h_ahead h_behind h_restM h_restN h_powerM h_powerN h_row c_w c_word c_ahead c_behind c_restM c_restN c_powerM c_powerN c_row v_known v_kept v_size ou1 ou2 ou3 ou4 ou5 ou6 ou7 v_w v_word ou8 ou9 ou10 ou11 ou12 ou13 ou14) H → va_S A s.heap H locs → decode cX7_told pc = .ok (.ireturn, 1) → W p l e rm_X7_told s m args below meth c H locs 0 0 Q (F0 m pc ls [.int ou0])) (hl : lv_has ls 2 [(0, .ref h0), (1, .int x1)]) : W p l e rm_X7_told s m args below meth c H locs 0 0 Q (F0 m 0 ls []) := by
  obtain ⟨hx, hb, hml, hown, hts⟩ := id hC
  have hD0 := hD
  unfold F_X7_told at hF
  refine lv_iload_n hx hb dX7_told_0 rfl (lv_at hl 1 rfl) ?_
  by_cases g_1 : x1 = (0 : Int32)
  · replace hF := ite_t g_1 hF
    refine lv_tableIn (tgt := 64) hx hb dX7_told_1 (by rw [g_1]; decide) (by rw [g_1]; decide) (by rw [g_1]; rfl) (by decide) ?_
    refine lv_aload_n hx hb dX7_told_64 rfl (lv_at hl 0 rfl) ?_
    refine va_get (D := (dC, dI)) (ci := 7) (v := .ref h_w) (C := RX7) (T := TX7) (N := 19) hx hb hts inn_X7_told_X7 hown hK hP 0 rfl rfl 0 (by decide) (hts (.fieldLink RX7 7 "RingBasesModel" "w" "[I") (List.mem_of_getElem? (i := 1) rfl)) (fun _ h9 => h9) rfl dX7_told_65 ?_
    refine lv_iconst (v := (0 : Int32)) hx hb dX7_told_68 (by decide) ?_
    refine va_iald hx hb hK hP 1 0 rfl rfl (by unfold vp_in; decide) dX7_told_69 ?_
    obtain ⟨rfl, rfl, rfl, rfl, rfl, rfl, rfl, rfl, rfl, rfl, rfl, rfl, rfl, rfl, rfl⟩ := oks15 hF; exact hE _ _ _ _ hP hS dX7_told_70
  · replace hF := ite_f g_1 hF
    by_cases g_2 : x1 = (1 : Int32)
    · replace hF := ite_t g_2 hF
      refine lv_tableIn (tgt := 71) hx hb dX7_told_1 (by rw [g_2]; decide) (by rw [g_2]; decide) (by rw [g_2]; rfl) (by decide) ?_
      refine lv_aload_n hx hb dX7_told_71 rfl (lv_at hl 0 rfl) ?_
      refine va_get (D := (dC, dI)) (ci := 7) (v := .ref h_w) (C := RX7) (T := TX7) (N := 19) hx hb hts inn_X7_told_X7 hown hK hP 0 rfl rfl 0 (by decide) (hts (.fieldLink RX7 7 "RingBasesModel" "w" "[I") (List.mem_of_getElem? (i := 1) rfl)) (fun _ h9 => h9) rfl dX7_told_72 ?_
      refine lv_iconst (v := (1 : Int32)) hx hb dX7_told_75 (by decide) ?_
      refine va_iald hx hb hK hP 1 0 rfl rfl (by unfold vp_in; decide) dX7_told_76 ?_
      refine lv_bipush (v := (10 : Int32)) hx hb dX7_told_77 (by decide) ?_
      refine lv_iadd hx hb dX7_told_79 ?_
      obtain ⟨rfl, rfl, rfl, rfl, rfl, rfl, rfl, rfl, rfl, rfl, rfl, rfl, rfl, rfl, rfl⟩ := oks15 hF; exact hE _ _ _ _ hP hS dX7_told_80
    · replace hF := ite_f g_2 hF
      by_cases g_3 : x1 = (2 : Int32)
      · replace hF := ite_t g_3 hF
        refine lv_tableIn (tgt := 81) hx hb dX7_told_1 (by rw [g_3]; decide) (by rw [g_3]; decide) (by rw [g_3]; rfl) (by decide) ?_
        refine lv_aload_n hx hb dX7_told_81 rfl (lv_at hl 0 rfl) ?_
        refine rdVi (As := []) (rest := []) (b := h0) hC (c_X7_top l dC dI h0 h_w h_word h_ahead h_behind h_restM h_restN h_powerM h_powerN h_row c_w v_known v_kept v_size v_high v_behindMany v_ends v_lead v_round v_worthM v_worthN v_w  (F_X7_top v_w) rfl) (cwV 0 hts gX7_told_X7_top rfl rfl rfl (by decide +kernel) ⟨Nat.le_of_ble_eq_true rfl, Nat.le_of_ble_eq_true rfl⟩) hN (hK.sub (tys' := [(c_w, .int)]) [0] rfl) (hP.sub (ws' := (wd_X7_top h0 h_w h_word h_ahead h_behind h_restM h_restN h_powerM h_powerN h_row c_w v_known v_kept v_size v_high v_behindMany v_ends v_lead v_round v_worthM v_worthN v_w)) [0, 1] rfl) 0 7 rfl rfl rfl rfl hl.1 (Nat.le_of_ble_eq_true rfl) dX7_told_82 ⟨Nat.zero_le _, Nat.zero_le _⟩ ?_
        obtain ⟨rfl, rfl, rfl, rfl, rfl, rfl, rfl, rfl, rfl, rfl, rfl, rfl, rfl, rfl, rfl⟩ := oks15 hF; exact hE _ _ _ _ hP hS dX7_told_85
      · replace hF := ite_f g_3 hF
        by_cases g_4 : x1 = (3 : Int32)
        · replace hF := ite_t g_4 hF
          refine lv_tableIn (tgt := 86) hx hb dX7_told_1 (by rw [g_4]; decide) (by rw [g_4]; decide) (by rw [g_4]; rfl) (by decide) ?_
          refine lv_aload_n hx hb dX7_told_86 rfl (lv_at hl 0 rfl) ?_
          refine lv_lconst (v := (0 : Int64)) hx hb dX7_told_87 (by decide) ?_
          refine lv_lconst (v := (1 : Int64)) hx hb dX7_told_88 (by decide) ?_
          obtain ⟨o_5, hc_o_5, hF⟩ := bd_s hF
          refine rdVl (As := [.long (0 : Int64), .long (1 : Int64)]) (rest := []) (b := h0) hC (c_X7_wholeOf l dC dI h0 h_w h_word h_ahead h_behind h_restM h_restN h_powerM h_powerN h_row c_w v_known v_kept v_size v_high v_behindMany v_ends v_lead v_round v_worthM v_worthN v_w (0 : Int64) (1 : Int64) o_5 hc_o_5) (cwV 2 hts gX7_told_X7_wholeOf rfl rfl rfl (by decide +kernel) ⟨Nat.le_of_ble_eq_true rfl, Nat.le_of_ble_eq_true rfl⟩) hN (hK.sub (tys' := [(c_w, .int)]) [0] rfl) (hP.sub (ws' := (wd_X7_wholeOf h0 h_w h_word h_ahead h_behind h_restM h_restN h_powerM h_powerN h_row c_w v_known v_kept v_size v_high v_behindMany v_ends v_lead v_round v_worthM v_worthN v_w)) [0, 1] rfl) 0 7 rfl rfl rfl rfl hl.1 (Nat.le_of_ble_eq_true rfl) dX7_told_89 ⟨Nat.zero_le _, Nat.zero_le _⟩ ?_
          refine lv_l2i hx hb dX7_told_92 rfl ?_
          obtain ⟨rfl, rfl, rfl, rfl, rfl, rfl, rfl, rfl, rfl, rfl, rfl, rfl, rfl, rfl, rfl⟩ := oks15 hF; exact hE _ _ _ _ hP hS dX7_told_93
        · replace hF := ite_f g_4 hF
          by_cases g_6 : x1 = (4 : Int32)
          · replace hF := ite_t g_6 hF
            refine lv_tableIn (tgt := 94) hx hb dX7_told_1 (by rw [g_6]; decide) (by rw [g_6]; decide) (by rw [g_6]; rfl) (by decide) ?_
            refine lv_aload_n hx hb dX7_told_94 rfl (lv_at hl 0 rfl) ?_
            refine va_get (D := (dC, dI)) (ci := 7) (v := .int v_size) (C := RX7) (T := TX7) (N := 19) hx hb hts inn_X7_told_X7 hown hK hP 0 rfl rfl 4 (by decide) (hts (.fieldLink RX7 99 "RingBasesModel" "size" "I") (List.mem_of_getElem? (i := 2) rfl)) (fun _ h9 => h9) rfl dX7_told_95 ?_
            obtain ⟨rfl, rfl, rfl, rfl, rfl, rfl, rfl, rfl, rfl, rfl, rfl, rfl, rfl, rfl, rfl⟩ := oks15 hF; exact hE _ _ _ _ hP hS dX7_told_98
          · replace hF := ite_f g_6 hF
            by_cases g_7 : x1 = (5 : Int32)
            · replace hF := ite_t g_7 hF
              refine lv_tableIn (tgt := 99) hx hb dX7_told_1 (by rw [g_7]; decide) (by rw [g_7]; decide) (by rw [g_7]; rfl) (by decide) ?_
              refine lv_aload_n hx hb dX7_told_99 rfl (lv_at hl 0 rfl) ?_
              obtain ⟨o_8, hc_o_8, hF⟩ := bd_s hF
              refine wrVi (o := o_8.1) (wc' := (wd_X7_well h0 h_w h_word h_ahead h_behind h_restM h_restN h_powerM h_powerN h_row c_w c_word c_row v_known v_kept v_size v_high v_behindMany v_ends v_lead v_round v_worthM v_worthN v_w v_word o_8.2)) (As := []) (rest := []) (b := h0) hC (c_X7_well l dC dI H.size h0 h_w h_word h_ahead h_behind h_restM h_restN h_powerM h_powerN h_row c_w c_word c_row v_known v_kept v_size v_high v_behindMany v_ends v_lead v_round v_worthM v_worthN v_w v_word v_row  o_8 hc_o_8) (cwV 0 hts gX7_told_X7_well rfl rfl rfl (by decide +kernel) ⟨Nat.le_of_ble_eq_true rfl, Nat.le_of_ble_eq_true rfl⟩) hN (hK.sub (tys' := [(c_w, .int), (c_word, .int), (c_row, .int)]) [0, 1, 8] rfl) hP hD hS hA [0, 1, 2, 9] rfl rfl rfl rfl 0 7 rfl rfl rfl rfl hl.1 (Nat.le_of_ble_eq_true rfl) dX7_told_100 ⟨Nat.zero_le _, Nat.zero_le _⟩ (fun H locs hP hS => ?_)
              have hP : va_P (dC, dI) vwCl (wd_X7_told h0 h_w h_word h_ahead h_behind h_restM h_restN h_powerM h_powerN h_row c_w c_word c_ahead c_behind c_restM c_restN c_powerM c_powerN c_row v_known v_kept v_size v_high v_behindMany v_ends v_lead v_round v_worthM v_worthN v_w v_word v_ahead v_behind v_restM v_restN v_powerM v_powerN o_8.2) H := hP
              have hD : va_D A (wd_X7_told h0 h_w h_word h_ahead h_behind h_restM h_restN h_powerM h_powerN h_row c_w c_word c_ahead c_behind c_restM c_restN c_powerM c_powerN c_row v_known v_kept v_size v_high v_behindMany v_ends v_lead v_round v_worthM v_worthN v_w v_word v_ahead v_behind v_restM v_restN v_powerM v_powerN o_8.2) := va_D.re hD rfl
              obtain ⟨rfl, rfl, rfl, rfl, rfl, rfl, rfl, rfl, rfl, rfl, rfl, rfl, rfl, rfl, rfl⟩ := oks15 hF; exact hE _ _ _ _ hP hS dX7_told_103
            · replace hF := ite_f g_7 hF
              by_cases g_9 : x1 = (6 : Int32)
              · replace hF := ite_t g_9 hF
                refine lv_tableIn (tgt := 104) hx hb dX7_told_1 (by rw [g_9]; decide) (by rw [g_9]; decide) (by rw [g_9]; rfl) (by decide) ?_
                refine lv_aload_n hx hb dX7_told_104 rfl (lv_at hl 0 rfl) ?_
                obtain ⟨o_10, hc_o_10, hF⟩ := bd_s hF
                refine wrVi (o := o_10.1) (wc' := (wd_X7_badly h0 h_w h_word h_ahead h_behind h_restM h_restN h_powerM h_powerN h_row c_w c_word c_row v_known v_kept v_size v_high v_behindMany v_ends v_lead v_round v_worthM v_worthN v_w v_word o_10.2)) (As := []) (rest := []) (b := h0) hC (c_X7_badly l dC dI H.size h0 h_w h_word h_ahead h_behind h_restM h_restN h_powerM h_powerN h_row c_w c_word c_row v_known v_kept v_size v_high v_behindMany v_ends v_lead v_round v_worthM v_worthN v_w v_word v_row  o_10 hc_o_10) (cwV 0 hts gX7_told_X7_badly rfl rfl rfl (by decide +kernel) ⟨Nat.le_of_ble_eq_true rfl, Nat.le_of_ble_eq_true rfl⟩) hN (hK.sub (tys' := [(c_w, .int), (c_word, .int), (c_row, .int)]) [0, 1, 8] rfl) hP hD hS hA [0, 1, 2, 9] rfl rfl rfl rfl 0 7 rfl rfl rfl rfl hl.1 (Nat.le_of_ble_eq_true rfl) dX7_told_105 ⟨Nat.zero_le _, Nat.zero_le _⟩ (fun H locs hP hS => ?_)
                have hP : va_P (dC, dI) vwCl (wd_X7_told h0 h_w h_word h_ahead h_behind h_restM h_restN h_powerM h_powerN h_row c_w c_word c_ahead c_behind c_restM c_restN c_powerM c_powerN c_row v_known v_kept v_size v_high v_behindMany v_ends v_lead v_round v_worthM v_worthN v_w v_word v_ahead v_behind v_restM v_restN v_powerM v_powerN o_10.2) H := hP
                have hD : va_D A (wd_X7_told h0 h_w h_word h_ahead h_behind h_restM h_restN h_powerM h_powerN h_row c_w c_word c_ahead c_behind c_restM c_restN c_powerM c_powerN c_row v_known v_kept v_size v_high v_behindMany v_ends v_lead v_round v_worthM v_worthN v_w v_word v_ahead v_behind v_restM v_restN v_powerM v_powerN o_10.2) := va_D.re hD rfl
                obtain ⟨rfl, rfl, rfl, rfl, rfl, rfl, rfl, rfl, rfl, rfl, rfl, rfl, rfl, rfl, rfl⟩ := oks15 hF; exact hE _ _ _ _ hP hS dX7_told_108
              · replace hF := ite_f g_9 hF
                by_cases g_11 : x1 = (7 : Int32)
                · replace hF := ite_t g_11 hF
                  refine lv_tableIn (tgt := 109) hx hb dX7_told_1 (by rw [g_11]; decide) (by rw [g_11]; decide) (by rw [g_11]; rfl) (by decide) ?_
                  refine lv_aload_n hx hb dX7_told_109 rfl (lv_at hl 0 rfl) ?_
                  obtain ⟨o_12, hc_o_12, hF⟩ := bd_s hF
                  refine rdVi (As := []) (rest := []) (b := h0) hC (c_X7_shiftNow l dC dI h0 h_w h_word h_ahead h_behind h_restM h_restN h_powerM h_powerN h_row c_word v_known v_kept v_size v_high v_behindMany v_ends v_lead v_round v_worthM v_worthN v_word  o_12 hc_o_12) (cwV 0 hts gX7_told_X7_shiftNow rfl rfl rfl (by decide +kernel) ⟨Nat.le_of_ble_eq_true rfl, Nat.le_of_ble_eq_true rfl⟩) hN (hK.sub (tys' := [(c_word, .int)]) [1] rfl) (hP.sub (ws' := (wd_X7_shiftNow h0 h_w h_word h_ahead h_behind h_restM h_restN h_powerM h_powerN h_row c_word v_known v_kept v_size v_high v_behindMany v_ends v_lead v_round v_worthM v_worthN v_word)) [0, 2] rfl) 0 7 rfl rfl rfl rfl hl.1 (Nat.le_of_ble_eq_true rfl) dX7_told_110 ⟨Nat.zero_le _, Nat.zero_le _⟩ ?_
                  obtain ⟨rfl, rfl, rfl, rfl, rfl, rfl, rfl, rfl, rfl, rfl, rfl, rfl, rfl, rfl, rfl⟩ := oks15 hF; exact hE _ _ _ _ hP hS dX7_told_113
                · replace hF := ite_f g_11 hF
                  by_cases g_13 : x1 = (8 : Int32)
                  · replace hF := ite_t g_13 hF
                    refine lv_tableIn (tgt := 114) hx hb dX7_told_1 (by rw [g_13]; decide) (by rw [g_13]; decide) (by rw [g_13]; rfl) (by decide) ?_
                    refine lv_aload_n hx hb dX7_told_114 rfl (lv_at hl 0 rfl) ?_
                    refine lv_iload_n hx hb dX7_told_115 rfl (lv_at hl 1 rfl) ?_
                    refine lv_bipush (v := (8 : Int32)) hx hb dX7_told_116 (by decide) ?_
                    refine lv_isub hx hb dX7_told_118 ?_
                    obtain ⟨o_14, hc_o_14, hF⟩ := bd_s hF
                    refine wrVi (o := o_14.1) (wc' := (wd_X7_worth h0 h_w h_word h_ahead h_behind h_restM h_restN h_powerM h_powerN h_row c_w c_word c_row v_known v_kept v_size v_high v_behindMany v_ends v_lead v_round o_14.2.1 o_14.2.2.1 v_w v_word o_14.2.2.2)) (As := [.int (x1 - (8 : Int32))]) (rest := []) (b := h0) hC (c_X7_worth l dC dI H.size h0 h_w h_word h_ahead h_behind h_restM h_restN h_powerM h_powerN h_row c_w c_word c_row v_known v_kept v_size v_high v_behindMany v_ends v_lead v_round v_worthM v_worthN v_w v_word v_row (x1 - (8 : Int32)) o_14 hc_o_14) (cwV 1 hts gX7_told_X7_worth rfl rfl rfl (by decide +kernel) ⟨Nat.le_of_ble_eq_true rfl, Nat.le_of_ble_eq_true rfl⟩) hN (hK.sub (tys' := [(c_w, .int), (c_word, .int), (c_row, .int)]) [0, 1, 8] rfl) hP hD hS hA [0, 1, 2, 9] rfl rfl rfl rfl 0 7 rfl rfl rfl rfl hl.1 (Nat.le_of_ble_eq_true rfl) dX7_told_119 ⟨Nat.zero_le _, Nat.zero_le _⟩ (fun H locs hP hS => ?_)
                    have hP : va_P (dC, dI) vwCl (wd_X7_told h0 h_w h_word h_ahead h_behind h_restM h_restN h_powerM h_powerN h_row c_w c_word c_ahead c_behind c_restM c_restN c_powerM c_powerN c_row v_known v_kept v_size v_high v_behindMany v_ends v_lead v_round o_14.2.1 o_14.2.2.1 v_w v_word v_ahead v_behind v_restM v_restN v_powerM v_powerN o_14.2.2.2) H := hP
                    have hD : va_D A (wd_X7_told h0 h_w h_word h_ahead h_behind h_restM h_restN h_powerM h_powerN h_row c_w c_word c_ahead c_behind c_restM c_restN c_powerM c_powerN c_row v_known v_kept v_size v_high v_behindMany v_ends v_lead v_round o_14.2.1 o_14.2.2.1 v_w v_word v_ahead v_behind v_restM v_restN v_powerM v_powerN o_14.2.2.2) := va_D.re hD rfl
                    obtain ⟨rfl, rfl, rfl, rfl, rfl, rfl, rfl, rfl, rfl, rfl, rfl, rfl, rfl, rfl, rfl⟩ := oks15 hF; exact hE _ _ _ _ hP hS dX7_told_122
                  · replace hF := ite_f g_13 hF
                    by_cases g_15 : x1 = (9 : Int32)
                    · replace hF := ite_t g_15 hF
                      refine lv_tableIn (tgt := 114) hx hb dX7_told_1 (by rw [g_15]; decide) (by rw [g_15]; decide) (by rw [g_15]; rfl) (by decide) ?_
                      refine lv_aload_n hx hb dX7_told_114 rfl (lv_at hl 0 rfl) ?_
                      refine lv_iload_n hx hb dX7_told_115 rfl (lv_at hl 1 rfl) ?_
                      refine lv_bipush (v := (8 : Int32)) hx hb dX7_told_116 (by decide) ?_
                      refine lv_isub hx hb dX7_told_118 ?_
                      obtain ⟨o_16, hc_o_16, hF⟩ := bd_s hF
                      refine wrVi (o := o_16.1) (wc' := (wd_X7_worth h0 h_w h_word h_ahead h_behind h_restM h_restN h_powerM h_powerN h_row c_w c_word c_row v_known v_kept v_size v_high v_behindMany v_ends v_lead v_round o_16.2.1 o_16.2.2.1 v_w v_word o_16.2.2.2)) (As := [.int (x1 - (8 : Int32))]) (rest := []) (b := h0) hC (c_X7_worth l dC dI H.size h0 h_w h_word h_ahead h_behind h_restM h_restN h_powerM h_powerN h_row c_w c_word c_row v_known v_kept v_size v_high v_behindMany v_ends v_lead v_round v_worthM v_worthN v_w v_word v_row (x1 - (8 : Int32)) o_16 hc_o_16) (cwV 1 hts gX7_told_X7_worth rfl rfl rfl (by decide +kernel) ⟨Nat.le_of_ble_eq_true rfl, Nat.le_of_ble_eq_true rfl⟩) hN (hK.sub (tys' := [(c_w, .int), (c_word, .int), (c_row, .int)]) [0, 1, 8] rfl) hP hD hS hA [0, 1, 2, 9] rfl rfl rfl rfl 0 7 rfl rfl rfl rfl hl.1 (Nat.le_of_ble_eq_true rfl) dX7_told_119 ⟨Nat.zero_le _, Nat.zero_le _⟩ (fun H locs hP hS => ?_)
                      have hP : va_P (dC, dI) vwCl (wd_X7_told h0 h_w h_word h_ahead h_behind h_restM h_restN h_powerM h_powerN h_row c_w c_word c_ahead c_behind c_restM c_restN c_powerM c_powerN c_row v_known v_kept v_size v_high v_behindMany v_ends v_lead v_round o_16.2.1 o_16.2.2.1 v_w v_word v_ahead v_behind v_restM v_restN v_powerM v_powerN o_16.2.2.2) H := hP
                      have hD : va_D A (wd_X7_told h0 h_w h_word h_ahead h_behind h_restM h_restN h_powerM h_powerN h_row c_w c_word c_ahead c_behind c_restM c_restN c_powerM c_powerN c_row v_known v_kept v_size v_high v_behindMany v_ends v_lead v_round o_16.2.1 o_16.2.2.1 v_w v_word v_ahead v_behind v_restM v_restN v_powerM v_powerN o_16.2.2.2) := va_D.re hD rfl
                      obtain ⟨rfl, rfl, rfl, rfl, rfl, rfl, rfl, rfl, rfl, rfl, rfl, rfl, rfl, rfl, rfl⟩ := oks15 hF; exact hE _ _ _ _ hP hS dX7_told_122
                    · replace hF := ite_f g_15 hF
                      by_cases g_17 : x1 = (10 : Int32)
                      · replace hF := ite_t g_17 hF
                        refine lv_tableIn (tgt := 123) hx hb dX7_told_1 (by rw [g_17]; decide) (by rw [g_17]; decide) (by rw [g_17]; rfl) (by decide) ?_
                        refine lv_aload_n hx hb dX7_told_123 rfl (lv_at hl 0 rfl) ?_
                        obtain ⟨o_18, hc_o_18, hF⟩ := bd_s hF
                        refine wrVi (o := o_18.1) (wc' := (wd_X7_normalMany h0 h_w h_word h_ahead h_behind h_restM h_restN h_powerM h_powerN h_row c_w c_word c_ahead c_behind c_restM c_restN c_powerM c_powerN c_row v_known v_kept v_size o_18.2.1 o_18.2.2.1 o_18.2.2.2.1 o_18.2.2.2.2.1 o_18.2.2.2.2.2.1 o_18.2.2.2.2.2.2.1 o_18.2.2.2.2.2.2.2.1 v_w v_word o_18.2.2.2.2.2.2.2.2.1 o_18.2.2.2.2.2.2.2.2.2.1 o_18.2.2.2.2.2.2.2.2.2.2.1 o_18.2.2.2.2.2.2.2.2.2.2.2.1 o_18.2.2.2.2.2.2.2.2.2.2.2.2.1 o_18.2.2.2.2.2.2.2.2.2.2.2.2.2.1 o_18.2.2.2.2.2.2.2.2.2.2.2.2.2.2)) (As := []) (rest := []) (b := h0) hC (c_X7_normalMany l dC dI H.size h0 h_w h_word h_ahead h_behind h_restM h_restN h_powerM h_powerN h_row c_w c_word c_ahead c_behind c_restM c_restN c_powerM c_powerN c_row v_known v_kept v_size v_high v_behindMany v_ends v_lead v_round v_worthM v_worthN v_w v_word v_ahead v_behind v_restM v_restN v_powerM v_powerN v_row  o_18 hc_o_18) (cwV 0 hts gX7_told_X7_normalMany rfl rfl rfl (by decide +kernel) ⟨Nat.le_of_ble_eq_true rfl, Nat.le_of_ble_eq_true rfl⟩) hN (hK.sub (tys' := [(c_w, .int), (c_word, .int), (c_ahead, .int), (c_behind, .int), (c_restM, .long), (c_restN, .long), (c_powerM, .long), (c_powerN, .long), (c_row, .int)]) [0, 1, 2, 3, 4, 5, 6, 7, 8] rfl) hP hD hS hA [0, 1, 2, 3, 4, 5, 6, 7, 8, 9] rfl rfl rfl rfl 0 7 rfl rfl rfl rfl hl.1 (Nat.le_of_ble_eq_true rfl) dX7_told_124 ⟨Nat.zero_le _, Nat.zero_le _⟩ (fun H locs hP hS => ?_)
                        have hP : va_P (dC, dI) vwCl (wd_X7_told h0 h_w h_word h_ahead h_behind h_restM h_restN h_powerM h_powerN h_row c_w c_word c_ahead c_behind c_restM c_restN c_powerM c_powerN c_row v_known v_kept v_size o_18.2.1 o_18.2.2.1 o_18.2.2.2.1 o_18.2.2.2.2.1 o_18.2.2.2.2.2.1 o_18.2.2.2.2.2.2.1 o_18.2.2.2.2.2.2.2.1 v_w v_word o_18.2.2.2.2.2.2.2.2.1 o_18.2.2.2.2.2.2.2.2.2.1 o_18.2.2.2.2.2.2.2.2.2.2.1 o_18.2.2.2.2.2.2.2.2.2.2.2.1 o_18.2.2.2.2.2.2.2.2.2.2.2.2.1 o_18.2.2.2.2.2.2.2.2.2.2.2.2.2.1 o_18.2.2.2.2.2.2.2.2.2.2.2.2.2.2) H := hP
                        have hD : va_D A (wd_X7_told h0 h_w h_word h_ahead h_behind h_restM h_restN h_powerM h_powerN h_row c_w c_word c_ahead c_behind c_restM c_restN c_powerM c_powerN c_row v_known v_kept v_size o_18.2.1 o_18.2.2.1 o_18.2.2.2.1 o_18.2.2.2.2.1 o_18.2.2.2.2.2.1 o_18.2.2.2.2.2.2.1 o_18.2.2.2.2.2.2.2.1 v_w v_word o_18.2.2.2.2.2.2.2.2.1 o_18.2.2.2.2.2.2.2.2.2.1 o_18.2.2.2.2.2.2.2.2.2.2.1 o_18.2.2.2.2.2.2.2.2.2.2.2.1 o_18.2.2.2.2.2.2.2.2.2.2.2.2.1 o_18.2.2.2.2.2.2.2.2.2.2.2.2.2.1 o_18.2.2.2.2.2.2.2.2.2.2.2.2.2.2) := va_D.re hD rfl
                        obtain ⟨rfl, rfl, rfl, rfl, rfl, rfl, rfl, rfl, rfl, rfl, rfl, rfl, rfl, rfl, rfl⟩ := oks15 hF; exact hE _ _ _ _ hP hS dX7_told_127
                      · replace hF := ite_f g_17 hF
                        by_cases g_19 : x1 = (11 : Int32)
                        · replace hF := ite_t g_19 hF
                          refine lv_tableIn (tgt := 128) hx hb dX7_told_1 (by rw [g_19]; decide) (by rw [g_19]; decide) (by rw [g_19]; rfl) (by decide) ?_
                          refine lv_aload_n hx hb dX7_told_128 rfl (lv_at hl 0 rfl) ?_
                          refine va_get (D := (dC, dI)) (ci := 7) (v := .int v_known) (C := RX7) (T := TX7) (N := 19) hx hb hts inn_X7_told_X7 hown hK hP 0 rfl rfl 1 (by decide) (hts (.fieldLink RX7 42 "RingBasesModel" "known" "I") (List.mem_of_getElem? (i := 3) rfl)) (fun _ h9 => h9) rfl dX7_told_129 ?_
                          obtain ⟨rfl, rfl, rfl, rfl, rfl, rfl, rfl, rfl, rfl, rfl, rfl, rfl, rfl, rfl, rfl⟩ := oks15 hF; exact hE _ _ _ _ hP hS dX7_told_132
                        · replace hF := ite_f g_19 hF
                          have tg_1 := lv_neT g_1 (a := 0) (by decide)
                          have tg_2 := lv_neT g_2 (a := 1) (by decide)
                          have tg_3 := lv_neT g_3 (a := 2) (by decide)
                          have tg_4 := lv_neT g_4 (a := 3) (by decide)
                          have tg_6 := lv_neT g_6 (a := 4) (by decide)
                          have tg_7 := lv_neT g_7 (a := 5) (by decide)
                          have tg_9 := lv_neT g_9 (a := 6) (by decide)
                          have tg_11 := lv_neT g_11 (a := 7) (by decide)
                          have tg_13 := lv_neT g_13 (a := 8) (by decide)
                          have tg_15 := lv_neT g_15 (a := 9) (by decide)
                          have tg_17 := lv_neT g_17 (a := 10) (by decide)
                          have tg_19 := lv_neT g_19 (a := 11) (by decide)
                          refine lv_tableOut (tgt := 133) hx hb dX7_told_1 (by omega) (by decide) ?_
                          refine lv_ldc (v := (-2000000002 : Int32)) hx hb hown (hts (.constant RX7 156 (-2000000002)) (List.mem_of_getElem? (i := 4) rfl)) dX7_told_133 ?_
                          obtain ⟨rfl, rfl, rfl, rfl, rfl, rfl, rfl, rfl, rfl, rfl, rfl, rfl, rfl, rfl, rfl⟩ := oks15 hF; exact hE _ _ _ _ hP hS dX7_told_135
set_option maxRecDepth 100000 in
set_option maxHeartbeats 4000000 in
theorem c_X7_told (l : Launch) (dC : Nat → ClassId) (dI : Nat → Nat → Nat) (sz : Nat) (h0 h_w h_word h_ahead h_behind h_restM h_restN h_powerM h_powerN h_row : Nat) (c_w c_word c_ahead c_behind c_restM c_restN c_powerM c_powerN c_row : ClassId) (v_known : Int32) (v_kept : Int32) (v_size : Int32) (v_high : Int32) (v_behindMany : Int32) (v_ends : Int32) (v_lead : Int32) (v_round : Int32) (v_worthM : Int64) (v_worthN : Int64) (v_w : (Nat → Int32)) (v_word : (Nat → Int32)) (v_ahead : (Nat → Int32)) (v_behind : (Nat → Int32)) (v_restM : (Nat → Int64)) (v_restN : (Nat → Int64)) (v_powerM : (Nat → Int64)) (v_powerN : (Nat → Int64)) (v_row : (Nat → Int32)) (x1 : Int32) (o : Int32 × Int32 × Int32 × Int32 × Int32 × Int32 × Int64 × Int64 × (Nat → Int32) × (Nat → Int32) × (Nat → Int64) × (Nat → Int64) × (Nat → Int64) × (Nat → Int64) × (Nat → Int32)) (hF : F_X7_told x1 v_known v_size v_high v_behindMany v_ends v_lead v_round v_worthM v_worthN v_w v_word v_ahead v_behind v_restM v_restN v_powerM v_powerN v_row = some o) : Met l yX7_told wsX7_told rm_X7_told (va_Pc [.ref h0, .int x1] (PcW dC dI sz (wd_X7_told h0 h_w h_word h_ahead h_behind h_restM h_restN h_powerM h_powerN h_row c_w c_word c_ahead c_behind c_restM c_restN c_powerM c_powerN c_row v_known v_kept v_size v_high v_behindMany v_ends v_lead v_round v_worthM v_worthN v_w v_word v_ahead v_behind v_restM v_restN v_powerM v_powerN v_row) [(c_w, .int), (c_word, .int), (c_ahead, .int), (c_behind, .int), (c_restM, .long), (c_restN, .long), (c_powerM, .long), (c_powerN, .long), (c_row, .int)])) (va_Qi (fun (r : Int32) (_ : Unit) => r = o.1) (fun _ t => va_P (dC, dI) vwCl (wd_X7_told h0 h_w h_word h_ahead h_behind h_restM h_restN h_powerM h_powerN h_row c_w c_word c_ahead c_behind c_restM c_restN c_powerM c_powerN c_row v_known v_kept v_size o.2.1 o.2.2.1 o.2.2.2.1 o.2.2.2.2.1 o.2.2.2.2.2.1 o.2.2.2.2.2.2.1 o.2.2.2.2.2.2.2.1 v_w v_word o.2.2.2.2.2.2.2.2.1 o.2.2.2.2.2.2.2.2.2.1 o.2.2.2.2.2.2.2.2.2.2.1 o.2.2.2.2.2.2.2.2.2.2.2.1 o.2.2.2.2.2.2.2.2.2.2.2.2.1 o.2.2.2.2.2.2.2.2.2.2.2.2.2.1 o.2.2.2.2.2.2.2.2.2.2.2.2.2.2) t.heap) (va_A (wd_X7_told h0 h_w h_word h_ahead h_behind h_restM h_restN h_powerM h_powerN h_row c_w c_word c_ahead c_behind c_restM c_restN c_powerM c_powerN c_row v_known v_kept v_size v_high v_behindMany v_ends v_lead v_round v_worthM v_worthN v_w v_word v_ahead v_behind v_restM v_restN v_powerM v_powerN v_row) sz)) 0 0 (va_A (wd_X7_told h0 h_w h_word h_ahead h_behind h_restM h_restN h_powerM h_powerN h_row c_w c_word c_ahead c_behind c_restM c_restN c_powerM c_powerN c_row v_known v_kept v_size v_high v_behindMany v_ends v_lead v_round v_worthM v_worthN v_w v_word v_ahead v_behind v_restM v_restN v_powerM v_powerN v_row) sz) := by
  refine Met.ofW (cc := cX7_told) (maxL := 2) (ret := (some .int)) (by decide) rfl ?_
  intro p e s m args below meth c s₁ B hml hv
  obtain ⟨rfl, hsz, hP, hK, hD0, hN⟩ := hv
  subst hsz
  have hl := lv_entry ([.ref h0, .int x1]) (n := 2) (Nat.le_of_ble_eq_true rfl)
  rw [lg_entry_eq]
  generalize (lg_sl ([.ref h0, .int x1]) ++ List.replicate (2 - (lg_sl ([.ref h0, .int x1])).length) Slot.unset).toArray = ls at hl ⊢
  exact b_X7_told h0 h_w h_word h_ahead h_behind h_restM h_restN h_powerM h_powerN h_row c_w c_word c_ahead c_behind c_restM c_restN c_powerM c_powerN c_row v_known v_kept v_size v_high v_behindMany v_ends v_lead v_round v_worthM v_worthN v_w v_word v_ahead v_behind v_restM v_restN v_powerM v_powerN v_row x1 o.1 o.2.1 o.2.2.1 o.2.2.2.1 o.2.2.2.2.1 o.2.2.2.2.2.1 o.2.2.2.2.2.2.1 o.2.2.2.2.2.2.2.1 o.2.2.2.2.2.2.2.2.1 o.2.2.2.2.2.2.2.2.2.1 o.2.2.2.2.2.2.2.2.2.2.1 o.2.2.2.2.2.2.2.2.2.2.2.1 o.2.2.2.2.2.2.2.2.2.2.2.2.1 o.2.2.2.2.2.2.2.2.2.2.2.2.2.1 o.2.2.2.2.2.2.2.2.2.2.2.2.2.2 hF ⟨B.exec, B.bytes, hml, findClass_of_methodNamed B.named, atoms_spec (ws := wsX7_told) B.pre⟩ hN hK hP (fun q h => Or.inr h) (hD0.self (sz := s.heap.size)) va_S.rf (fun H locs ls pc hP hS hd => W.iret B.exec B.bytes B.returns (fun t ht hW => ⟨⟨_, (), rfl, rfl, by show va_P (dC, dI) vwCl _ t.heap; rw [ht]; exact hP⟩, hS.F ht⟩) hS.2.2 hd B.notSynchronized) hl
