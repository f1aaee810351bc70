theorem inn_X7_layBehind_X7 : ∀ w ∈ wsX70, w ∈ wsX7_layBehind := fun _ h => List.mem_cons_of_mem _ (List.mem_append_right _ h)
abbrev wd_X7_layBehind (h0 h_w h_word h_ahead h_behind h_restM h_restN h_powerM h_powerN h_row : Nat) (c_w c_behind c_restM c_restN : ClassId) (v_known : Int32) (v_kept : Int32) (v_size : Int32) (v_high : Int32) (v_behindMany : Int32) (v_ends : Int32) (v_lead : Int32) (v_round : Int32) (v_worthM : Int64) (v_worthN : Int64) (v_w : (Nat → Int32)) (v_behind : (Nat → Int32)) (v_restM : (Nat → Int64)) (v_restN : (Nat → Int64)) : va_W := [(h0, .inr (7, [.ref h_w, .int v_known, .int v_kept, .ref h_word, .int v_size, .ref h_ahead, .int v_high, .ref h_behind, .int v_behindMany, .ref h_restM, .ref h_restN, .ref h_powerM, .ref h_powerN, .int v_ends, .int v_lead, .int v_round, .ref h_row, .long v_worthM, .long v_worthN])), (h_w, .inl (c_w, 110, .inl v_w)), (h_behind, .inl (c_behind, 40, .inl v_behind)), (h_restM, .inl (c_restM, 41, .inr (.inl v_restM))), (h_restN, .inl (c_restN, 41, .inr (.inl v_restN)))]
abbrev rm_X7_layBehind : Room := { frames := 2, cells := 0, slots := 0, locals := 54 }
def F_X7_layBehind_84 (kk_24 : Int32 → Int32 → Int32 → Int32 → Int32 → Int32 → (Nat → Int32) → (Nat → Int64) → (Nat → Int64) → Option (Int32 × Int32 × Int32 × Int32 × (Nat → Int32) × (Nat → Int64) × (Nat → Int64))) (v_w : (Nat → Int32)) (x2 : Int32) (v_behindMany : Int32) (v_ends : Int32) (v_lead : Int32) (v_round : Int32) (v_behind : (Nat → Int32)) (v_restM : (Nat → Int64)) (v_restN : (Nat → Int64)) (s0 : Int32) : Option (Int32 × Int32 × Int32 × Int32 × (Nat → Int32) × (Nat → Int64) × (Nat → Int64)) := (if (40 : Int32) ≤ x2 then (kk_24 s0 (x2 + (1 : Int32)) v_behindMany v_ends v_lead v_round v_behind v_restM v_restN) else (ck x2 41 ((F_X7_wholeOf ((v_restN x2.toNatClampNeg) * (v_w (1 : Int32).toNatClampNeg).toInt64) ((v_restM x2.toNatClampNeg) + ((v_restN x2.toNatClampNeg) * (v_w (0 : Int32).toNatClampNeg).toInt64)) v_w).bind fun o_3 => (ck x2 40 (ck (x2 + (1 : Int32)) 41 (kk_24 s0 (x2 + (1 : Int32)) (x2 + (1 : Int32)) v_ends v_lead v_round (upd v_behind x2.toNatClampNeg o_3.toInt32) (vp_updL v_restM (x2 + (1 : Int32)).toNatClampNeg (((v_restN x2.toNatClampNeg) * (v_w (1 : Int32).toNatClampNeg).toInt64) - o_3)) (vp_updL v_restN (x2 + (1 : Int32)).toNatClampNeg ((v_restM x2.toNatClampNeg) + ((v_restN x2.toNatClampNeg) * (v_w (0 : Int32).toNatClampNeg).toInt64)))))))))
def F_X7_layBehind_24 (v_w : (Nat → Int32)) : Nat → Int32 → Int32 → Int32 → Int32 → Int32 → Int32 → (Nat → Int32) → (Nat → Int64) → (Nat → Int64) → Option (Int32 × Int32 × Int32 × Int32 × (Nat → Int32) × (Nat → Int64) × (Nat → Int64))
  | 0, _, _, _, _, _, _, _, _, _ => none
  | fu + 1, x1, x2, v_behindMany, v_ends, v_lead, v_round, v_behind, v_restM, v_restN => (if (40 : Int32) < x2 then (some (v_behindMany, v_ends, v_lead, v_round, v_behind, v_restM, v_restN)) else (if v_ends = 0 then (ck x2 41 (if (lg_cmp (v_restM x2.toNatClampNeg) (0 : Int64)) = 0 then (if (lg_cmp (v_restN x2.toNatClampNeg) (0 : Int64)) = 0 then (F_X7_layBehind_24 v_w fu x1 (x2 + (1 : Int32)) v_behindMany (1 : Int32) v_lead v_round v_behind v_restM v_restN) else (if x1 = 0 then (F_X7_layBehind_84 (F_X7_layBehind_24 v_w fu) v_w x2 v_behindMany v_ends v_lead v_round v_behind v_restM v_restN (0 : Int32)) else ((F_X7_wasAhead x2 v_lead v_round v_restM v_restN).bind fun o_15 => (if o_15.1 = 0 then (F_X7_layBehind_84 (F_X7_layBehind_24 v_w fu) v_w x2 v_behindMany v_ends o_15.2.1 o_15.2.2 v_behind v_restM v_restN (1 : Int32)) else (F_X7_layBehind_84 (F_X7_layBehind_24 v_w fu) v_w x2 v_behindMany v_ends o_15.2.1 o_15.2.2 v_behind v_restM v_restN (0 : Int32)))))) else (if x1 = 0 then (F_X7_layBehind_84 (F_X7_layBehind_24 v_w fu) v_w x2 v_behindMany v_ends v_lead v_round v_behind v_restM v_restN (0 : Int32)) else ((F_X7_wasAhead x2 v_lead v_round v_restM v_restN).bind fun o_11 => (if o_11.1 = 0 then (F_X7_layBehind_84 (F_X7_layBehind_24 v_w fu) v_w x2 v_behindMany v_ends o_11.2.1 o_11.2.2 v_behind v_restM v_restN (1 : Int32)) else (F_X7_layBehind_84 (F_X7_layBehind_24 v_w fu) v_w x2 v_behindMany v_ends o_11.2.1 o_11.2.2 v_behind v_restM v_restN (0 : Int32))))))) else (some (v_behindMany, v_ends, v_lead, v_round, v_behind, v_restM, v_restN))))
def F_X7_layBehind (v_w : (Nat → Int32)) (v_behind : (Nat → Int32)) (v_restM : (Nat → Int64)) (v_restN : (Nat → Int64)) : Option (Int32 × Int32 × Int32 × Int32 × (Nat → Int32) × (Nat → Int64) × (Nat → Int64)) := (F_X7_layBehind_24  v_w 128 (1 : Int32) (0 : Int32) (0 : Int32) (0 : Int32) (-1 : Int32) (-1 : Int32) v_behind v_restM v_restN)
set_option maxRecDepth 100000 in
set_option maxHeartbeats 4000000 in
theorem b_X7_layBehind {p : Program} {l : Launch} {e : Env} {s : State} {m : MethodId} {args : Array Value} {below : List Frame} {meth : Method} {c : Code} {Q : State → Prop} {dC : Nat → ClassId} {dI : Nat → Nat → Nat} {H : Heap} {locs : List Loc} {ls : Array Slot} {A : Nat → Prop} (h0 h_w h_word h_ahead h_behind h_restM h_restN h_powerM h_powerN h_row : Nat) (c_w c_behind c_restM c_restN : ClassId) (v_known : Int32) (v_kept : Int32) (v_size : Int32) (v_high : Int32) (v_behindMany : Int32) (v_ends : Int32) (v_lead : Int32) (v_round : Int32) (v_worthM : Int64) (v_worthN : Int64) (v_w : (Nat → Int32)) (v_behind : (Nat → Int32)) (v_restM : (Nat → Int64)) (v_restN : (Nat → Int64)) (ou0 : Int32) (ou1 : Int32) (ou2 : Int32) (ou3 : Int32) (ou4 : (Nat → Int32)) (ou5 : (Nat → Int64)) (ou6 : (Nat → Int64)) (hF : F_X7_layBehind v_w v_behind v_restM v_restN = some (ou0, ou1, ou2, ou3, ou4, ou5, ou6)) (hC : CallFix p m c cX7_layBehind 9 s args wsX7_layBehind RX7) (hN : NW s) (hK : va_K (dC, dI) vwCl [(c_w, .int), (c_behind, .int), (c_restM, .long), (c_restN, .long)] s) (hP : va_P (dC, dI) vwCl (wd_X7_layBehind h0 h_w h_word h_ahead h_behind h_restM h_restN h_powerM h_powerN h_row c_w c_behind c_restM c_restN v_known v_kept v_size v_high v_behindMany v_ends v_lead v_round v_worthM v_worthN v_w v_behind v_restM v_restN) H) (hA : ∀ q, s.heap.size ≤ q → A q) (hD : va_D A (wd_X7_layBehind h0 h_w h_word h_ahead h_behind h_restM h_restN h_powerM h_powerN h_row c_w c_behind c_restM c_restN v_known v_kept v_size v_high v_behindMany v_ends v_lead v_round v_worthM v_worthN v_w v_behind v_restM v_restN)) (hS : va_S A s.heap H locs) (hE : ∀ (H : Heap) (locs : List Loc) (ls : Array Slot) (pc : Nat), va_P (dC, dI) vwCl (wd_X7_layBehind h0 h_w h_word h_ahead h_behind h_restM h_restN h_powerM h_powerN h_row c_w c_behind c_restM c_restN v_known v_kept v_size v_high ou0 ou1 ou2 ou3 v_worthM v_worthN v_w ou4 ou5 ou6) H → va_S A s.heap H locs → decode cX7_layBehind pc = .ok (.return_, 1) → W p l e rm_X7_layBehind s m args below meth c H locs 0 0 Q (F0 m pc ls [])) (hl : lv_has ls 9 [(0, .ref h0)]) : W p l e rm_X7_layBehind s m args below meth c H locs 0 0 Q (F0 m 0 ls []) := by
  obtain ⟨hx, hb, hml, hown, hts⟩ := id hC
  have hD0 := hD
  unfold F_X7_layBehind at hF
  have k_24 : ∀ (fu_24 : Nat) (x1 : Int32) (x2 : Int32) (v_behindMany : Int32) (v_ends : Int32) (v_lead : Int32) (v_round : Int32) (v_behind : (Nat → Int32)) (v_restM : (Nat → Int64)) (v_restN : (Nat → Int64)), F_X7_layBehind_24  v_w fu_24 x1 x2 v_behindMany v_ends v_lead v_round v_behind v_restM v_restN = some (ou0, ou1, ou2, ou3, ou4, ou5, ou6) → ∀ (H : Heap) (locs : List Loc), va_P (dC, dI) vwCl (wd_X7_layBehind h0 h_w h_word h_ahead h_behind h_restM h_restN h_powerM h_powerN h_row c_w c_behind c_restM c_restN v_known v_kept v_size v_high v_behindMany v_ends v_lead v_round v_worthM v_worthN v_w v_behind v_restM v_restN) H → va_S A s.heap H locs → ∀ ls : Array Slot, lv_has ls 9 [(0, .ref h0), (1, .int x1), (2, .int x2)] → W p l e rm_X7_layBehind s m args below meth c H locs 0 0 Q (F0 m 24 ls []) := by
    intro fu_24
    induction fu_24 with
    | zero => intro x1 x2 v_behindMany v_ends v_lead v_round v_behind v_restM v_restN hF; rw [F_X7_layBehind_24] at hF; cases hF
    | succ fu_24 ih =>
      intro x1 x2 v_behindMany v_ends v_lead v_round v_behind v_restM v_restN hF H locs hP hS ls hl
      rw [F_X7_layBehind_24] at hF
      have ih_24 := ih
      have hD : va_D A (wd_X7_layBehind h0 h_w h_word h_ahead h_behind h_restM h_restN h_powerM h_powerN h_row c_w c_behind c_restM c_restN v_known v_kept v_size v_high v_behindMany v_ends v_lead v_round v_worthM v_worthN v_w v_behind v_restM v_restN) := hD0.re rfl
      have k_84 : ∀ (x2 : Int32) (v_behindMany : Int32) (v_ends : Int32) (v_lead : Int32) (v_round : Int32) (v_behind : (Nat → Int32)) (v_restM : (Nat → Int64)) (v_restN : (Nat → Int64)) (s0 : Int32), F_X7_layBehind_84 (F_X7_layBehind_24  v_w fu_24) v_w x2 v_behindMany v_ends v_lead v_round v_behind v_restM v_restN s0 = some (ou0, ou1, ou2, ou3, ou4, ou5, ou6) → ∀ (H : Heap) (locs : List Loc), va_P (dC, dI) vwCl (wd_X7_layBehind h0 h_w h_word h_ahead h_behind h_restM h_restN h_powerM h_powerN h_row c_w c_behind c_restM c_restN v_known v_kept v_size v_high v_behindMany v_ends v_lead v_round v_worthM v_worthN v_w v_behind v_restM v_restN) H → va_S A s.heap H locs → ∀ ls : Array Slot, lv_has ls 9 [(0, .ref h0), (2, .int x2)] → W p l e rm_X7_layBehind s m args below meth c H locs 0 0 Q (F0 m 84 ls [.int s0]) := by
        intro x2 v_behindMany v_ends v_lead v_round v_behind v_restM v_restN s0 hF H locs hP hS ls hl
        rw [F_X7_layBehind_84] at hF
        have hD : va_D A (wd_X7_layBehind h0 h_w h_word h_ahead h_behind h_restM h_restN h_powerM h_powerN h_row c_w c_behind c_restM c_restN v_known v_kept v_size v_high v_behindMany v_ends v_lead v_round v_worthM v_worthN v_w v_behind v_restM v_restN) := hD0.re rfl
        refine lv_istore_n (lv' := [(1, .int s0), (0, .ref h0), (2, .int x2)]) hx hb dX7_layBehind_84 rfl hl (by decide) rfl (fun ls hl => ?_)
        refine lv_iload_n hx hb dX7_layBehind_85 rfl (lv_at hl 2 rfl) ?_
        refine lv_bipush (v := (40 : Int32)) hx hb dX7_layBehind_86 (by decide) ?_
        refine lv_icmp_ge (tgt := 176) hx hb dX7_layBehind_88 (by decide) (fun g_1 => ?_) (fun g_1 => ?_)
        · replace hF := ite_t g_1 hF
          refine lv_iinc (v := (x2 + (1 : Int32))) (lv' := [(2, .int (x2 + (1 : Int32))), (1, .int s0), (0, .ref h0)]) hx hb dX7_layBehind_176 hl (k := 2) rfl rfl (by decide) rfl (fun ls hl => ?_)
          refine lv_goto (tgt := 24) hx hb dX7_layBehind_179 (by decide) ?_
          exact ih_24 s0 (x2 + (1 : Int32)) v_behindMany v_ends v_lead v_round v_behind v_restM v_restN hF H locs hP hS ls (lv_sub hl [2, 1, 0] rfl)
        · replace hF := ite_f g_1 hF
          refine lv_aload_n hx hb dX7_layBehind_91 rfl (lv_at hl 1 rfl) ?_
          refine va_get (D := (dC, dI)) (ci := 7) (v := .ref h_restN) (C := RX7) (T := TX7) (N := 19) hx hb hts inn_X7_layBehind_X7 hown hK hP 0 rfl rfl 10 (by decide) (hts (.fieldLink RX7 26 "RingBasesModel" "restN" "[J") (List.mem_of_getElem? (i := 6) rfl)) (fun _ h9 => h9) rfl dX7_layBehind_92 ?_
          refine lv_iload_n hx hb dX7_layBehind_95 rfl (lv_at hl 2 rfl) ?_
          obtain ⟨i_2, hF⟩ := ck_s hF
          refine va_lald hx hb hK hP 4 3 rfl rfl i_2 dX7_layBehind_96 ?_
          refine lv_aload_n hx hb dX7_layBehind_97 rfl (lv_at hl 1 rfl) ?_
          refine va_get (D := (dC, dI)) (ci := 7) (v := .ref h_w) (C := RX7) (T := TX7) (N := 19) hx hb hts inn_X7_layBehind_X7 hown hK hP 0 rfl rfl 0 (by decide) (hts (.fieldLink RX7 7 "RingBasesModel" "w" "[I") (List.mem_of_getElem? (i := 7) rfl)) (fun _ h9 => h9) rfl dX7_layBehind_98 ?_
          refine lv_iconst (v := (1 : Int32)) hx hb dX7_layBehind_101 (by decide) ?_
          refine va_iald hx hb hK hP 1 0 rfl rfl (by unfold vp_in; decide) dX7_layBehind_102 ?_
          refine lv_i2l hx hb dX7_layBehind_103 rfl ?_
          refine lv_lmul hx hb dX7_layBehind_104 ?_
          refine lv_lstore_n (lv' := [(3, .long ((v_restN x2.toNatClampNeg) * (v_w (1 : Int32).toNatClampNeg).toInt64)), (1, .int s0), (0, .ref h0), (2, .int x2)]) hx hb dX7_layBehind_105 rfl hl (by decide) rfl (fun ls hl => ?_)
          refine lv_aload_n hx hb dX7_layBehind_106 rfl (lv_at hl 2 rfl) ?_
          refine va_get (D := (dC, dI)) (ci := 7) (v := .ref h_restM) (C := RX7) (T := TX7) (N := 19) hx hb hts inn_X7_layBehind_X7 hown hK hP 0 rfl rfl 9 (by decide) (hts (.fieldLink RX7 22 "RingBasesModel" "restM" "[J") (List.mem_of_getElem? (i := 5) rfl)) (fun _ h9 => h9) rfl dX7_layBehind_107 ?_
          refine lv_iload_n hx hb dX7_layBehind_110 rfl (lv_at hl 3 rfl) ?_
          refine va_lald hx hb hK hP 3 2 rfl rfl i_2 dX7_layBehind_111 ?_
          refine lv_aload_n hx hb dX7_layBehind_112 rfl (lv_at hl 2 rfl) ?_
          refine va_get (D := (dC, dI)) (ci := 7) (v := .ref h_restN) (C := RX7) (T := TX7) (N := 19) hx hb hts inn_X7_layBehind_X7 hown hK hP 0 rfl rfl 10 (by decide) (hts (.fieldLink RX7 26 "RingBasesModel" "restN" "[J") (List.mem_of_getElem? (i := 6) rfl)) (fun _ h9 => h9) rfl dX7_layBehind_113 ?_
          refine lv_iload_n hx hb dX7_layBehind_116 rfl (lv_at hl 3 rfl) ?_
          refine va_lald hx hb hK hP 4 3 rfl rfl i_2 dX7_layBehind_117 ?_
          refine lv_aload_n hx hb dX7_layBehind_118 rfl (lv_at hl 2 rfl) ?_
          refine va_get (D := (dC, dI)) (ci := 7) (v := .ref h_w) (C := RX7) (T := TX7) (N := 19) hx hb hts inn_X7_layBehind_X7 hown hK hP 0 rfl rfl 0 (by decide) (hts (.fieldLink RX7 7 "RingBasesModel" "w" "[I") (List.mem_of_getElem? (i := 7) rfl)) (fun _ h9 => h9) rfl dX7_layBehind_119 ?_
          refine lv_iconst (v := (0 : Int32)) hx hb dX7_layBehind_122 (by decide) ?_
          refine va_iald hx hb hK hP 1 0 rfl rfl (by unfold vp_in; decide) dX7_layBehind_123 ?_
          refine lv_i2l hx hb dX7_layBehind_124 rfl ?_
          refine lv_lmul hx hb dX7_layBehind_125 ?_
          refine lv_ladd hx hb dX7_layBehind_126 ?_
          refine lv_lstore (lv' := [(5, .long ((v_restM x2.toNatClampNeg) + ((v_restN x2.toNatClampNeg) * (v_w (0 : Int32).toNatClampNeg).toInt64))), (3, .long ((v_restN x2.toNatClampNeg) * (v_w (1 : Int32).toNatClampNeg).toInt64)), (1, .int s0), (0, .ref h0), (2, .int x2)]) hx hb dX7_layBehind_127 hl (by decide) rfl (fun ls hl => ?_)
          refine lv_aload_n hx hb dX7_layBehind_129 rfl (lv_at hl 3 rfl) ?_
          refine lv_lload_n hx hb dX7_layBehind_130 rfl (lv_at hl 1 rfl) ?_
          refine lv_lload hx hb dX7_layBehind_131 (lv_at hl 0 rfl) ?_
          obtain ⟨o_3, hc_o_3, hF⟩ := bd_s hF
          refine rdVl (As := [.long ((v_restN x2.toNatClampNeg) * (v_w (1 : Int32).toNatClampNeg).toInt64), .long ((v_restM x2.toNatClampNeg) + ((v_restN x2.toNatClampNeg) * (v_w (0 : Int32).toNatClampNeg).toInt64))]) (rest := []) (b := h0) hC (c_X7_wholeOf l dC dI h0 h_w h_word h_ahead h_behind h_restM h_restN h_powerM h_powerN h_row c_w v_known v_kept v_size v_high v_behindMany v_ends v_lead v_round v_worthM v_worthN v_w ((v_restN x2.toNatClampNeg) * (v_w (1 : Int32).toNatClampNeg).toInt64) ((v_restM x2.toNatClampNeg) + ((v_restN x2.toNatClampNeg) * (v_w (0 : Int32).toNatClampNeg).toInt64)) o_3 hc_o_3) (cwV 2 hts gX7_layBehind_X7_wholeOf rfl rfl rfl (by decide +kernel) ⟨Nat.le_of_ble_eq_true rfl, Nat.le_of_ble_eq_true rfl⟩) hN (hK.sub (tys' := [(c_w, .int)]) [0] rfl) (hP.sub (ws' := (wd_X7_wholeOf h0 h_w h_word h_ahead h_behind h_restM h_restN h_powerM h_powerN h_row c_w v_known v_kept v_size v_high v_behindMany v_ends v_lead v_round v_worthM v_worthN v_w)) [0, 1] rfl) 0 7 rfl rfl rfl rfl hl.1 (Nat.le_of_ble_eq_true rfl) dX7_layBehind_133 ⟨Nat.zero_le _, Nat.zero_le _⟩ ?_
          refine lv_lstore (lv' := [(7, .long o_3), (5, .long ((v_restM x2.toNatClampNeg) + ((v_restN x2.toNatClampNeg) * (v_w (0 : Int32).toNatClampNeg).toInt64))), (3, .long ((v_restN x2.toNatClampNeg) * (v_w (1 : Int32).toNatClampNeg).toInt64)), (1, .int s0), (0, .ref h0), (2, .int x2)]) hx hb dX7_layBehind_136 hl (by decide) rfl (fun ls hl => ?_)
          refine lv_aload_n hx hb dX7_layBehind_138 rfl (lv_at hl 4 rfl) ?_
          refine va_get (D := (dC, dI)) (ci := 7) (v := .ref h_behind) (C := RX7) (T := TX7) (N := 19) hx hb hts inn_X7_layBehind_X7 hown hK hP 0 rfl rfl 7 (by decide) (hts (.fieldLink RX7 19 "RingBasesModel" "behind" "[I") (List.mem_of_getElem? (i := 8) rfl)) (fun _ h9 => h9) rfl dX7_layBehind_139 ?_
          refine lv_iload_n hx hb dX7_layBehind_142 rfl (lv_at hl 5 rfl) ?_
          refine lv_lload hx hb dX7_layBehind_143 (lv_at hl 0 rfl) ?_
          refine lv_l2i hx hb dX7_layBehind_145 rfl ?_
          obtain ⟨i_4, hF⟩ := ck_s hF
          refine va_iast hx hb hK hP hD hS 2 1 rfl rfl i_4 dX7_layBehind_146 (fun H locs hP hD hS => ?_)
          have hP : va_P (dC, dI) vwCl (wd_X7_layBehind h0 h_w h_word h_ahead h_behind h_restM h_restN h_powerM h_powerN h_row c_w c_behind c_restM c_restN v_known v_kept v_size v_high v_behindMany v_ends v_lead v_round v_worthM v_worthN v_w (upd v_behind x2.toNatClampNeg o_3.toInt32) v_restM v_restN) H := hP
          have hD : va_D A (wd_X7_layBehind h0 h_w h_word h_ahead h_behind h_restM h_restN h_powerM h_powerN h_row c_w c_behind c_restM c_restN v_known v_kept v_size v_high v_behindMany v_ends v_lead v_round v_worthM v_worthN v_w (upd v_behind x2.toNatClampNeg o_3.toInt32) v_restM v_restN) := hD
          refine lv_aload_n hx hb dX7_layBehind_147 rfl (lv_at hl 4 rfl) ?_
          refine va_get (D := (dC, dI)) (ci := 7) (v := .ref h_restM) (C := RX7) (T := TX7) (N := 19) hx hb hts inn_X7_layBehind_X7 hown hK hP 0 rfl rfl 9 (by decide) (hts (.fieldLink RX7 22 "RingBasesModel" "restM" "[J") (List.mem_of_getElem? (i := 5) rfl)) (fun _ h9 => h9) rfl dX7_layBehind_148 ?_
          refine lv_iload_n hx hb dX7_layBehind_151 rfl (lv_at hl 5 rfl) ?_
          refine lv_iconst (v := (1 : Int32)) hx hb dX7_layBehind_152 (by decide) ?_
          refine lv_iadd hx hb dX7_layBehind_153 ?_
          refine lv_lload_n hx hb dX7_layBehind_154 rfl (lv_at hl 2 rfl) ?_
          refine lv_lload hx hb dX7_layBehind_155 (lv_at hl 0 rfl) ?_
          refine lv_lsub hx hb dX7_layBehind_157 ?_
          obtain ⟨i_5, hF⟩ := ck_s hF
          refine va_last hx hb hK hP hD hS 3 2 rfl rfl i_5 dX7_layBehind_158 (fun H locs hP hD hS => ?_)
          have hP : va_P (dC, dI) vwCl (wd_X7_layBehind h0 h_w h_word h_ahead h_behind h_restM h_restN h_powerM h_powerN h_row c_w c_behind c_restM c_restN v_known v_kept v_size v_high v_behindMany v_ends v_lead v_round v_worthM v_worthN v_w (upd v_behind x2.toNatClampNeg o_3.toInt32) (vp_updL v_restM (x2 + (1 : Int32)).toNatClampNeg (((v_restN x2.toNatClampNeg) * (v_w (1 : Int32).toNatClampNeg).toInt64) - o_3)) v_restN) H := hP
          have hD : va_D A (wd_X7_layBehind h0 h_w h_word h_ahead h_behind h_restM h_restN h_powerM h_powerN h_row c_w c_behind c_restM c_restN v_known v_kept v_size v_high v_behindMany v_ends v_lead v_round v_worthM v_worthN v_w (upd v_behind x2.toNatClampNeg o_3.toInt32) (vp_updL v_restM (x2 + (1 : Int32)).toNatClampNeg (((v_restN x2.toNatClampNeg) * (v_w (1 : Int32).toNatClampNeg).toInt64) - o_3)) v_restN) := hD
          refine lv_aload_n hx hb dX7_layBehind_159 rfl (lv_at hl 4 rfl) ?_
          refine va_get (D := (dC, dI)) (ci := 7) (v := .ref h_restN) (C := RX7) (T := TX7) (N := 19) hx hb hts inn_X7_layBehind_X7 hown hK hP 0 rfl rfl 10 (by decide) (hts (.fieldLink RX7 26 "RingBasesModel" "restN" "[J") (List.mem_of_getElem? (i := 6) rfl)) (fun _ h9 => h9) rfl dX7_layBehind_160 ?_
          refine lv_iload_n hx hb dX7_layBehind_163 rfl (lv_at hl 5 rfl) ?_
          refine lv_iconst (v := (1 : Int32)) hx hb dX7_layBehind_164 (by decide) ?_
          refine lv_iadd hx hb dX7_layBehind_165 ?_
          refine lv_lload hx hb dX7_layBehind_166 (lv_at hl 1 rfl) ?_
          refine va_last hx hb hK hP hD hS 4 3 rfl rfl i_5 dX7_layBehind_168 (fun H locs hP hD hS => ?_)
          have hP : va_P (dC, dI) vwCl (wd_X7_layBehind h0 h_w h_word h_ahead h_behind h_restM h_restN h_powerM h_powerN h_row c_w c_behind c_restM c_restN v_known v_kept v_size v_high v_behindMany v_ends v_lead v_round v_worthM v_worthN v_w (upd v_behind x2.toNatClampNeg o_3.toInt32) (vp_updL v_restM (x2 + (1 : Int32)).toNatClampNeg (((v_restN x2.toNatClampNeg) * (v_w (1 : Int32).toNatClampNeg).toInt64) - o_3)) (vp_updL v_restN (x2 + (1 : Int32)).toNatClampNeg ((v_restM x2.toNatClampNeg) + ((v_restN x2.toNatClampNeg) * (v_w (0 : Int32).toNatClampNeg).toInt64)))) H := hP
          have hD : va_D A (wd_X7_layBehind h0 h_w h_word h_ahead h_behind h_restM h_restN h_powerM h_powerN h_row c_w c_behind c_restM c_restN v_known v_kept v_size v_high v_behindMany v_ends v_lead v_round v_worthM v_worthN v_w (upd v_behind x2.toNatClampNeg o_3.toInt32) (vp_updL v_restM (x2 + (1 : Int32)).toNatClampNeg (((v_restN x2.toNatClampNeg) * (v_w (1 : Int32).toNatClampNeg).toInt64) - o_3)) (vp_updL v_restN (x2 + (1 : Int32)).toNatClampNeg ((v_restM x2.toNatClampNeg) + ((v_restN x2.toNatClampNeg) * (v_w (0 : Int32).toNatClampNeg).toInt64)))) := hD
          refine lv_aload_n hx hb dX7_layBehind_169 rfl (lv_at hl 4 rfl) ?_
          refine lv_iload_n hx hb dX7_layBehind_170 rfl (lv_at hl 5 rfl) ?_
          refine lv_iconst (v := (1 : Int32)) hx hb dX7_layBehind_171 (by decide) ?_
          refine lv_iadd hx hb dX7_layBehind_172 ?_
          refine va_put (D := (dC, dI)) (ty := .int) (ci := 7) (v := .int (x2 + (1 : Int32))) (C := RX7) (T := TX7) (N := 19) hx hb hts inn_X7_layBehind_X7 tyX7 tyX7_ok nmX7 hown hK hP hD hS 0 rfl rfl 8 (by decide) (hts (.fieldLink RX7 78 "RingBasesModel" "behindMany" "I") (List.mem_of_getElem? (i := 1) rfl)) (fun _ h9 => h9) rfl (by decide +kernel) rfl rfl (Nat.le_of_ble_eq_true rfl) dX7_layBehind_173 (fun H locs hP hD hS => ?_)
          have hP : va_P (dC, dI) vwCl (wd_X7_layBehind h0 h_w h_word h_ahead h_behind h_restM h_restN h_powerM h_powerN h_row c_w c_behind c_restM c_restN v_known v_kept v_size v_high (x2 + (1 : Int32)) v_ends v_lead v_round v_worthM v_worthN v_w (upd v_behind x2.toNatClampNeg o_3.toInt32) (vp_updL v_restM (x2 + (1 : Int32)).toNatClampNeg (((v_restN x2.toNatClampNeg) * (v_w (1 : Int32).toNatClampNeg).toInt64) - o_3)) (vp_updL v_restN (x2 + (1 : Int32)).toNatClampNeg ((v_restM x2.toNatClampNeg) + ((v_restN x2.toNatClampNeg) * (v_w (0 : Int32).toNatClampNeg).toInt64)))) H := hP
          have hD : va_D A (wd_X7_layBehind h0 h_w h_word h_ahead h_behind h_restM h_restN h_powerM h_powerN h_row c_w c_behind c_restM c_restN v_known v_kept v_size v_high (x2 + (1 : Int32)) v_ends v_lead v_round v_worthM v_worthN v_w (upd v_behind x2.toNatClampNeg o_3.toInt32) (vp_updL v_restM (x2 + (1 : Int32)).toNatClampNeg (((v_restN x2.toNatClampNeg) * (v_w (1 : Int32).toNatClampNeg).toInt64) - o_3)) (vp_updL v_restN (x2 + (1 : Int32)).toNatClampNeg ((v_restM x2.toNatClampNeg) + ((v_restN x2.toNatClampNeg) * (v_w (0 : Int32).toNatClampNeg).toInt64)))) := hD
          refine lv_iinc (v := (x2 + (1 : Int32))) (lv' := [(2, .int (x2 + (1 : Int32))), (7, .long o_3), (5, .long ((v_restM x2.toNatClampNeg) + ((v_restN x2.toNatClampNeg) * (v_w (0 : Int32).toNatClampNeg).toInt64))), (3, .long ((v_restN x2.toNatClampNeg) * (v_w (1 : Int32).toNatClampNeg).toInt64)), (1, .int s0), (0, .ref h0)]) hx hb dX7_layBehind_176 hl (k := 5) rfl rfl (by decide) rfl (fun ls hl => ?_)
          refine lv_goto (tgt := 24) hx hb dX7_layBehind_179 (by decide) ?_
          exact ih_24 s0 (x2 + (1 : Int32)) (x2 + (1 : Int32)) v_ends v_lead v_round (upd v_behind x2.toNatClampNeg o_3.toInt32) (vp_updL v_restM (x2 + (1 : Int32)).toNatClampNeg (((v_restN x2.toNatClampNeg) * (v_w (1 : Int32).toNatClampNeg).toInt64) - o_3)) (vp_updL v_restN (x2 + (1 : Int32)).toNatClampNeg ((v_restM x2.toNatClampNeg) + ((v_restN x2.toNatClampNeg) * (v_w (0 : Int32).toNatClampNeg).toInt64))) hF H locs hP hS ls (lv_sub hl [5, 4, 0] rfl)
      refine lv_iload_n hx hb dX7_layBehind_24 rfl (lv_at hl 2 rfl) ?_
      refine lv_bipush (v := (40 : Int32)) hx hb dX7_layBehind_25 (by decide) ?_
      refine lv_icmp_gt (tgt := 182) hx hb dX7_layBehind_27 (by decide) (fun g_6 => ?_) (fun g_6 => ?_)
      · replace hF := ite_t g_6 hF
        obtain ⟨rfl, rfl, rfl, rfl, rfl, rfl, rfl⟩ := oks7 hF; exact hE _ _ _ _ hP hS dX7_layBehind_182
      · replace hF := ite_f g_6 hF
        refine lv_aload_n hx hb dX7_layBehind_30 rfl (lv_at hl 0 rfl) ?_
        refine va_get (D := (dC, dI)) (ci := 7) (v := .int v_ends) (C := RX7) (T := TX7) (N := 19) hx hb hts inn_X7_layBehind_X7 hown hK hP 0 rfl rfl 13 (by decide) (hts (.fieldLink RX7 81 "RingBasesModel" "ends" "I") (List.mem_of_getElem? (i := 2) rfl)) (fun _ h9 => h9) rfl dX7_layBehind_31 ?_
        refine lv_if_ne (tgt := 182) hx hb dX7_layBehind_34 (by decide) (fun g_7 => ?_) (fun g_7 => ?_)
        · replace hF := ite_f g_7 hF
          obtain ⟨rfl, rfl, rfl, rfl, rfl, rfl, rfl⟩ := oks7 hF; exact hE _ _ _ _ hP hS dX7_layBehind_182
        · replace hF := ite_t g_7 hF
          refine lv_aload_n hx hb dX7_layBehind_37 rfl (lv_at hl 0 rfl) ?_
          refine va_get (D := (dC, dI)) (ci := 7) (v := .ref h_restM) (C := RX7) (T := TX7) (N := 19) hx hb hts inn_X7_layBehind_X7 hown hK hP 0 rfl rfl 9 (by decide) (hts (.fieldLink RX7 22 "RingBasesModel" "restM" "[J") (List.mem_of_getElem? (i := 5) rfl)) (fun _ h9 => h9) rfl dX7_layBehind_38 ?_
          refine lv_iload_n hx hb dX7_layBehind_41 rfl (lv_at hl 2 rfl) ?_
          obtain ⟨i_8, hF⟩ := ck_s hF
          refine va_lald hx hb hK hP 3 2 rfl rfl i_8 dX7_layBehind_42 ?_
          refine lv_lconst (v := (0 : Int64)) hx hb dX7_layBehind_43 (by decide) ?_
          refine W.lcmp hx hb dX7_layBehind_44 ?_
          refine lv_if_ne (tgt := 67) hx hb dX7_layBehind_45 (by decide) (fun g_9 => ?_) (fun g_9 => ?_)
          · replace hF := ite_f g_9 hF
            refine lv_iload_n hx hb dX7_layBehind_67 rfl (lv_at hl 1 rfl) ?_
            refine lv_if_eq (tgt := 83) hx hb dX7_layBehind_68 (by decide) (fun g_10 => ?_) (fun g_10 => ?_)
            · replace hF := ite_t g_10 hF
              refine lv_iconst (v := (0 : Int32)) hx hb dX7_layBehind_83 (by decide) ?_
              exact k_84 x2 v_behindMany v_ends v_lead v_round v_behind v_restM v_restN (0 : Int32) hF H locs hP hS ls (lv_sub hl [0, 2] rfl)
            · replace hF := ite_f g_10 hF
              refine lv_aload_n hx hb dX7_layBehind_71 rfl (lv_at hl 0 rfl) ?_
              refine lv_iload_n hx hb dX7_layBehind_72 rfl (lv_at hl 2 rfl) ?_
              obtain ⟨o_11, hc_o_11, hF⟩ := bd_s hF
              refine wrVi (o := o_11.1) (wc' := (wd_X7_wasAhead h0 h_w h_word h_ahead h_behind h_restM h_restN h_powerM h_powerN h_row c_restM c_restN v_known v_kept v_size v_high v_behindMany v_ends o_11.2.1 o_11.2.2 v_worthM v_worthN v_restM v_restN)) (As := [.int x2]) (rest := []) (b := h0) hC (c_X7_wasAhead l dC dI H.size h0 h_w h_word h_ahead h_behind h_restM h_restN h_powerM h_powerN h_row c_restM c_restN v_known v_kept v_size v_high v_behindMany v_ends v_lead v_round v_worthM v_worthN v_restM v_restN x2 o_11 hc_o_11) (cwV 1 hts gX7_layBehind_X7_wasAhead rfl rfl rfl (by decide +kernel) ⟨Nat.le_of_ble_eq_true rfl, Nat.le_of_ble_eq_true rfl⟩) hN (hK.sub (tys' := [(c_restM, .long), (c_restN, .long)]) [2, 3] rfl) hP hD hS hA [0, 3, 4] rfl rfl rfl rfl 0 7 rfl rfl rfl rfl hl.1 (Nat.le_of_ble_eq_true rfl) dX7_layBehind_73 ⟨Nat.zero_le _, Nat.zero_le _⟩ (fun H locs hP hS => ?_)
              have hP : va_P (dC, dI) vwCl (wd_X7_layBehind h0 h_w h_word h_ahead h_behind h_restM h_restN h_powerM h_powerN h_row c_w c_behind c_restM c_restN v_known v_kept v_size v_high v_behindMany v_ends o_11.2.1 o_11.2.2 v_worthM v_worthN v_w v_behind v_restM v_restN) H := hP
              have hD : va_D A (wd_X7_layBehind h0 h_w h_word h_ahead h_behind h_restM h_restN h_powerM h_powerN h_row c_w c_behind c_restM c_restN v_known v_kept v_size v_high v_behindMany v_ends o_11.2.1 o_11.2.2 v_worthM v_worthN v_w v_behind v_restM v_restN) := va_D.re hD rfl
              refine lv_if_ne (tgt := 83) hx hb dX7_layBehind_76 (by decide) (fun g_12 => ?_) (fun g_12 => ?_)
              · replace hF := ite_f g_12 hF
                refine lv_iconst (v := (0 : Int32)) hx hb dX7_layBehind_83 (by decide) ?_
                exact k_84 x2 v_behindMany v_ends o_11.2.1 o_11.2.2 v_behind v_restM v_restN (0 : Int32) hF H locs hP hS ls (lv_sub hl [0, 2] rfl)
              · replace hF := ite_t g_12 hF
                refine lv_iconst (v := (1 : Int32)) hx hb dX7_layBehind_79 (by decide) ?_
                refine lv_goto (tgt := 84) hx hb dX7_layBehind_80 (by decide) ?_
                exact k_84 x2 v_behindMany v_ends o_11.2.1 o_11.2.2 v_behind v_restM v_restN (1 : Int32) hF H locs hP hS ls (lv_sub hl [0, 2] rfl)
          · replace hF := ite_t g_9 hF
            refine lv_aload_n hx hb dX7_layBehind_48 rfl (lv_at hl 0 rfl) ?_
            refine va_get (D := (dC, dI)) (ci := 7) (v := .ref h_restN) (C := RX7) (T := TX7) (N := 19) hx hb hts inn_X7_layBehind_X7 hown hK hP 0 rfl rfl 10 (by decide) (hts (.fieldLink RX7 26 "RingBasesModel" "restN" "[J") (List.mem_of_getElem? (i := 6) rfl)) (fun _ h9 => h9) rfl dX7_layBehind_49 ?_
            refine lv_iload_n hx hb dX7_layBehind_52 rfl (lv_at hl 2 rfl) ?_
            refine va_lald hx hb hK hP 4 3 rfl rfl i_8 dX7_layBehind_53 ?_
            refine lv_lconst (v := (0 : Int64)) hx hb dX7_layBehind_54 (by decide) ?_
            refine W.lcmp hx hb dX7_layBehind_55 ?_
            refine lv_if_ne (tgt := 67) hx hb dX7_layBehind_56 (by decide) (fun g_13 => ?_) (fun g_13 => ?_)
            · replace hF := ite_f g_13 hF
              refine lv_iload_n hx hb dX7_layBehind_67 rfl (lv_at hl 1 rfl) ?_
              refine lv_if_eq (tgt := 83) hx hb dX7_layBehind_68 (by decide) (fun g_14 => ?_) (fun g_14 => ?_)
              · replace hF := ite_t g_14 hF
                refine lv_iconst (v := (0 : Int32)) hx hb dX7_layBehind_83 (by decide) ?_
                exact k_84 x2 v_behindMany v_ends v_lead v_round v_behind v_restM v_restN (0 : Int32) hF H locs hP hS ls (lv_sub hl [0, 2] rfl)
              · replace hF := ite_f g_14 hF
                refine lv_aload_n hx hb dX7_layBehind_71 rfl (lv_at hl 0 rfl) ?_
                refine lv_iload_n hx hb dX7_layBehind_72 rfl (lv_at hl 2 rfl) ?_
                obtain ⟨o_15, hc_o_15, hF⟩ := bd_s hF
                refine wrVi (o := o_15.1) (wc' := (wd_X7_wasAhead h0 h_w h_word h_ahead h_behind h_restM h_restN h_powerM h_powerN h_row c_restM c_restN v_known v_kept v_size v_high v_behindMany v_ends o_15.2.1 o_15.2.2 v_worthM v_worthN v_restM v_restN)) (As := [.int x2]) (rest := []) (b := h0) hC (c_X7_wasAhead l dC dI H.size h0 h_w h_word h_ahead h_behind h_restM h_restN h_powerM h_powerN h_row c_restM c_restN v_known v_kept v_size v_high v_behindMany v_ends v_lead v_round v_worthM v_worthN v_restM v_restN x2 o_15 hc_o_15) (cwV 1 hts gX7_layBehind_X7_wasAhead rfl rfl rfl (by decide +kernel) ⟨Nat.le_of_ble_eq_true rfl, Nat.le_of_ble_eq_true rfl⟩) hN (hK.sub (tys' := [(c_restM, .long), (c_restN, .long)]) [2, 3] rfl) hP hD hS hA [0, 3, 4] rfl rfl rfl rfl 0 7 rfl rfl rfl rfl hl.1 (Nat.le_of_ble_eq_true rfl) dX7_layBehind_73 ⟨Nat.zero_le _, Nat.zero_le _⟩ (fun H locs hP hS => ?_)
                have hP : va_P (dC, dI) vwCl (wd_X7_layBehind h0 h_w h_word h_ahead h_behind h_restM h_restN h_powerM h_powerN h_row c_w c_behind c_restM c_restN v_known v_kept v_size v_high v_behindMany v_ends o_15.2.1 o_15.2.2 v_worthM v_worthN v_w v_behind v_restM v_restN) H := hP
                have hD : va_D A (wd_X7_layBehind h0 h_w h_word h_ahead h_behind h_restM h_restN h_powerM h_powerN h_row c_w c_behind c_restM c_restN v_known v_kept v_size v_high v_behindMany v_ends o_15.2.1 o_15.2.2 v_worthM v_worthN v_w v_behind v_restM v_restN) := va_D.re hD rfl
                refine lv_if_ne (tgt := 83) hx hb dX7_layBehind_76 (by decide) (fun g_16 => ?_) (fun g_16 => ?_)
                · replace hF := ite_f g_16 hF
                  refine lv_iconst (v := (0 : Int32)) hx hb dX7_layBehind_83 (by decide) ?_
                  exact k_84 x2 v_behindMany v_ends o_15.2.1 o_15.2.2 v_behind v_restM v_restN (0 : Int32) hF H locs hP hS ls (lv_sub hl [0, 2] rfl)
                · replace hF := ite_t g_16 hF
                  refine lv_iconst (v := (1 : Int32)) hx hb dX7_layBehind_79 (by decide) ?_
                  refine lv_goto (tgt := 84) hx hb dX7_layBehind_80 (by decide) ?_
                  exact k_84 x2 v_behindMany v_ends o_15.2.1 o_15.2.2 v_behind v_restM v_restN (1 : Int32) hF H locs hP hS ls (lv_sub hl [0, 2] rfl)
            · replace hF := ite_t g_13 hF
              refine lv_aload_n hx hb dX7_layBehind_59 rfl (lv_at hl 0 rfl) ?_
              refine lv_iconst (v := (1 : Int32)) hx hb dX7_layBehind_60 (by decide) ?_
              refine va_put (D := (dC, dI)) (ty := .int) (ci := 7) (v := .int (1 : Int32)) (C := RX7) (T := TX7) (N := 19) hx hb hts inn_X7_layBehind_X7 tyX7 tyX7_ok nmX7 hown hK hP hD hS 0 rfl rfl 13 (by decide) (hts (.fieldLink RX7 81 "RingBasesModel" "ends" "I") (List.mem_of_getElem? (i := 2) rfl)) (fun _ h9 => h9) rfl (by decide +kernel) rfl rfl (Nat.le_of_ble_eq_true rfl) dX7_layBehind_61 (fun H locs hP hD hS => ?_)
              have hP : va_P (dC, dI) vwCl (wd_X7_layBehind h0 h_w h_word h_ahead h_behind h_restM h_restN h_powerM h_powerN h_row c_w c_behind c_restM c_restN v_known v_kept v_size v_high v_behindMany (1 : Int32) v_lead v_round v_worthM v_worthN v_w v_behind v_restM v_restN) H := hP
              have hD : va_D A (wd_X7_layBehind h0 h_w h_word h_ahead h_behind h_restM h_restN h_powerM h_powerN h_row c_w c_behind c_restM c_restN v_known v_kept v_size v_high v_behindMany (1 : Int32) v_lead v_round v_worthM v_worthN v_w v_behind v_restM v_restN) := hD
              refine lv_goto (tgt := 176) hx hb dX7_layBehind_64 (by decide) ?_
              refine lv_iinc (v := (x2 + (1 : Int32))) (lv' := [(2, .int (x2 + (1 : Int32))), (0, .ref h0), (1, .int x1)]) hx hb dX7_layBehind_176 hl (k := 2) rfl rfl (by decide) rfl (fun ls hl => ?_)
              refine lv_goto (tgt := 24) hx hb dX7_layBehind_179 (by decide) ?_
              exact ih x1 (x2 + (1 : Int32)) v_behindMany (1 : Int32) v_lead v_round v_behind v_restM v_restN hF H locs hP hS ls (lv_sub hl [1, 2, 0] rfl)
  refine lv_iconst (v := (1 : Int32)) hx hb dX7_layBehind_0 (by decide) ?_
  refine lv_istore_n (lv' := [(1, .int (1 : Int32)), (0, .ref h0)]) hx hb dX7_layBehind_1 rfl hl (by decide) rfl (fun ls hl => ?_)
  refine lv_aload_n hx hb dX7_layBehind_2 rfl (lv_at hl 1 rfl) ?_
  refine lv_iconst (v := (0 : Int32)) hx hb dX7_layBehind_3 (by decide) ?_
  refine va_put (D := (dC, dI)) (ty := .int) (ci := 7) (v := .int (0 : Int32)) (C := RX7) (T := TX7) (N := 19) hx hb hts inn_X7_layBehind_X7 tyX7 tyX7_ok nmX7 hown hK hP hD hS 0 rfl rfl 8 (by decide) (hts (.fieldLink RX7 78 "RingBasesModel" "behindMany" "I") (List.mem_of_getElem? (i := 1) rfl)) (fun _ h9 => h9) rfl (by decide +kernel) rfl rfl (Nat.le_of_ble_eq_true rfl) dX7_layBehind_4 (fun H locs hP hD hS => ?_)
  have hP : va_P (dC, dI) vwCl (wd_X7_layBehind h0 h_w h_word h_ahead h_behind h_restM h_restN h_powerM h_powerN h_row c_w c_behind c_restM c_restN v_known v_kept v_size v_high (0 : Int32) v_ends v_lead v_round v_worthM v_worthN v_w v_behind v_restM v_restN) H := hP
  have hD : va_D A (wd_X7_layBehind h0 h_w h_word h_ahead h_behind h_restM h_restN h_powerM h_powerN h_row c_w c_behind c_restM c_restN v_known v_kept v_size v_high (0 : Int32) v_ends v_lead v_round v_worthM v_worthN v_w v_behind v_restM v_restN) := hD
  refine lv_aload_n hx hb dX7_layBehind_7 rfl (lv_at hl 1 rfl) ?_
  refine lv_iconst (v := (0 : Int32)) hx hb dX7_layBehind_8 (by decide) ?_
  refine va_put (D := (dC, dI)) (ty := .int) (ci := 7) (v := .int (0 : Int32)) (C := RX7) (T := TX7) (N := 19) hx hb hts inn_X7_layBehind_X7 tyX7 tyX7_ok nmX7 hown hK hP hD hS 0 rfl rfl 13 (by decide) (hts (.fieldLink RX7 81 "RingBasesModel" "ends" "I") (List.mem_of_getElem? (i := 2) rfl)) (fun _ h9 => h9) rfl (by decide +kernel) rfl rfl (Nat.le_of_ble_eq_true rfl) dX7_layBehind_9 (fun H locs hP hD hS => ?_)
  have hP : va_P (dC, dI) vwCl (wd_X7_layBehind h0 h_w h_word h_ahead h_behind h_restM h_restN h_powerM h_powerN h_row c_w c_behind c_restM c_restN v_known v_kept v_size v_high (0 : Int32) (0 : Int32) v_lead v_round v_worthM v_worthN v_w v_behind v_restM v_restN) H := hP
  have hD : va_D A (wd_X7_layBehind h0 h_w h_word h_ahead h_behind h_restM h_restN h_powerM h_powerN h_row c_w c_behind c_restM c_restN v_known v_kept v_size v_high (0 : Int32) (0 : Int32) v_lead v_round v_worthM v_worthN v_w v_behind v_restM v_restN) := hD
  refine lv_aload_n hx hb dX7_layBehind_12 rfl (lv_at hl 1 rfl) ?_
  refine lv_iconst (v := (-1 : Int32)) hx hb dX7_layBehind_13 (by decide) ?_
  refine va_put (D := (dC, dI)) (ty := .int) (ci := 7) (v := .int (-1 : Int32)) (C := RX7) (T := TX7) (N := 19) hx hb hts inn_X7_layBehind_X7 tyX7 tyX7_ok nmX7 hown hK hP hD hS 0 rfl rfl 14 (by decide) (hts (.fieldLink RX7 72 "RingBasesModel" "lead" "I") (List.mem_of_getElem? (i := 3) rfl)) (fun _ h9 => h9) rfl (by decide +kernel) rfl rfl (Nat.le_of_ble_eq_true rfl) dX7_layBehind_14 (fun H locs hP hD hS => ?_)
  have hP : va_P (dC, dI) vwCl (wd_X7_layBehind h0 h_w h_word h_ahead h_behind h_restM h_restN h_powerM h_powerN h_row c_w c_behind c_restM c_restN v_known v_kept v_size v_high (0 : Int32) (0 : Int32) (-1 : Int32) v_round v_worthM v_worthN v_w v_behind v_restM v_restN) H := hP
  have hD : va_D A (wd_X7_layBehind h0 h_w h_word h_ahead h_behind h_restM h_restN h_powerM h_powerN h_row c_w c_behind c_restM c_restN v_known v_kept v_size v_high (0 : Int32) (0 : Int32) (-1 : Int32) v_round v_worthM v_worthN v_w v_behind v_restM v_restN) := hD
  refine lv_aload_n hx hb dX7_layBehind_17 rfl (lv_at hl 1 rfl) ?_
  refine lv_iconst (v := (-1 : Int32)) hx hb dX7_layBehind_18 (by decide) ?_
  refine va_put (D := (dC, dI)) (ty := .int) (ci := 7) (v := .int (-1 : Int32)) (C := RX7) (T := TX7) (N := 19) hx hb hts inn_X7_layBehind_X7 tyX7 tyX7_ok nmX7 hown hK hP hD hS 0 rfl rfl 15 (by decide) (hts (.fieldLink RX7 75 "RingBasesModel" "round" "I") (List.mem_of_getElem? (i := 4) rfl)) (fun _ h9 => h9) rfl (by decide +kernel) rfl rfl (Nat.le_of_ble_eq_true rfl) dX7_layBehind_19 (fun H locs hP hD hS => ?_)
  have hP : va_P (dC, dI) vwCl (wd_X7_layBehind h0 h_w h_word h_ahead h_behind h_restM h_restN h_powerM h_powerN h_row c_w c_behind c_restM c_restN v_known v_kept v_size v_high (0 : Int32) (0 : Int32) (-1 : Int32) (-1 : Int32) v_worthM v_worthN v_w v_behind v_restM v_restN) H := hP
  have hD : va_D A (wd_X7_layBehind h0 h_w h_word h_ahead h_behind h_restM h_restN h_powerM h_powerN h_row c_w c_behind c_restM c_restN v_known v_kept v_size v_high (0 : Int32) (0 : Int32) (-1 : Int32) (-1 : Int32) v_worthM v_worthN v_w v_behind v_restM v_restN) := hD
  refine lv_iconst (v := (0 : Int32)) hx hb dX7_layBehind_22 (by decide) ?_
  refine lv_istore_n (lv' := [(2, .int (0 : Int32)), (1, .int (1 : Int32)), (0, .ref h0)]) hx hb dX7_layBehind_23 rfl hl (by decide) rfl (fun ls hl => ?_)
  exact k_24 _ (1 : Int32) (0 : Int32) (0 : Int32) (0 : Int32) (-1 : Int32) (-1 : Int32) v_behind v_restM v_restN hF H locs hP hS ls (lv_sub hl [2, 1, 0] rfl)
set_option maxRecDepth 100000 in
set_option maxHeartbeats 4000000 in
theorem c_X7_layBehind (l : Launch) (dC : Nat → ClassId) (dI : Nat → Nat → Nat) (sz : Nat) (h0 h_w h_word h_ahead h_behind h_restM h_restN h_powerM h_powerN h_row : Nat) (c_w c_behind c_restM c_restN : ClassId) (v_known : Int32) (v_kept : Int32) (v_size : Int32) (v_high : Int32) (v_behindMany : Int32) (v_ends : Int32) (v_lead : Int32) (v_round : Int32) (v_worthM : Int64) (v_worthN : Int64) (v_w : (Nat → Int32)) (v_behind : (Nat → Int32)) (v_restM : (Nat → Int64)) (v_restN : (Nat → Int64)) (o : Int32 × Int32 × Int32 × Int32 × (Nat → Int32) × (Nat → Int64) × (Nat → Int64)) (hF : F_X7_layBehind v_w v_behind v_restM v_restN = some o) : Met l yX7_layBehind wsX7_layBehind rm_X7_layBehind (va_Pc [.ref h0] (PcW dC dI sz (wd_X7_layBehind h0 h_w h_word h_ahead h_behind h_restM h_restN h_powerM h_powerN h_row c_w c_behind c_restM c_restN v_known v_kept v_size v_high v_behindMany v_ends v_lead v_round v_worthM v_worthN v_w v_behind v_restM v_restN) [(c_w, .int), (c_behind, .int), (c_restM, .long), (c_restN, .long)])) (va_Qv (fun (_ : Unit) => True) (fun _ t => va_P (dC, dI) vwCl (wd_X7_layBehind h0 h_w h_word h_ahead h_behind h_restM h_restN h_powerM h_powerN h_row c_w c_behind c_restM c_restN v_known v_kept v_size v_high o.1 o.2.1 o.2.2.1 o.2.2.2.1 v_worthM v_worthN v_w o.2.2.2.2.1 o.2.2.2.2.2.1 o.2.2.2.2.2.2) t.heap) (va_A (wd_X7_layBehind h0 h_w h_word h_ahead h_behind h_restM h_restN h_powerM h_powerN h_row c_w c_behind c_restM c_restN v_known v_kept v_size v_high v_behindMany v_ends v_lead v_round v_worthM v_worthN v_w v_behind v_restM v_restN) sz)) 0 0 (va_A (wd_X7_layBehind h0 h_w h_word h_ahead h_behind h_restM h_restN h_powerM h_powerN h_row c_w c_behind c_restM c_restN v_known v_kept v_size v_high v_behindMany v_ends v_lead v_round v_worthM v_worthN v_w v_behind v_restM v_restN) sz) := by
  refine Met.ofW (cc := cX7_layBehind) (maxL := 9) (ret := none) (by decide) rfl ?_
  intro p e s m args below meth c s₁ B hml hv
  obtain ⟨rfl, hsz, hP, hK, hD0, hN⟩ := hv
  subst hsz
  have hl := lv_entry ([.ref h0]) (n := 9) (Nat.le_of_ble_eq_true rfl)
  rw [lg_entry_eq]
  generalize (lg_sl ([.ref h0]) ++ List.replicate (9 - (lg_sl ([.ref h0])).length) Slot.unset).toArray = ls at hl ⊢
  exact b_X7_layBehind h0 h_w h_word h_ahead h_behind h_restM h_restN h_powerM h_powerN h_row c_w c_behind c_restM c_restN v_known v_kept v_size v_high v_behindMany v_ends v_lead v_round v_worthM v_worthN v_w v_behind v_restM v_restN o.1 o.2.1 o.2.2.1 o.2.2.2.1 o.2.2.2.2.1 o.2.2.2.2.2.1 o.2.2.2.2.2.2 hF ⟨B.exec, B.bytes, hml, findClass_of_methodNamed B.named, atoms_spec (ws := wsX7_layBehind) B.pre⟩ hN hK hP (fun q h => Or.inr h) (hD0.self (sz := s.heap.size)) va_S.rf (fun H locs ls pc hP hS hd => W.vret B.exec B.bytes B.returns (fun t ht hW => ⟨⟨(), rfl, trivial, by show va_P (dC, dI) vwCl _ t.heap; rw [ht]; exact hP⟩, hS.F ht⟩) hS.2.2 hd B.notSynchronized) hl
theorem inn_X7_layWritten_X7 : ∀ w ∈ wsX70, w ∈ wsX7_layWritten := fun _ h => List.mem_cons_of_mem _ (List.mem_append_right _ h)
abbrev wd_X7_layWritten (h0 h_w h_word h_ahead h_behind h_restM h_restN h_powerM h_powerN h_row : Nat) (c_w c_ahead c_behind c_restM c_restN c_powerM c_powerN : ClassId) (v_known : Int32) (v_kept : Int32) (v_size : Int32) (v_high : Int32) (v_behindMany : Int32) (v_ends : Int32) (v_lead : Int32) (v_round : Int32) (v_worthM : Int64) (v_worthN : Int64) (v_w : (Nat → Int32)) (v_ahead : (Nat → Int32)) (v_behind : (Nat → Int32)) (v_restM : (Nat → Int64)) (v_restN : (Nat → Int64)) (v_powerM : (Nat → Int64)) (v_powerN : (Nat → Int64)) : va_W := [(h0, .inr (7, [.ref h_w, .int v_known, .int v_kept, .ref h_word, .int v_size, .ref h_ahead, .int v_high, .ref h_behind, .int v_behindMany, .ref h_restM, .ref h_restN, .ref h_powerM, .ref h_powerN, .int v_ends, .int v_lead, .int v_round, .ref h_row, .long v_worthM, .long v_worthN])), (h_w, .inl (c_w, 110, .inl v_w)), (h_ahead, .inl (c_ahead, 64, .inl v_ahead)), (h_behind, .inl (c_behind, 40, .inl v_behind)), (h_restM, .inl (c_restM, 41, .inr (.inl v_restM))), (h_restN, .inl (c_restN, 41, .inr (.inl v_restN))), (h_powerM, .inl (c_powerM, 64, .inr (.inl v_powerM))), (h_powerN, .inl (c_powerN, 64, .inr (.inl v_powerN)))]
abbrev rm_X7_layWritten : Room := { frames := 3, cells := 0, slots := 0, locals := 82 }
def F_X7_layWritten_98 (v_w : (Nat → Int32)) (x5 : Int64) (x7 : Int64) (v_high : Int32) (v_behindMany : Int32) (v_ends : Int32) (v_lead : Int32) (v_round : Int32) (v_ahead : (Nat → Int32)) (v_behind : (Nat → Int32)) (v_restM : (Nat → Int64)) (v_restN : (Nat → Int64)) (v_powerM : (Nat → Int64)) (v_powerN : (Nat → Int64)) : Option (Int32 × Int32 × Int32 × Int32 × Int32 × (Nat → Int32) × (Nat → Int32) × (Nat → Int64) × (Nat → Int64) × (Nat → Int64) × (Nat → Int64)) := ((F_X7_layBehind v_w v_behind (vp_updL v_restM (0 : Int32).toNatClampNeg x5) (vp_updL v_restN (0 : Int32).toNatClampNeg x7)).bind fun o_1 => (some (v_high, o_1.1, o_1.2.1, o_1.2.2.1, o_1.2.2.2.1, v_ahead, o_1.2.2.2.2.1, o_1.2.2.2.2.2.1, o_1.2.2.2.2.2.2, v_powerM, v_powerN)))
def F_X7_layWritten_83 (kk_18 : Int64 → Int64 → Int32 → Int32 → Int32 → Int32 → Int32 → Int32 → (Nat → Int32) → (Nat → Int32) → (Nat → Int64) → (Nat → Int64) → (Nat → Int64) → (Nat → Int64) → Option (Int32 × Int32 × Int32 × Int32 × Int32 × (Nat → Int32) × (Nat → Int32) × (Nat → Int64) × (Nat → Int64) × (Nat → Int64) × (Nat → Int64))) (x5 : Int64) (x7 : Int64) (x9 : Int32) (x10 : Int32) (v_high : Int32) (v_behindMany : Int32) (v_ends : Int32) (v_lead : Int32) (v_round : Int32) (v_ahead : (Nat → Int32)) (v_behind : (Nat → Int32)) (v_restM : (Nat → Int64)) (v_restN : (Nat → Int64)) (v_powerM : (Nat → Int64)) (v_powerN : (Nat → Int64)) : Option (Int32 × Int32 × Int32 × Int32 × Int32 × (Nat → Int32) × (Nat → Int32) × (Nat → Int64) × (Nat → Int64) × (Nat → Int64) × (Nat → Int64)) := (ck x9 64 (kk_18 x5 x7 (x9 + (-1 : Int32)) v_high v_behindMany v_ends v_lead v_round (upd v_ahead x9.toNatClampNeg x10) v_behind v_restM v_restN v_powerM v_powerN))
def F_X7_layWritten_26 (kk_18 : Int64 → Int64 → Int32 → Int32 → Int32 → Int32 → Int32 → Int32 → (Nat → Int32) → (Nat → Int32) → (Nat → Int64) → (Nat → Int64) → (Nat → Int64) → (Nat → Int64) → Option (Int32 × Int32 × Int32 × Int32 × Int32 × (Nat → Int32) × (Nat → Int32) × (Nat → Int64) × (Nat → Int64) × (Nat → Int64) × (Nat → Int64))) (v_w : (Nat → Int32)) : Nat → Int64 → Int64 → Int32 → Int32 → Int32 → Int32 → Int32 → Int32 → Int32 → (Nat → Int32) → (Nat → Int32) → (Nat → Int64) → (Nat → Int64) → (Nat → Int64) → (Nat → Int64) → Option (Int32 × Int32 × Int32 × Int32 × Int32 × (Nat → Int32) × (Nat → Int32) × (Nat → Int64) × (Nat → Int64) × (Nat → Int64) × (Nat → Int64))
  | 0, _, _, _, _, _, _, _, _, _, _, _, _, _, _, _ => none
  | fu + 1, x5, x7, x9, x10, v_high, v_behindMany, v_ends, v_lead, v_round, v_ahead, v_behind, v_restM, v_restN, v_powerM, v_powerN => (ck x9 64 (if (F_X7_signOf (x5 - (v_powerM x9.toNatClampNeg)) (x7 - (v_powerN x9.toNatClampNeg)) v_w) < 0 then (F_X7_layWritten_83 kk_18  x5 x7 x9 x10 v_high v_behindMany v_ends v_lead v_round v_ahead v_behind v_restM v_restN v_powerM v_powerN) else (F_X7_layWritten_26 kk_18 v_w fu (x5 - (v_powerM x9.toNatClampNeg)) (x7 - (v_powerN x9.toNatClampNeg)) x9 (x10 + (1 : Int32)) v_high v_behindMany v_ends v_lead v_round v_ahead v_behind v_restM v_restN v_powerM v_powerN)))
def F_X7_layWritten_18 (v_w : (Nat → Int32)) : Nat → Int64 → Int64 → Int32 → Int32 → Int32 → Int32 → Int32 → Int32 → (Nat → Int32) → (Nat → Int32) → (Nat → Int64) → (Nat → Int64) → (Nat → Int64) → (Nat → Int64) → Option (Int32 × Int32 × Int32 × Int32 × Int32 × (Nat → Int32) × (Nat → Int32) × (Nat → Int64) × (Nat → Int64) × (Nat → Int64) × (Nat → Int64))
  | 0, _, _, _, _, _, _, _, _, _, _, _, _, _, _ => none
  | fu + 1, x5, x7, x9, v_high, v_behindMany, v_ends, v_lead, v_round, v_ahead, v_behind, v_restM, v_restN, v_powerM, v_powerN => (if x9 < 0 then (F_X7_layWritten_98  v_w x5 x7 v_high v_behindMany v_ends v_lead v_round v_ahead v_behind v_restM v_restN v_powerM v_powerN) else (F_X7_layWritten_26 (F_X7_layWritten_18 v_w fu) v_w 128 x5 x7 x9 (0 : Int32) v_high v_behindMany v_ends v_lead v_round v_ahead v_behind v_restM v_restN v_powerM v_powerN))
def F_X7_layWritten (x1 : Int64) (x3 : Int64) (v_behindMany : Int32) (v_ends : Int32) (v_lead : Int32) (v_round : Int32) (v_w : (Nat → Int32)) (v_ahead : (Nat → Int32)) (v_behind : (Nat → Int32)) (v_restM : (Nat → Int64)) (v_restN : (Nat → Int64)) (v_powerM : (Nat → Int64)) (v_powerN : (Nat → Int64)) : Option (Int32 × Int32 × Int32 × Int32 × Int32 × (Nat → Int32) × (Nat → Int32) × (Nat → Int64) × (Nat → Int64) × (Nat → Int64) × (Nat → Int64)) := ((F_X7_layPowers x1 x3 v_w v_powerM v_powerN).bind fun o_6 => (F_X7_layWritten_18  v_w 128 x1 x3 o_6.1 o_6.1 v_behindMany v_ends v_lead v_round v_ahead v_behind v_restM v_restN o_6.2.1 o_6.2.2))
set_option maxRecDepth 100000 in
set_option maxHeartbeats 4000000 in
theorem b_X7_layWritten {p : Program} {l : Launch} {e : Env} {s : State} {m : MethodId} {args : Array Value} {below : List Frame} {meth : Method} {c : Code} {Q : State → Prop} {dC : Nat → ClassId} {dI : Nat → Nat → Nat} {H : Heap} {locs : List Loc} {ls : Array Slot} {A : Nat → Prop} (h0 h_w h_word h_ahead h_behind h_restM h_restN h_powerM h_powerN h_row : Nat) (c_w c_ahead c_behind c_restM c_restN c_powerM c_powerN : ClassId) (v_known : Int32) (v_kept : Int32) (v_size : Int32) (v_high : Int32) (v_behindMany : Int32) (v_ends : Int32) (v_lead : Int32) (v_round : Int32) (v_worthM : Int64) (v_worthN : Int64) (v_w : (Nat → Int32)) (v_ahead : (Nat → Int32)) (v_behind : (Nat → Int32)) (v_restM : (Nat → Int64)) (v_restN : (Nat → Int64)) (v_powerM : (Nat → Int64)) (v_powerN : (Nat → Int64)) (x1 : Int64) (x3 : Int64) (ou0 : Int32) (ou1 : Int32) (ou2 : Int32) (ou3 : Int32) (ou4 : Int32) (ou5 : (Nat → Int32)) (ou6 : (Nat → Int32)) (ou7 : (Nat → Int64)) (ou8 : (Nat → Int64)) (ou9 : (Nat → Int64)) (ou10 : (Nat → Int64)) (hF : F_X7_layWritten x1 x3 v_behindMany v_ends v_lead v_round v_w v_ahead v_behind v_restM v_restN v_powerM v_powerN = some (ou0, ou1, ou2, ou3, ou4, ou5, ou6, ou7, ou8, ou9, ou10)) (hC : CallFix p m c cX7_layWritten 11 s args wsX7_layWritten RX7) (hN : NW s) (hK : va_K (dC, dI) vwCl [(c_w, .int), (c_ahead, .int), (c_behind, .int), (c_restM, .long), (c_restN, .long), (c_powerM, .long), (c_powerN, .long)] s) (hP : va_P (dC, dI) vwCl (wd_X7_layWritten h0 h_w h_word h_ahead h_behind h_restM h_restN h_powerM h_powerN h_row c_w c_ahead c_behind c_restM c_restN c_powerM c_powerN v_known v_kept v_size v_high v_behindMany v_ends v_lead v_round v_worthM v_worthN v_w v_ahead v_behind v_restM v_restN v_powerM v_powerN) H) (hA : ∀ q, s.heap.size ≤ q → A q) (hD : va_D A (wd_X7_layWritten h0 h_w h_word h_ahead h_behind h_restM h_restN h_powerM h_powerN h_row c_w c_ahead c_behind c_restM c_restN c_powerM c_powerN v_known v_kept v_size v_high v_behindMany v_ends v_lead v_round v_worthM v_worthN v_w v_ahead v_behind v_restM v_restN v_powerM v_powerN)) (hS : va_S A s.heap H locs) (hE : ∀ (H : Heap) (locs : List Loc) (ls : Array Slot) (pc : Nat), va_P (dC, dI) vwCl (wd_X7_layWritten h0 h_w h_word h_ahead h_behind h_restM h_restN h_powerM h_powerN h_row c_w c_ahead c_behind c_restM c_restN c_powerM c_powerN v_known v_kept v_size ou0 ou1 ou2 ou3 ou4 v_worthM v_worthN v_w ou5 ou6 ou7 ou8 ou9 ou10) H → va_S A s.heap H locs → decode cX7_layWritten pc = .ok (.return_, 1) → W p l e rm_X7_layWritten s m args below meth c H locs 0 0 Q (F0 m pc ls [])) (hl : lv_has ls 11 [(0, .ref h0), (1, .long x1), (3, .long x3)]) : W p l e rm_X7_layWritten s m args below meth c H locs 0 0 Q (F0 m 0 ls []) := by
  obtain ⟨hx, hb, hml, hown, hts⟩ := id hC
  have hD0 := hD
  unfold F_X7_layWritten at hF
  have k_18 : ∀ (fu_18 : Nat) (x5 : Int64) (x7 : Int64) (x9 : Int32) (v_high : Int32) (v_behindMany : Int32) (v_ends : Int32) (v_lead : Int32) (v_round : Int32) (v_ahead : (Nat → Int32)) (v_behind : (Nat → Int32)) (v_restM : (Nat → Int64)) (v_restN : (Nat → Int64)) (v_powerM : (Nat → Int64)) (v_powerN : (Nat → Int64)), F_X7_layWritten_18  v_w fu_18 x5 x7 x9 v_high v_behindMany v_ends v_lead v_round v_ahead v_behind v_restM v_restN v_powerM v_powerN = some (ou0, ou1, ou2, ou3, ou4, ou5, ou6, ou7, ou8, ou9, ou10) → ∀ (H : Heap) (locs : List Loc), va_P (dC, dI) vwCl (wd_X7_layWritten h0 h_w h_word h_ahead h_behind h_restM h_restN h_powerM h_powerN h_row c_w c_ahead c_behind c_restM c_restN c_powerM c_powerN v_known v_kept v_size v_high v_behindMany v_ends v_lead v_round v_worthM v_worthN v_w v_ahead v_behind v_restM v_restN v_powerM v_powerN) H → va_S A s.heap H locs → ∀ ls : Array Slot, lv_has ls 11 [(0, .ref h0), (5, .long x5), (7, .long x7), (9, .int x9)] → W p l e rm_X7_layWritten s m args below meth c H locs 0 0 Q (F0 m 18 ls []) := by
    intro fu_18
    induction fu_18 with
    | zero => intro x5 x7 x9 v_high v_behindMany v_ends v_lead v_round v_ahead v_behind v_restM v_restN v_powerM v_powerN hF; rw [F_X7_layWritten_18] at hF; cases hF
    | succ fu_18 ih =>
      intro x5 x7 x9 v_high v_behindMany v_ends v_lead v_round v_ahead v_behind v_restM v_restN v_powerM v_powerN hF H locs hP hS ls hl
      rw [F_X7_layWritten_18] at hF
      have ih_18 := ih
      have hD : va_D A (wd_X7_layWritten h0 h_w h_word h_ahead h_behind h_restM h_restN h_powerM h_powerN h_row c_w c_ahead c_behind c_restM c_restN c_powerM c_powerN v_known v_kept v_size v_high v_behindMany v_ends v_lead v_round v_worthM v_worthN v_w v_ahead v_behind v_restM v_restN v_powerM v_powerN) := hD0.re rfl
      have k_98 : ∀ (x5 : Int64) (x7 : Int64) (v_high : Int32) (v_behindMany : Int32) (v_ends : Int32) (v_lead : Int32) (v_round : Int32) (v_ahead : (Nat → Int32)) (v_behind : (Nat → Int32)) (v_restM : (Nat → Int64)) (v_restN : (Nat → Int64)) (v_powerM : (Nat → Int64)) (v_powerN : (Nat → Int64)), F_X7_layWritten_98  v_w x5 x7 v_high v_behindMany v_ends v_lead v_round v_ahead v_behind v_restM v_restN v_powerM v_powerN = some (ou0, ou1, ou2, ou3, ou4, ou5, ou6, ou7, ou8, ou9, ou10) → ∀ (H : Heap) (locs : List Loc), va_P (dC, dI) vwCl (wd_X7_layWritten h0 h_w h_word h_ahead h_behind h_restM h_restN h_powerM h_powerN h_row c_w c_ahead c_behind c_restM c_restN c_powerM c_powerN v_known v_kept v_size v_high v_behindMany v_ends v_lead v_round v_worthM v_worthN v_w v_ahead v_behind v_restM v_restN v_powerM v_powerN) H → va_S A s.heap H locs → ∀ ls : Array Slot, lv_has ls 11 [(0, .ref h0), (5, .long x5), (7, .long x7)] → W p l e rm_X7_layWritten s m args below meth c H locs 0 0 Q (F0 m 98 ls []) := by
        intro x5 x7 v_high v_behindMany v_ends v_lead v_round v_ahead v_behind v_restM v_restN v_powerM v_powerN hF H locs hP hS ls hl
        rw [F_X7_layWritten_98] at hF
        have hD : va_D A (wd_X7_layWritten h0 h_w h_word h_ahead h_behind h_restM h_restN h_powerM h_powerN h_row c_w c_ahead c_behind c_restM c_restN c_powerM c_powerN v_known v_kept v_size v_high v_behindMany v_ends v_lead v_round v_worthM v_worthN v_w v_ahead v_behind v_restM v_restN v_powerM v_powerN) := hD0.re rfl
        refine lv_aload_n hx hb dX7_layWritten_98 rfl (lv_at hl 0 rfl) ?_
        refine va_get (D := (dC, dI)) (ci := 7) (v := .ref h_restM) (C := RX7) (T := TX7) (N := 19) hx hb hts inn_X7_layWritten_X7 hown hK hP 0 rfl rfl 9 (by decide) (hts (.fieldLink RX7 22 "RingBasesModel" "restM" "[J") (List.mem_of_getElem? (i := 5) rfl)) (fun _ h9 => h9) rfl dX7_layWritten_99 ?_
        refine lv_iconst (v := (0 : Int32)) hx hb dX7_layWritten_102 (by decide) ?_
        refine lv_lload hx hb dX7_layWritten_103 (lv_at hl 1 rfl) ?_
        refine va_last hx hb hK hP hD hS 4 3 rfl rfl (by unfold vp_in; decide) dX7_layWritten_105 (fun H locs hP hD hS => ?_)
        have hP : va_P (dC, dI) vwCl (wd_X7_layWritten h0 h_w h_word h_ahead h_behind h_restM h_restN h_powerM h_powerN h_row c_w c_ahead c_behind c_restM c_restN c_powerM c_powerN v_known v_kept v_size v_high v_behindMany v_ends v_lead v_round v_worthM v_worthN v_w v_ahead v_behind (vp_updL v_restM (0 : Int32).toNatClampNeg x5) v_restN v_powerM v_powerN) H := hP
        have hD : va_D A (wd_X7_layWritten h0 h_w h_word h_ahead h_behind h_restM h_restN h_powerM h_powerN h_row c_w c_ahead c_behind c_restM c_restN c_powerM c_powerN v_known v_kept v_size v_high v_behindMany v_ends v_lead v_round v_worthM v_worthN v_w v_ahead v_behind (vp_updL v_restM (0 : Int32).toNatClampNeg x5) v_restN v_powerM v_powerN) := hD
        refine lv_aload_n hx hb dX7_layWritten_106 rfl (lv_at hl 0 rfl) ?_
        refine va_get (D := (dC, dI)) (ci := 7) (v := .ref h_restN) (C := RX7) (T := TX7) (N := 19) hx hb hts inn_X7_layWritten_X7 hown hK hP 0 rfl rfl 10 (by decide) (hts (.fieldLink RX7 26 "RingBasesModel" "restN" "[J") (List.mem_of_getElem? (i := 6) rfl)) (fun _ h9 => h9) rfl dX7_layWritten_107 ?_
        refine lv_iconst (v := (0 : Int32)) hx hb dX7_layWritten_110 (by decide) ?_
        refine lv_lload hx hb dX7_layWritten_111 (lv_at hl 2 rfl) ?_
        refine va_last hx hb hK hP hD hS 5 4 rfl rfl (by unfold vp_in; decide) dX7_layWritten_113 (fun H locs hP hD hS => ?_)
        have hP : va_P (dC, dI) vwCl (wd_X7_layWritten h0 h_w h_word h_ahead h_behind h_restM h_restN h_powerM h_powerN h_row c_w c_ahead c_behind c_restM c_restN c_powerM c_powerN v_known v_kept v_size v_high v_behindMany v_ends v_lead v_round v_worthM v_worthN v_w v_ahead v_behind (vp_updL v_restM (0 : Int32).toNatClampNeg x5) (vp_updL v_restN (0 : Int32).toNatClampNeg x7) v_powerM v_powerN) H := hP
        have hD : va_D A (wd_X7_layWritten h0 h_w h_word h_ahead h_behind h_restM h_restN h_powerM h_powerN h_row c_w c_ahead c_behind c_restM c_restN c_powerM c_powerN v_known v_kept v_size v_high v_behindMany v_ends v_lead v_round v_worthM v_worthN v_w v_ahead v_behind (vp_updL v_restM (0 : Int32).toNatClampNeg x5) (vp_updL v_restN (0 : Int32).toNatClampNeg x7) v_powerM v_powerN) := hD
        refine lv_aload_n hx hb dX7_layWritten_114 rfl (lv_at hl 0 rfl) ?_
        obtain ⟨o_1, hc_o_1, hF⟩ := bd_s hF
        refine wrVv (wc' := (wd_X7_layBehind h0 h_w h_word h_ahead h_behind h_restM h_restN h_powerM h_powerN h_row c_w c_behind c_restM c_restN v_known v_kept v_size v_high o_1.1 o_1.2.1 o_1.2.2.1 o_1.2.2.2.1 v_worthM v_worthN v_w o_1.2.2.2.2.1 o_1.2.2.2.2.2.1 o_1.2.2.2.2.2.2)) (As := []) (rest := []) (b := h0) hC (c_X7_layBehind l dC dI H.size h0 h_w h_word h_ahead h_behind h_restM h_restN h_powerM h_powerN h_row c_w c_behind c_restM c_restN v_known v_kept v_size v_high v_behindMany v_ends v_lead v_round v_worthM v_worthN v_w v_behind (vp_updL v_restM (0 : Int32).toNatClampNeg x5) (vp_updL v_restN (0 : Int32).toNatClampNeg x7)  o_1 hc_o_1) (cwV 0 hts gX7_layWritten_X7_layBehind rfl rfl rfl (by decide +kernel) ⟨Nat.le_of_ble_eq_true rfl, Nat.le_of_ble_eq_true rfl⟩) hN (hK.sub (tys' := [(c_w, .int), (c_behind, .int), (c_restM, .long), (c_restN, .long)]) [0, 2, 3, 4] rfl) hP hD hS hA [0, 1, 3, 4, 5] rfl rfl rfl rfl 0 7 rfl rfl rfl rfl hl.1 (Nat.le_of_ble_eq_true rfl) dX7_layWritten_115 ⟨Nat.zero_le _, Nat.zero_le _⟩ (fun H locs hP hS => ?_)
        have hP : va_P (dC, dI) vwCl (wd_X7_layWritten h0 h_w h_word h_ahead h_behind h_restM h_restN h_powerM h_powerN h_row c_w c_ahead c_behind c_restM c_restN c_powerM c_powerN v_known v_kept v_size v_high o_1.1 o_1.2.1 o_1.2.2.1 o_1.2.2.2.1 v_worthM v_worthN v_w v_ahead o_1.2.2.2.2.1 o_1.2.2.2.2.2.1 o_1.2.2.2.2.2.2 v_powerM v_powerN) H := hP
        have hD : va_D A (wd_X7_layWritten h0 h_w h_word h_ahead h_behind h_restM h_restN h_powerM h_powerN h_row c_w c_ahead c_behind c_restM c_restN c_powerM c_powerN v_known v_kept v_size v_high o_1.1 o_1.2.1 o_1.2.2.1 o_1.2.2.2.1 v_worthM v_worthN v_w v_ahead o_1.2.2.2.2.1 o_1.2.2.2.2.2.1 o_1.2.2.2.2.2.2 v_powerM v_powerN) := va_D.re hD rfl
        obtain ⟨rfl, rfl, rfl, rfl, rfl, rfl, rfl, rfl, rfl, rfl, rfl⟩ := oks11 hF; exact hE _ _ _ _ hP hS dX7_layWritten_118
      have k_26 : ∀ (fu_26 : Nat) (x5 : Int64) (x7 : Int64) (x9 : Int32) (x10 : Int32) (v_high : Int32) (v_behindMany : Int32) (v_ends : Int32) (v_lead : Int32) (v_round : Int32) (v_ahead : (Nat → Int32)) (v_behind : (Nat → Int32)) (v_restM : (Nat → Int64)) (v_restN : (Nat → Int64)) (v_powerM : (Nat → Int64)) (v_powerN : (Nat → Int64)), F_X7_layWritten_26 (F_X7_layWritten_18  v_w fu_18) v_w fu_26 x5 x7 x9 x10 v_high v_behindMany v_ends v_lead v_round v_ahead v_behind v_restM v_restN v_powerM v_powerN = some (ou0, ou1, ou2, ou3, ou4, ou5, ou6, ou7, ou8, ou9, ou10) → ∀ (H : Heap) (locs : List Loc), va_P (dC, dI) vwCl (wd_X7_layWritten h0 h_w h_word h_ahead h_behind h_restM h_restN h_powerM h_powerN h_row c_w c_ahead c_behind c_restM c_restN c_powerM c_powerN v_known v_kept v_size v_high v_behindMany v_ends v_lead v_round v_worthM v_worthN v_w v_ahead v_behind v_restM v_restN v_powerM v_powerN) H → va_S A s.heap H locs → ∀ ls : Array Slot, lv_has ls 11 [(0, .ref h0), (5, .long x5), (7, .long x7), (9, .int x9), (10, .int x10)] → W p l e rm_X7_layWritten s m args below meth c H locs 0 0 Q (F0 m 26 ls []) := by
        intro fu_26
        induction fu_26 with
        | zero => intro x5 x7 x9 x10 v_high v_behindMany v_ends v_lead v_round v_ahead v_behind v_restM v_restN v_powerM v_powerN hF; rw [F_X7_layWritten_26] at hF; cases hF
        | succ fu_26 ih =>
          intro x5 x7 x9 x10 v_high v_behindMany v_ends v_lead v_round v_ahead v_behind v_restM v_restN v_powerM v_powerN hF H locs hP hS ls hl
          rw [F_X7_layWritten_26] at hF
          have ih_26 := ih
          have hD : va_D A (wd_X7_layWritten h0 h_w h_word h_ahead h_behind h_restM h_restN h_powerM h_powerN h_row c_w c_ahead c_behind c_restM c_restN c_powerM c_powerN v_known v_kept v_size v_high v_behindMany v_ends v_lead v_round v_worthM v_worthN v_w v_ahead v_behind v_restM v_restN v_powerM v_powerN) := hD0.re rfl
          have k_83 : ∀ (x5 : Int64) (x7 : Int64) (x9 : Int32) (x10 : Int32) (v_high : Int32) (v_behindMany : Int32) (v_ends : Int32) (v_lead : Int32) (v_round : Int32) (v_ahead : (Nat → Int32)) (v_behind : (Nat → Int32)) (v_restM : (Nat → Int64)) (v_restN : (Nat → Int64)) (v_powerM : (Nat → Int64)) (v_powerN : (Nat → Int64)), F_X7_layWritten_83 (F_X7_layWritten_18  v_w fu_18)  x5 x7 x9 x10 v_high v_behindMany v_ends v_lead v_round v_ahead v_behind v_restM v_restN v_powerM v_powerN = some (ou0, ou1, ou2, ou3, ou4, ou5, ou6, ou7, ou8, ou9, ou10) → ∀ (H : Heap) (locs : List Loc), va_P (dC, dI) vwCl (wd_X7_layWritten h0 h_w h_word h_ahead h_behind h_restM h_restN h_powerM h_powerN h_row c_w c_ahead c_behind c_restM c_restN c_powerM c_powerN v_known v_kept v_size v_high v_behindMany v_ends v_lead v_round v_worthM v_worthN v_w v_ahead v_behind v_restM v_restN v_powerM v_powerN) H → va_S A s.heap H locs → ∀ ls : Array Slot, lv_has ls 11 [(0, .ref h0), (5, .long x5), (7, .long x7), (9, .int x9), (10, .int x10)] → W p l e rm_X7_layWritten s m args below meth c H locs 0 0 Q (F0 m 83 ls []) := by
            intro x5 x7 x9 x10 v_high v_behindMany v_ends v_lead v_round v_ahead v_behind v_restM v_restN v_powerM v_powerN hF H locs hP hS ls hl
            rw [F_X7_layWritten_83] at hF
            have hD : va_D A (wd_X7_layWritten h0 h_w h_word h_ahead h_behind h_restM h_restN h_powerM h_powerN h_row c_w c_ahead c_behind c_restM c_restN c_powerM c_powerN v_known v_kept v_size v_high v_behindMany v_ends v_lead v_round v_worthM v_worthN v_w v_ahead v_behind v_restM v_restN v_powerM v_powerN) := hD0.re rfl
            refine lv_aload_n hx hb dX7_layWritten_83 rfl (lv_at hl 0 rfl) ?_
            refine va_get (D := (dC, dI)) (ci := 7) (v := .ref h_ahead) (C := RX7) (T := TX7) (N := 19) hx hb hts inn_X7_layWritten_X7 hown hK hP 0 rfl rfl 5 (by decide) (hts (.fieldLink RX7 16 "RingBasesModel" "ahead" "[I") (List.mem_of_getElem? (i := 4) rfl)) (fun _ h9 => h9) rfl dX7_layWritten_84 ?_
            refine lv_iload hx hb dX7_layWritten_87 (lv_at hl 3 rfl) ?_
            refine lv_iload hx hb dX7_layWritten_89 (lv_at hl 4 rfl) ?_
            obtain ⟨i_2, hF⟩ := ck_s hF
            refine va_iast hx hb hK hP hD hS 2 1 rfl rfl i_2 dX7_layWritten_91 (fun H locs hP hD hS => ?_)
            have hP : va_P (dC, dI) vwCl (wd_X7_layWritten h0 h_w h_word h_ahead h_behind h_restM h_restN h_powerM h_powerN h_row c_w c_ahead c_behind c_restM c_restN c_powerM c_powerN v_known v_kept v_size v_high v_behindMany v_ends v_lead v_round v_worthM v_worthN v_w (upd v_ahead x9.toNatClampNeg x10) v_behind v_restM v_restN v_powerM v_powerN) H := hP
            have hD : va_D A (wd_X7_layWritten h0 h_w h_word h_ahead h_behind h_restM h_restN h_powerM h_powerN h_row c_w c_ahead c_behind c_restM c_restN c_powerM c_powerN v_known v_kept v_size v_high v_behindMany v_ends v_lead v_round v_worthM v_worthN v_w (upd v_ahead x9.toNatClampNeg x10) v_behind v_restM v_restN v_powerM v_powerN) := hD
            refine lv_iinc (v := (x9 + (-1 : Int32))) (lv' := [(9, .int (x9 + (-1 : Int32))), (0, .ref h0), (5, .long x5), (7, .long x7), (10, .int x10)]) hx hb dX7_layWritten_92 hl (k := 3) rfl rfl (by decide) rfl (fun ls hl => ?_)
            refine lv_goto (tgt := 18) hx hb dX7_layWritten_95 (by decide) ?_
            exact ih_18 x5 x7 (x9 + (-1 : Int32)) v_high v_behindMany v_ends v_lead v_round (upd v_ahead x9.toNatClampNeg x10) v_behind v_restM v_restN v_powerM v_powerN hF H locs hP hS ls (lv_sub hl [1, 2, 3, 0] rfl)
          refine lv_aload_n hx hb dX7_layWritten_26 rfl (lv_at hl 0 rfl) ?_
          refine lv_lload hx hb dX7_layWritten_27 (lv_at hl 1 rfl) ?_
          refine lv_aload_n hx hb dX7_layWritten_29 rfl (lv_at hl 0 rfl) ?_
          refine va_get (D := (dC, dI)) (ci := 7) (v := .ref h_powerM) (C := RX7) (T := TX7) (N := 19) hx hb hts inn_X7_layWritten_X7 hown hK hP 0 rfl rfl 11 (by decide) (hts (.fieldLink RX7 29 "RingBasesModel" "powerM" "[J") (List.mem_of_getElem? (i := 2) rfl)) (fun _ h9 => h9) rfl dX7_layWritten_30 ?_
          refine lv_iload hx hb dX7_layWritten_33 (lv_at hl 3 rfl) ?_
          obtain ⟨i_3, hF⟩ := ck_s hF
          refine va_lald hx hb hK hP 6 5 rfl rfl i_3 dX7_layWritten_35 ?_
          refine lv_lsub hx hb dX7_layWritten_36 ?_
          refine lv_lload hx hb dX7_layWritten_37 (lv_at hl 2 rfl) ?_
          refine lv_aload_n hx hb dX7_layWritten_39 rfl (lv_at hl 0 rfl) ?_
          refine va_get (D := (dC, dI)) (ci := 7) (v := .ref h_powerN) (C := RX7) (T := TX7) (N := 19) hx hb hts inn_X7_layWritten_X7 hown hK hP 0 rfl rfl 12 (by decide) (hts (.fieldLink RX7 32 "RingBasesModel" "powerN" "[J") (List.mem_of_getElem? (i := 3) rfl)) (fun _ h9 => h9) rfl dX7_layWritten_40 ?_
          refine lv_iload hx hb dX7_layWritten_43 (lv_at hl 3 rfl) ?_
          refine va_lald hx hb hK hP 7 6 rfl rfl i_3 dX7_layWritten_45 ?_
          refine lv_lsub hx hb dX7_layWritten_46 ?_
          refine rdVi (As := [.long (x5 - (v_powerM x9.toNatClampNeg)), .long (x7 - (v_powerN x9.toNatClampNeg))]) (rest := []) (b := h0) hC (c_X7_signOf l dC dI h0 h_w h_word h_ahead h_behind h_restM h_restN h_powerM h_powerN h_row c_w v_known v_kept v_size v_high v_behindMany v_ends v_lead v_round v_worthM v_worthN v_w (x5 - (v_powerM x9.toNatClampNeg)) (x7 - (v_powerN x9.toNatClampNeg)) (F_X7_signOf (x5 - (v_powerM x9.toNatClampNeg)) (x7 - (v_powerN x9.toNatClampNeg)) v_w) rfl) (cwV 2 hts gX7_layWritten_X7_signOf rfl rfl rfl (by decide +kernel) ⟨Nat.le_of_ble_eq_true rfl, Nat.le_of_ble_eq_true rfl⟩) hN (hK.sub (tys' := [(c_w, .int)]) [0] rfl) (hP.sub (ws' := (wd_X7_signOf h0 h_w h_word h_ahead h_behind h_restM h_restN h_powerM h_powerN h_row c_w v_known v_kept v_size v_high v_behindMany v_ends v_lead v_round v_worthM v_worthN v_w)) [0, 1] rfl) 0 7 rfl rfl rfl rfl hl.1 (Nat.le_of_ble_eq_true rfl) dX7_layWritten_47 ⟨Nat.zero_le _, Nat.zero_le _⟩ ?_
          refine lv_if_lt (tgt := 83) hx hb dX7_layWritten_50 (by decide) (fun g_4 => ?_) (fun g_4 => ?_)
          · replace hF := ite_t g_4 hF
            exact k_83 x5 x7 x9 x10 v_high v_behindMany v_ends v_lead v_round v_ahead v_behind v_restM v_restN v_powerM v_powerN hF H locs hP hS ls (lv_sub hl [0, 1, 2, 3, 4] rfl)
          · replace hF := ite_f g_4 hF
            refine lv_lload hx hb dX7_layWritten_53 (lv_at hl 1 rfl) ?_
            refine lv_aload_n hx hb dX7_layWritten_55 rfl (lv_at hl 0 rfl) ?_
            refine va_get (D := (dC, dI)) (ci := 7) (v := .ref h_powerM) (C := RX7) (T := TX7) (N := 19) hx hb hts inn_X7_layWritten_X7 hown hK hP 0 rfl rfl 11 (by decide) (hts (.fieldLink RX7 29 "RingBasesModel" "powerM" "[J") (List.mem_of_getElem? (i := 2) rfl)) (fun _ h9 => h9) rfl dX7_layWritten_56 ?_
            refine lv_iload hx hb dX7_layWritten_59 (lv_at hl 3 rfl) ?_
            refine va_lald hx hb hK hP 6 5 rfl rfl i_3 dX7_layWritten_61 ?_
            refine lv_lsub hx hb dX7_layWritten_62 ?_
            refine lv_lstore (lv' := [(5, .long (x5 - (v_powerM x9.toNatClampNeg))), (0, .ref h0), (7, .long x7), (9, .int x9), (10, .int x10)]) hx hb dX7_layWritten_63 hl (by decide) rfl (fun ls hl => ?_)
            refine lv_lload hx hb dX7_layWritten_65 (lv_at hl 2 rfl) ?_
            refine lv_aload_n hx hb dX7_layWritten_67 rfl (lv_at hl 1 rfl) ?_
            refine va_get (D := (dC, dI)) (ci := 7) (v := .ref h_powerN) (C := RX7) (T := TX7) (N := 19) hx hb hts inn_X7_layWritten_X7 hown hK hP 0 rfl rfl 12 (by decide) (hts (.fieldLink RX7 32 "RingBasesModel" "powerN" "[J") (List.mem_of_getElem? (i := 3) rfl)) (fun _ h9 => h9) rfl dX7_layWritten_68 ?_
            refine lv_iload hx hb dX7_layWritten_71 (lv_at hl 3 rfl) ?_
            refine va_lald hx hb hK hP 7 6 rfl rfl i_3 dX7_layWritten_73 ?_
            refine lv_lsub hx hb dX7_layWritten_74 ?_
            refine lv_lstore (lv' := [(7, .long (x7 - (v_powerN x9.toNatClampNeg))), (5, .long (x5 - (v_powerM x9.toNatClampNeg))), (0, .ref h0), (9, .int x9), (10, .int x10)]) hx hb dX7_layWritten_75 hl (by decide) rfl (fun ls hl => ?_)
            refine lv_iinc (v := (x10 + (1 : Int32))) (lv' := [(10, .int (x10 + (1 : Int32))), (7, .long (x7 - (v_powerN x9.toNatClampNeg))), (5, .long (x5 - (v_powerM x9.toNatClampNeg))), (0, .ref h0), (9, .int x9)]) hx hb dX7_layWritten_77 hl (k := 4) rfl rfl (by decide) rfl (fun ls hl => ?_)
            refine lv_goto (tgt := 26) hx hb dX7_layWritten_80 (by decide) ?_
            exact ih (x5 - (v_powerM x9.toNatClampNeg)) (x7 - (v_powerN x9.toNatClampNeg)) x9 (x10 + (1 : Int32)) v_high v_behindMany v_ends v_lead v_round v_ahead v_behind v_restM v_restN v_powerM v_powerN hF H locs hP hS ls (lv_sub hl [3, 2, 1, 4, 0] rfl)
      refine lv_iload hx hb dX7_layWritten_18 (lv_at hl 3 rfl) ?_
      refine lv_if_lt (tgt := 98) hx hb dX7_layWritten_20 (by decide) (fun g_5 => ?_) (fun g_5 => ?_)
      · replace hF := ite_t g_5 hF
        exact k_98 x5 x7 v_high v_behindMany v_ends v_lead v_round v_ahead v_behind v_restM v_restN v_powerM v_powerN hF H locs hP hS ls (lv_sub hl [0, 1, 2] rfl)
      · replace hF := ite_f g_5 hF
        refine lv_iconst (v := (0 : Int32)) hx hb dX7_layWritten_23 (by decide) ?_
        refine lv_istore (lv' := [(10, .int (0 : Int32)), (0, .ref h0), (5, .long x5), (7, .long x7), (9, .int x9)]) hx hb dX7_layWritten_24 hl (by decide) rfl (fun ls hl => ?_)
        exact k_26 _ x5 x7 x9 (0 : Int32) v_high v_behindMany v_ends v_lead v_round v_ahead v_behind v_restM v_restN v_powerM v_powerN hF H locs hP hS ls (lv_sub hl [1, 2, 3, 4, 0] rfl)
  refine lv_aload_n hx hb dX7_layWritten_0 rfl (lv_at hl 0 rfl) ?_
  refine lv_lload_n hx hb dX7_layWritten_1 rfl (lv_at hl 1 rfl) ?_
  refine lv_lload_n hx hb dX7_layWritten_2 rfl (lv_at hl 2 rfl) ?_
  obtain ⟨o_6, hc_o_6, hF⟩ := bd_s hF
  refine wrVv (wc' := (wd_X7_layPowers h0 h_w h_word h_ahead h_behind h_restM h_restN h_powerM h_powerN h_row c_w c_powerM c_powerN v_known v_kept v_size o_6.1 v_behindMany v_ends v_lead v_round v_worthM v_worthN v_w o_6.2.1 o_6.2.2)) (As := [.long x1, .long x3]) (rest := []) (b := h0) hC (c_X7_layPowers l dC dI H.size h0 h_w h_word h_ahead h_behind h_restM h_restN h_powerM h_powerN h_row c_w c_powerM c_powerN v_known v_kept v_size v_high v_behindMany v_ends v_lead v_round v_worthM v_worthN v_w v_powerM v_powerN x1 x3 o_6 hc_o_6) (cwV 2 hts gX7_layWritten_X7_layPowers rfl rfl rfl (by decide +kernel) ⟨Nat.le_of_ble_eq_true rfl, Nat.le_of_ble_eq_true rfl⟩) hN (hK.sub (tys' := [(c_w, .int), (c_powerM, .long), (c_powerN, .long)]) [0, 5, 6] rfl) hP hD hS hA [0, 1, 6, 7] rfl rfl rfl rfl 0 7 rfl rfl rfl rfl hl.1 (Nat.le_of_ble_eq_true rfl) dX7_layWritten_3 ⟨Nat.zero_le _, Nat.zero_le _⟩ (fun H locs hP hS => ?_)
  have hP : va_P (dC, dI) vwCl (wd_X7_layWritten h0 h_w h_word h_ahead h_behind h_restM h_restN h_powerM h_powerN h_row c_w c_ahead c_behind c_restM c_restN c_powerM c_powerN v_known v_kept v_size o_6.1 v_behindMany v_ends v_lead v_round v_worthM v_worthN v_w v_ahead v_behind v_restM v_restN o_6.2.1 o_6.2.2) H := hP
  have hD : va_D A (wd_X7_layWritten h0 h_w h_word h_ahead h_behind h_restM h_restN h_powerM h_powerN h_row c_w c_ahead c_behind c_restM c_restN c_powerM c_powerN v_known v_kept v_size o_6.1 v_behindMany v_ends v_lead v_round v_worthM v_worthN v_w v_ahead v_behind v_restM v_restN o_6.2.1 o_6.2.2) := va_D.re hD rfl
  refine lv_lload_n hx hb dX7_layWritten_6 rfl (lv_at hl 1 rfl) ?_
  refine lv_lstore (lv' := [(5, .long x1), (0, .ref h0), (1, .long x1), (3, .long x3)]) hx hb dX7_layWritten_7 hl (by decide) rfl (fun ls hl => ?_)
  refine lv_lload_n hx hb dX7_layWritten_9 rfl (lv_at hl 3 rfl) ?_
  refine lv_lstore (lv' := [(7, .long x3), (5, .long x1), (0, .ref h0), (1, .long x1), (3, .long x3)]) hx hb dX7_layWritten_10 hl (by decide) rfl (fun ls hl => ?_)
  refine lv_aload_n hx hb dX7_layWritten_12 rfl (lv_at hl 2 rfl) ?_
  refine va_get (D := (dC, dI)) (ci := 7) (v := .int o_6.1) (C := RX7) (T := TX7) (N := 19) hx hb hts inn_X7_layWritten_X7 hown hK hP 0 rfl rfl 6 (by decide) (hts (.fieldLink RX7 65 "RingBasesModel" "high" "I") (List.mem_of_getElem? (i := 1) rfl)) (fun _ h9 => h9) rfl dX7_layWritten_13 ?_
  refine lv_istore (lv' := [(9, .int o_6.1), (7, .long x3), (5, .long x1), (0, .ref h0), (1, .long x1), (3, .long x3)]) hx hb dX7_layWritten_16 hl (by decide) rfl (fun ls hl => ?_)
  exact k_18 _ x1 x3 o_6.1 o_6.1 v_behindMany v_ends v_lead v_round v_ahead v_behind v_restM v_restN o_6.2.1 o_6.2.2 hF H locs hP hS ls (lv_sub hl [3, 2, 1, 0] rfl)
set_option maxRecDepth 100000 in
set_option maxHeartbeats 4000000 in
theorem c_X7_layWritten (l : Launch) (dC : Nat → ClassId) (dI : Nat → Nat → Nat) (sz : Nat) (h0 h_w h_word h_ahead h_behind h_restM h_restN h_powerM h_powerN h_row : Nat) (c_w c_ahead c_behind c_restM c_restN c_powerM c_powerN : ClassId) (v_known : Int32) (v_kept : Int32) (v_size : Int32) (v_high : Int32) (v_behindMany : Int32) (v_ends : Int32) (v_lead : Int32) (v_round : Int32) (v_worthM : Int64) (v_worthN : Int64) (v_w : (Nat → Int32)) (v_ahead : (Nat → Int32)) (v_behind : (Nat → Int32)) (v_restM : (Nat → Int64)) (v_restN : (Nat → Int64)) (v_powerM : (Nat → Int64)) (v_powerN : (Nat → Int64)) (x1 : Int64) (x3 : Int64) (o : Int32 × Int32 × Int32 × Int32 × Int32 × (Nat → Int32) × (Nat → Int32) × (Nat → Int64) × (Nat → Int64) × (Nat → Int64) × (Nat → Int64)) (hF : F_X7_layWritten x1 x3 v_behindMany v_ends v_lead v_round v_w v_ahead v_behind v_restM v_restN v_powerM v_powerN = some o) : Met l yX7_layWritten wsX7_layWritten rm_X7_layWritten (va_Pc [.ref h0, .long x1, .long x3] (PcW dC dI sz (wd_X7_layWritten h0 h_w h_word h_ahead h_behind h_restM h_restN h_powerM h_powerN h_row c_w c_ahead c_behind c_restM c_restN c_powerM c_powerN v_known v_kept v_size v_high v_behindMany v_ends v_lead v_round v_worthM v_worthN v_w v_ahead v_behind v_restM v_restN v_powerM v_powerN) [(c_w, .int), (c_ahead, .int), (c_behind, .int), (c_restM, .long), (c_restN, .long), (c_powerM, .long), (c_powerN, .long)])) (va_Qv (fun (_ : Unit) => True) (fun _ t => va_P (dC, dI) vwCl (wd_X7_layWritten h0 h_w h_word h_ahead h_behind h_restM h_restN h_powerM h_powerN h_row c_w c_ahead c_behind c_restM c_restN c_powerM c_powerN v_known v_kept v_size o.1 o.2.1 o.2.2.1 o.2.2.2.1 o.2.2.2.2.1 v_worthM v_worthN v_w o.2.2.2.2.2.1 o.2.2.2.2.2.2.1 o.2.2.2.2.2.2.2.1 o.2.2.2.2.2.2.2.2.1 o.2.2.2.2.2.2.2.2.2.1 o.2.2.2.2.2.2.2.2.2.2) t.heap) (va_A (wd_X7_layWritten h0 h_w h_word h_ahead h_behind h_restM h_restN h_powerM h_powerN h_row c_w c_ahead c_behind c_restM c_restN c_powerM c_powerN v_known v_kept v_size v_high v_behindMany v_ends v_lead v_round v_worthM v_worthN v_w v_ahead v_behind v_restM v_restN v_powerM v_powerN) sz)) 0 0 (va_A (wd_X7_layWritten h0 h_w h_word h_ahead h_behind h_restM h_restN h_powerM h_powerN h_row c_w c_ahead c_behind c_restM c_restN c_powerM c_powerN v_known v_kept v_size v_high v_behindMany v_ends v_lead v_round v_worthM v_worthN v_w v_ahead v_behind v_restM v_restN v_powerM v_powerN) sz) := by
  refine Met.ofW (cc := cX7_layWritten) (maxL := 11) (ret := none) (by decide) rfl ?_
  intro p e s m args below meth c s₁ B hml hv
  obtain ⟨rfl, hsz, hP, hK, hD0, hN⟩ := hv
  subst hsz
  have hl := lv_entry ([.ref h0, .long x1, .long x3]) (n := 11) (Nat.le_of_ble_eq_true rfl)
  rw [lg_entry_eq]
  generalize (lg_sl ([.ref h0, .long x1, .long x3]) ++ List.replicate (11 - (lg_sl ([.ref h0, .long x1, .long x3])).length) Slot.unset).toArray = ls at hl ⊢
  exact b_X7_layWritten h0 h_w h_word h_ahead h_behind h_restM h_restN h_powerM h_powerN h_row c_w c_ahead c_behind c_restM c_restN c_powerM c_powerN v_known v_kept v_size v_high v_behindMany v_ends v_lead v_round v_worthM v_worthN v_w v_ahead v_behind v_restM v_restN v_powerM v_powerN x1 x3 o.1 o.2.1 o.2.2.1 o.2.2.2.1 o.2.2.2.2.1 o.2.2.2.2.2.1 o.2.2.2.2.2.2.1 o.2.2.2.2.2.2.2.1 o.2.2.2.2.2.2.2.2.1 o.2.2.2.2.2.2.2.2.2.1 o.2.2.2.2.2.2.2.2.2.2 hF ⟨B.exec, B.bytes, hml, findClass_of_methodNamed B.named, atoms_spec (ws := wsX7_layWritten) B.pre⟩ hN hK hP (fun q h => Or.inr h) (hD0.self (sz := s.heap.size)) va_S.rf (fun H locs ls pc hP hS hd => W.vret B.exec B.bytes B.returns (fun t ht hW => ⟨⟨(), rfl, trivial, by show va_P (dC, dI) vwCl _ t.heap; rw [ht]; exact hP⟩, hS.F ht⟩) hS.2.2 hd B.notSynchronized) hl
theorem inn_X7_figureAt_X7 : ∀ w ∈ wsX70, w ∈ wsX7_figureAt := fun _ h => List.mem_cons_of_mem _ (List.mem_append_right _ h)
abbrev wd_X7_figureAt (h0 h_w h_word h_ahead h_behind h_restM h_restN h_powerM h_powerN h_row : Nat) (c_ahead c_behind : ClassId) (v_known : Int32) (v_kept : Int32) (v_size : Int32) (v_high : Int32) (v_behindMany : Int32) (v_ends : Int32) (v_lead : Int32) (v_round : Int32) (v_worthM : Int64) (v_worthN : Int64) (v_ahead : (Nat → Int32)) (v_behind : (Nat → Int32)) : va_W := [(h0, .inr (7, [.ref h_w, .int v_known, .int v_kept, .ref h_word, .int v_size, .ref h_ahead, .int v_high, .ref h_behind, .int v_behindMany, .ref h_restM, .ref h_restN, .ref h_powerM, .ref h_powerN, .int v_ends, .int v_lead, .int v_round, .ref h_row, .long v_worthM, .long v_worthN])), (h_ahead, .inl (c_ahead, 64, .inl v_ahead)), (h_behind, .inl (c_behind, 40, .inl v_behind))]
abbrev rm_X7_figureAt : Room := { frames := 0, cells := 0, slots := 0, locals := 0 }
def F_X7_figureAt (x1 : Int32) (v_high : Int32) (v_behindMany : Int32) (v_ahead : (Nat → Int32)) (v_behind : (Nat → Int32)) : Option (Int32) := (if x1 < 0 then (if v_behindMany < (-x1) then (some (0 : Int32)) else (ck ((-x1) - (1 : Int32)) 40 (some (v_behind ((-x1) - (1 : Int32)).toNatClampNeg)))) else (if v_high < x1 then (some (0 : Int32)) else (ck x1 64 (some (v_ahead x1.toNatClampNeg)))))
set_option maxRecDepth 100000 in
set_option maxHeartbeats 4000000 in
theorem b_X7_figureAt {p : Program} {l : Launch} {e : Env} {s : State} {m : MethodId} {args : Array Value} {below : List Frame} {meth : Method} {c : Code} {Q : State → Prop} {dC : Nat → ClassId} {dI : Nat → Nat → Nat} {H : Heap} {locs : List Loc} {ls : Array Slot} (h0 h_w h_word h_ahead h_behind h_restM h_restN h_powerM h_powerN h_row : Nat) (c_ahead c_behind : ClassId) (v_known : Int32) (v_kept : Int32) (v_size : Int32) (v_high : Int32) (v_behindMany : Int32) (v_ends : Int32) (v_lead : Int32) (v_round : Int32) (v_worthM : Int64) (v_worthN : Int64) (v_ahead : (Nat → Int32)) (v_behind : (Nat → Int32)) (x1 : Int32) (ou0 : Int32) (hF : F_X7_figureAt x1 v_high v_behindMany v_ahead v_behind = some ou0) (hC : CallFix p m c cX7_figureAt 2 s args wsX7_figureAt RX7) (hN : NW s) (hK : va_K (dC, dI) vwCl [(c_ahead, .int), (c_behind, .int)] s) (hP : va_P (dC, dI) vwCl (wd_X7_figureAt h0 h_w h_word h_ahead h_behind h_restM h_restN h_powerM h_powerN h_row c_ahead c_behind v_known v_kept v_size v_high v_behindMany v_ends v_lead v_round v_worthM v_worthN v_ahead v_behind) H) (hE : ∀ (ls : Array Slot) (pc : Nat), decode cX7_figureAt pc = .ok (.ireturn, 1) → W p l e rm_X7_figureAt s m args below meth c H locs 0 0 Q (F0 m pc ls [.int ou0])) (hl : lv_has ls 2 [(0, .ref h0), (1, .int x1)]) : W p l e rm_X7_figureAt s m args below meth c H locs 0 0 Q (F0 m 0 ls []) := by
  obtain ⟨hx, hb, hml, hown, hts⟩ := id hC
  unfold F_X7_figureAt at hF
  refine lv_iload_n hx hb dX7_figureAt_0 rfl (lv_at hl 1 rfl) ?_
  refine lv_if_lt (tgt := 23) hx hb dX7_figureAt_1 (by decide) (fun g_1 => ?_) (fun g_1 => ?_)
  · replace hF := ite_t g_1 hF
    refine lv_iload_n hx hb dX7_figureAt_23 rfl (lv_at hl 1 rfl) ?_
    refine lv_ineg hx hb dX7_figureAt_24 ?_
    refine lv_aload_n hx hb dX7_figureAt_25 rfl (lv_at hl 0 rfl) ?_
    refine va_get (D := (dC, dI)) (ci := 7) (v := .int v_behindMany) (C := RX7) (T := TX7) (N := 19) hx hb hts inn_X7_figureAt_X7 hown hK hP 0 rfl rfl 8 (by decide) (hts (.fieldLink RX7 78 "RingBasesModel" "behindMany" "I") (List.mem_of_getElem? (i := 3) rfl)) (fun _ h9 => h9) rfl dX7_figureAt_26 ?_
    refine lv_icmp_gt (tgt := 44) hx hb dX7_figureAt_29 (by decide) (fun g_2 => ?_) (fun g_2 => ?_)
    · replace hF := ite_t g_2 hF
      refine lv_iconst (v := (0 : Int32)) hx hb dX7_figureAt_44 (by decide) ?_
      obtain rfl := Option.some.inj hF; exact hE _ _ dX7_figureAt_45
    · replace hF := ite_f g_2 hF
      refine lv_aload_n hx hb dX7_figureAt_32 rfl (lv_at hl 0 rfl) ?_
      refine va_get (D := (dC, dI)) (ci := 7) (v := .ref h_behind) (C := RX7) (T := TX7) (N := 19) hx hb hts inn_X7_figureAt_X7 hown hK hP 0 rfl rfl 7 (by decide) (hts (.fieldLink RX7 19 "RingBasesModel" "behind" "[I") (List.mem_of_getElem? (i := 4) rfl)) (fun _ h9 => h9) rfl dX7_figureAt_33 ?_
      refine lv_iload_n hx hb dX7_figureAt_36 rfl (lv_at hl 1 rfl) ?_
      refine lv_ineg hx hb dX7_figureAt_37 ?_
      refine lv_iconst (v := (1 : Int32)) hx hb dX7_figureAt_38 (by decide) ?_
      refine lv_isub hx hb dX7_figureAt_39 ?_
      obtain ⟨i_3, hF⟩ := ck_s hF
      refine va_iald hx hb hK hP 2 1 rfl rfl i_3 dX7_figureAt_40 ?_
      refine lv_goto (tgt := 45) hx hb dX7_figureAt_41 (by decide) ?_
      obtain rfl := Option.some.inj hF; exact hE _ _ dX7_figureAt_45
  · replace hF := ite_f g_1 hF
    refine lv_iload_n hx hb dX7_figureAt_4 rfl (lv_at hl 1 rfl) ?_
    refine lv_aload_n hx hb dX7_figureAt_5 rfl (lv_at hl 0 rfl) ?_
    refine va_get (D := (dC, dI)) (ci := 7) (v := .int v_high) (C := RX7) (T := TX7) (N := 19) hx hb hts inn_X7_figureAt_X7 hown hK hP 0 rfl rfl 6 (by decide) (hts (.fieldLink RX7 65 "RingBasesModel" "high" "I") (List.mem_of_getElem? (i := 1) rfl)) (fun _ h9 => h9) rfl dX7_figureAt_6 ?_
    refine lv_icmp_gt (tgt := 21) hx hb dX7_figureAt_9 (by decide) (fun g_4 => ?_) (fun g_4 => ?_)
    · replace hF := ite_t g_4 hF
      refine lv_iconst (v := (0 : Int32)) hx hb dX7_figureAt_21 (by decide) ?_
      obtain rfl := Option.some.inj hF; exact hE _ _ dX7_figureAt_22
    · replace hF := ite_f g_4 hF
      refine lv_aload_n hx hb dX7_figureAt_12 rfl (lv_at hl 0 rfl) ?_
      refine va_get (D := (dC, dI)) (ci := 7) (v := .ref h_ahead) (C := RX7) (T := TX7) (N := 19) hx hb hts inn_X7_figureAt_X7 hown hK hP 0 rfl rfl 5 (by decide) (hts (.fieldLink RX7 16 "RingBasesModel" "ahead" "[I") (List.mem_of_getElem? (i := 2) rfl)) (fun _ h9 => h9) rfl dX7_figureAt_13 ?_
      refine lv_iload_n hx hb dX7_figureAt_16 rfl (lv_at hl 1 rfl) ?_
      obtain ⟨i_5, hF⟩ := ck_s hF
      refine va_iald hx hb hK hP 1 0 rfl rfl i_5 dX7_figureAt_17 ?_
      refine lv_goto (tgt := 22) hx hb dX7_figureAt_18 (by decide) ?_
      obtain rfl := Option.some.inj hF; exact hE _ _ dX7_figureAt_22
set_option maxRecDepth 100000 in
set_option maxHeartbeats 4000000 in
theorem c_X7_figureAt (l : Launch) (dC : Nat → ClassId) (dI : Nat → Nat → Nat) (h0 h_w h_word h_ahead h_behind h_restM h_restN h_powerM h_powerN h_row : Nat) (c_ahead c_behind : ClassId) (v_known : Int32) (v_kept : Int32) (v_size : Int32) (v_high : Int32) (v_behindMany : Int32) (v_ends : Int32) (v_lead : Int32) (v_round : Int32) (v_worthM : Int64) (v_worthN : Int64) (v_ahead : (Nat → Int32)) (v_behind : (Nat → Int32)) (x1 : Int32) (o : Int32) (hF : F_X7_figureAt x1 v_high v_behindMany v_ahead v_behind = some o) : Met l yX7_figureAt wsX7_figureAt rm_X7_figureAt (va_Pc [.ref h0, .int x1] (PcR dC dI (wd_X7_figureAt h0 h_w h_word h_ahead h_behind h_restM h_restN h_powerM h_powerN h_row c_ahead c_behind v_known v_kept v_size v_high v_behindMany v_ends v_lead v_round v_worthM v_worthN v_ahead v_behind) [(c_ahead, .int), (c_behind, .int)])) (vp_Si (fun r => r = o)) 0 0 (fun _ => False) := by
  refine Met.ofW (cc := cX7_figureAt) (maxL := 2) (ret := (some .int)) (by decide) rfl ?_
  intro p e s m args below meth c s₁ B hml hv
  obtain ⟨rfl, hP, hK, hN⟩ := hv
  have hl := lv_entry ([.ref h0, .int x1]) (n := 2) (Nat.le_of_ble_eq_true rfl)
  rw [lg_entry_eq]
  generalize (lg_sl ([.ref h0, .int x1]) ++ List.replicate (2 - (lg_sl ([.ref h0, .int x1])).length) Slot.unset).toArray = ls at hl ⊢
  exact b_X7_figureAt h0 h_w h_word h_ahead h_behind h_restM h_restN h_powerM h_powerN h_row c_ahead c_behind v_known v_kept v_size v_high v_behindMany v_ends v_lead v_round v_worthM v_worthN v_ahead v_behind x1 o hF ⟨B.exec, B.bytes, hml, findClass_of_methodNamed B.named, atoms_spec (ws := wsX7_figureAt) B.pre⟩ hN hK hP (fun ls pc hd => W.iret B.exec B.bytes B.returns (fun t ht hW => ⟨_, rfl, rfl, ht⟩) (fun q h => by cases h) hd B.notSynchronized) hl
theorem inn_X7_figures_X7 : ∀ w ∈ wsX70, w ∈ wsX7_figures := fun _ h => List.mem_cons_of_mem _ (List.mem_append_right _ h)
abbrev wd_X7_figures (h0 h_w h_word h_ahead h_behind h_restM h_restN h_powerM h_powerN h_row : Nat) (c_word : ClassId) (v_known : Int32) (v_kept : Int32) (v_size : Int32) (v_high : Int32) (v_behindMany : Int32) (v_ends : Int32) (v_lead : Int32) (v_round : Int32) (v_worthM : Int64) (v_worthN : Int64) (v_word : (Nat → Int32)) : va_W := [(h0, .inr (7, [.ref h_w, .int v_known, .int v_kept, .ref h_word, .int v_size, .ref h_ahead, .int v_high, .ref h_behind, .int v_behindMany, .ref h_restM, .ref h_restN, .ref h_powerM, .ref h_powerN, .int v_ends, .int v_lead, .int v_round, .ref h_row, .long v_worthM, .long v_worthN])), (h_word, .inl (c_word, 60, .inl v_word))]
abbrev rm_X7_figures : Room := { frames := 0, cells := 0, slots := 0, locals := 0 }
def F_X7_figures_4 (v_size : Int32) (v_word : (Nat → Int32)) : Nat → Int32 → Int32 → Option (Int32)
  | 0, _, _ => none
  | fu + 1, x1, x2 => (if v_size ≤ x2 then (some x1) else (ck x2 60 (if (v_word x2.toNatClampNeg) = (46 : Int32) then (F_X7_figures_4 v_size v_word fu (x1 + (0 : Int32)) (x2 + (1 : Int32))) else (F_X7_figures_4 v_size v_word fu (x1 + (1 : Int32)) (x2 + (1 : Int32))))))
def F_X7_figures (v_size : Int32) (v_word : (Nat → Int32)) : Option (Int32) := (F_X7_figures_4  v_size v_word 128 (0 : Int32) (0 : Int32))
set_option maxRecDepth 100000 in
set_option maxHeartbeats 4000000 in
theorem b_X7_figures {p : Program} {l : Launch} {e : Env} {s : State} {m : MethodId} {args : Array Value} {below : List Frame} {meth : Method} {c : Code} {Q : State → Prop} {dC : Nat → ClassId} {dI : Nat → Nat → Nat} {H : Heap} {locs : List Loc} {ls : Array Slot} (h0 h_w h_word h_ahead h_behind h_restM h_restN h_powerM h_powerN h_row : Nat) (c_word : ClassId) (v_known : Int32) (v_kept : Int32) (v_size : Int32) (v_high : Int32) (v_behindMany : Int32) (v_ends : Int32) (v_lead : Int32) (v_round : Int32) (v_worthM : Int64) (v_worthN : Int64) (v_word : (Nat → Int32)) (ou0 : Int32) (hF : F_X7_figures v_size v_word = some ou0) (hC : CallFix p m c cX7_figures 3 s args wsX7_figures RX7) (hN : NW s) (hK : va_K (dC, dI) vwCl [(c_word, .int)] s) (hP : va_P (dC, dI) vwCl (wd_X7_figures h0 h_w h_word h_ahead h_behind h_restM h_restN h_powerM h_powerN h_row c_word v_known v_kept v_size v_high v_behindMany v_ends v_lead v_round v_worthM v_worthN v_word) H) (hE : ∀ (ls : Array Slot) (pc : Nat), decode cX7_figures pc = .ok (.ireturn, 1) → W p l e rm_X7_figures s m args below meth c H locs 0 0 Q (F0 m pc ls [.int ou0])) (hl : lv_has ls 3 [(0, .ref h0)]) : W p l e rm_X7_figures s m args below meth c H locs 0 0 Q (F0 m 0 ls []) := by
  obtain ⟨hx, hb, hml, hown, hts⟩ := id hC
  unfold F_X7_figures at hF
  have k_4 : ∀ (fu_4 : Nat) (x1 : Int32) (x2 : Int32), F_X7_figures_4  v_size v_word fu_4 x1 x2 = some ou0 → ∀ ls : Array Slot, lv_has ls 3 [(0, .ref h0), (1, .int x1), (2, .int x2)] → W p l e rm_X7_figures s m args below meth c H locs 0 0 Q (F0 m 4 ls []) := by
    intro fu_4
    induction fu_4 with
    | zero => intro x1 x2 hF; rw [F_X7_figures_4] at hF; cases hF
    | succ fu_4 ih =>
      intro x1 x2 hF ls hl
      rw [F_X7_figures_4] at hF
      have ih_4 := ih
      refine lv_iload_n hx hb dX7_figures_4 rfl (lv_at hl 2 rfl) ?_
      refine lv_aload_n hx hb dX7_figures_5 rfl (lv_at hl 0 rfl) ?_
      refine va_get (D := (dC, dI)) (ci := 7) (v := .int v_size) (C := RX7) (T := TX7) (N := 19) hx hb hts inn_X7_figures_X7 hown hK hP 0 rfl rfl 4 (by decide) (hts (.fieldLink RX7 99 "RingBasesModel" "size" "I") (List.mem_of_getElem? (i := 1) rfl)) (fun _ h9 => h9) rfl dX7_figures_6 ?_
      refine lv_icmp_ge (tgt := 37) hx hb dX7_figures_9 (by decide) (fun g_1 => ?_) (fun g_1 => ?_)
      · replace hF := ite_t g_1 hF
        refine lv_iload_n hx hb dX7_figures_37 rfl (lv_at hl 1 rfl) ?_
        obtain rfl := Option.some.inj hF; exact hE _ _ dX7_figures_38
      · replace hF := ite_f g_1 hF
        refine lv_iload_n hx hb dX7_figures_12 rfl (lv_at hl 1 rfl) ?_
        refine lv_aload_n hx hb dX7_figures_13 rfl (lv_at hl 0 rfl) ?_
        refine va_get (D := (dC, dI)) (ci := 7) (v := .ref h_word) (C := RX7) (T := TX7) (N := 19) hx hb hts inn_X7_figures_X7 hown hK hP 0 rfl rfl 3 (by decide) (hts (.fieldLink RX7 13 "RingBasesModel" "word" "[I") (List.mem_of_getElem? (i := 2) rfl)) (fun _ h9 => h9) rfl dX7_figures_14 ?_
        refine lv_iload_n hx hb dX7_figures_17 rfl (lv_at hl 2 rfl) ?_
        obtain ⟨i_2, hF⟩ := ck_s hF
        refine va_iald hx hb hK hP 1 0 rfl rfl i_2 dX7_figures_18 ?_
        refine lv_bipush (v := (46 : Int32)) hx hb dX7_figures_19 (by decide) ?_
        refine lv_icmp_ne (tgt := 28) hx hb dX7_figures_21 (by decide) (fun g_3 => ?_) (fun g_3 => ?_)
        · replace hF := ite_f g_3 hF
          refine lv_iconst (v := (1 : Int32)) hx hb dX7_figures_28 (by decide) ?_
          refine lv_iadd hx hb dX7_figures_29 ?_
          refine lv_istore_n (lv' := [(1, .int (x1 + (1 : Int32))), (0, .ref h0), (2, .int x2)]) hx hb dX7_figures_30 rfl hl (by decide) rfl (fun ls hl => ?_)
          refine lv_iinc (v := (x2 + (1 : Int32))) (lv' := [(2, .int (x2 + (1 : Int32))), (1, .int (x1 + (1 : Int32))), (0, .ref h0)]) hx hb dX7_figures_31 hl (k := 2) rfl rfl (by decide) rfl (fun ls hl => ?_)
          refine lv_goto (tgt := 4) hx hb dX7_figures_34 (by decide) ?_
          exact ih (x1 + (1 : Int32)) (x2 + (1 : Int32)) hF ls (lv_sub hl [2, 1, 0] rfl)
        · replace hF := ite_t g_3 hF
          refine lv_iconst (v := (0 : Int32)) hx hb dX7_figures_24 (by decide) ?_
          refine lv_goto (tgt := 29) hx hb dX7_figures_25 (by decide) ?_
          refine lv_iadd hx hb dX7_figures_29 ?_
          refine lv_istore_n (lv' := [(1, .int (x1 + (0 : Int32))), (0, .ref h0), (2, .int x2)]) hx hb dX7_figures_30 rfl hl (by decide) rfl (fun ls hl => ?_)
          refine lv_iinc (v := (x2 + (1 : Int32))) (lv' := [(2, .int (x2 + (1 : Int32))), (1, .int (x1 + (0 : Int32))), (0, .ref h0)]) hx hb dX7_figures_31 hl (k := 2) rfl rfl (by decide) rfl (fun ls hl => ?_)
          refine lv_goto (tgt := 4) hx hb dX7_figures_34 (by decide) ?_
          exact ih (x1 + (0 : Int32)) (x2 + (1 : Int32)) hF ls (lv_sub hl [2, 1, 0] rfl)
  refine lv_iconst (v := (0 : Int32)) hx hb dX7_figures_0 (by decide) ?_
  refine lv_istore_n (lv' := [(1, .int (0 : Int32)), (0, .ref h0)]) hx hb dX7_figures_1 rfl hl (by decide) rfl (fun ls hl => ?_)
  refine lv_iconst (v := (0 : Int32)) hx hb dX7_figures_2 (by decide) ?_
  refine lv_istore_n (lv' := [(2, .int (0 : Int32)), (1, .int (0 : Int32)), (0, .ref h0)]) hx hb dX7_figures_3 rfl hl (by decide) rfl (fun ls hl => ?_)
  exact k_4 _ (0 : Int32) (0 : Int32) hF ls (lv_sub hl [2, 1, 0] rfl)
set_option maxRecDepth 100000 in
set_option maxHeartbeats 4000000 in
theorem c_X7_figures (l : Launch) (dC : Nat → ClassId) (dI : Nat → Nat → Nat) (h0 h_w h_word h_ahead h_behind h_restM h_restN h_powerM h_powerN h_row : Nat) (c_word : ClassId) (v_known : Int32) (v_kept : Int32) (v_size : Int32) (v_high : Int32) (v_behindMany : Int32) (v_ends : Int32) (v_lead : Int32) (v_round : Int32) (v_worthM : Int64) (v_worthN : Int64) (v_word : (Nat → Int32)) (o : Int32) (hF : F_X7_figures v_size v_word = some o) : Met l yX7_figures wsX7_figures rm_X7_figures (va_Pc [.ref h0] (PcR dC dI (wd_X7_figures h0 h_w h_word h_ahead h_behind h_restM h_restN h_powerM h_powerN h_row c_word v_known v_kept v_size v_high v_behindMany v_ends v_lead v_round v_worthM v_worthN v_word) [(c_word, .int)])) (vp_Si (fun r => r = o)) 0 0 (fun _ => False) := by
  refine Met.ofW (cc := cX7_figures) (maxL := 3) (ret := (some .int)) (by decide) rfl ?_
  intro p e s m args below meth c s₁ B hml hv
  obtain ⟨rfl, hP, hK, hN⟩ := hv
  have hl := lv_entry ([.ref h0]) (n := 3) (Nat.le_of_ble_eq_true rfl)
  rw [lg_entry_eq]
  generalize (lg_sl ([.ref h0]) ++ List.replicate (3 - (lg_sl ([.ref h0])).length) Slot.unset).toArray = ls at hl ⊢
  exact b_X7_figures h0 h_w h_word h_ahead h_behind h_restM h_restN h_powerM h_powerN h_row c_word v_known v_kept v_size v_high v_behindMany v_ends v_lead v_round v_worthM v_worthN v_word o hF ⟨B.exec, B.bytes, hml, findClass_of_methodNamed B.named, atoms_spec (ws := wsX7_figures) B.pre⟩ hN hK hP (fun ls pc hd => W.iret B.exec B.bytes B.returns (fun t ht hW => ⟨_, rfl, rfl, ht⟩) (fun q h => by cases h) hd B.notSynchronized) hl
theorem inn_X7_pointAt_X7 : ∀ w ∈ wsX70, w ∈ wsX7_pointAt := fun _ h => List.mem_cons_of_mem _ (List.mem_append_right _ h)
abbrev wd_X7_pointAt (h0 h_w h_word h_ahead h_behind h_restM h_restN h_powerM h_powerN h_row : Nat) (c_word : ClassId) (v_known : Int32) (v_kept : Int32) (v_size : Int32) (v_high : Int32) (v_behindMany : Int32) (v_ends : Int32) (v_lead : Int32) (v_round : Int32) (v_worthM : Int64) (v_worthN : Int64) (v_word : (Nat → Int32)) : va_W := [(h0, .inr (7, [.ref h_w, .int v_known, .int v_kept, .ref h_word, .int v_size, .ref h_ahead, .int v_high, .ref h_behind, .int v_behindMany, .ref h_restM, .ref h_restN, .ref h_powerM, .ref h_powerN, .int v_ends, .int v_lead, .int v_round, .ref h_row, .long v_worthM, .long v_worthN])), (h_word, .inl (c_word, 60, .inl v_word))]
abbrev rm_X7_pointAt : Room := { frames := 0, cells := 0, slots := 0, locals := 0 }
def F_X7_pointAt_4 (v_size : Int32) (v_word : (Nat → Int32)) : Nat → Int32 → Int32 → Option (Int32)
  | 0, _, _ => none
  | fu + 1, x1, x2 => (if v_size ≤ x2 then (some x1) else (ck x2 60 (if (v_word x2.toNatClampNeg) = (46 : Int32) then (F_X7_pointAt_4 v_size v_word fu x2 (x2 + (1 : Int32))) else (F_X7_pointAt_4 v_size v_word fu x1 (x2 + (1 : Int32))))))
def F_X7_pointAt (v_size : Int32) (v_word : (Nat → Int32)) : Option (Int32) := (F_X7_pointAt_4  v_size v_word 128 (-1 : Int32) (0 : Int32))
set_option maxRecDepth 100000 in
set_option maxHeartbeats 4000000 in
theorem b_X7_pointAt {p : Program} {l : Launch} {e : Env} {s : State} {m : MethodId} {args : Array Value} {below : List Frame} {meth : Method} {c : Code} {Q : State → Prop} {dC : Nat → ClassId} {dI : Nat → Nat → Nat} {H : Heap} {locs : List Loc} {ls : Array Slot} (h0 h_w h_word h_ahead h_behind h_restM h_restN h_powerM h_powerN h_row : Nat) (c_word : ClassId) (v_known : Int32) (v_kept : Int32) (v_size : Int32) (v_high : Int32) (v_behindMany : Int32) (v_ends : Int32) (v_lead : Int32) (v_round : Int32) (v_worthM : Int64) (v_worthN : Int64) (v_word : (Nat → Int32)) (ou0 : Int32) (hF : F_X7_pointAt v_size v_word = some ou0) (hC : CallFix p m c cX7_pointAt 3 s args wsX7_pointAt RX7) (hN : NW s) (hK : va_K (dC, dI) vwCl [(c_word, .int)] s) (hP : va_P (dC, dI) vwCl (wd_X7_pointAt h0 h_w h_word h_ahead h_behind h_restM h_restN h_powerM h_powerN h_row c_word v_known v_kept v_size v_high v_behindMany v_ends v_lead v_round v_worthM v_worthN v_word) H) (hE : ∀ (ls : Array Slot) (pc : Nat), decode cX7_pointAt pc = .ok (.ireturn, 1) → W p l e rm_X7_pointAt s m args below meth c H locs 0 0 Q (F0 m pc ls [.int ou0])) (hl : lv_has ls 3 [(0, .ref h0)]) : W p l e rm_X7_pointAt s m args below meth c H locs 0 0 Q (F0 m 0 ls []) := by
  obtain ⟨hx, hb, hml, hown, hts⟩ := id hC
  unfold F_X7_pointAt at hF
  have k_4 : ∀ (fu_4 : Nat) (x1 : Int32) (x2 : Int32), F_X7_pointAt_4  v_size v_word fu_4 x1 x2 = some ou0 → ∀ ls : Array Slot, lv_has ls 3 [(0, .ref h0), (1, .int x1), (2, .int x2)] → W p l e rm_X7_pointAt s m args below meth c H locs 0 0 Q (F0 m 4 ls []) := by
    intro fu_4
    induction fu_4 with
    | zero => intro x1 x2 hF; rw [F_X7_pointAt_4] at hF; cases hF
    | succ fu_4 ih =>
      intro x1 x2 hF ls hl
      rw [F_X7_pointAt_4] at hF
      have ih_4 := ih
      refine lv_iload_n hx hb dX7_pointAt_4 rfl (lv_at hl 2 rfl) ?_
      refine lv_aload_n hx hb dX7_pointAt_5 rfl (lv_at hl 0 rfl) ?_
      refine va_get (D := (dC, dI)) (ci := 7) (v := .int v_size) (C := RX7) (T := TX7) (N := 19) hx hb hts inn_X7_pointAt_X7 hown hK hP 0 rfl rfl 4 (by decide) (hts (.fieldLink RX7 99 "RingBasesModel" "size" "I") (List.mem_of_getElem? (i := 1) rfl)) (fun _ h9 => h9) rfl dX7_pointAt_6 ?_
      refine lv_icmp_ge (tgt := 35) hx hb dX7_pointAt_9 (by decide) (fun g_1 => ?_) (fun g_1 => ?_)
      · replace hF := ite_t g_1 hF
        refine lv_iload_n hx hb dX7_pointAt_35 rfl (lv_at hl 1 rfl) ?_
        obtain rfl := Option.some.inj hF; exact hE _ _ dX7_pointAt_36
      · replace hF := ite_f g_1 hF
        refine lv_aload_n hx hb dX7_pointAt_12 rfl (lv_at hl 0 rfl) ?_
        refine va_get (D := (dC, dI)) (ci := 7) (v := .ref h_word) (C := RX7) (T := TX7) (N := 19) hx hb hts inn_X7_pointAt_X7 hown hK hP 0 rfl rfl 3 (by decide) (hts (.fieldLink RX7 13 "RingBasesModel" "word" "[I") (List.mem_of_getElem? (i := 2) rfl)) (fun _ h9 => h9) rfl dX7_pointAt_13 ?_
        refine lv_iload_n hx hb dX7_pointAt_16 rfl (lv_at hl 2 rfl) ?_
        obtain ⟨i_2, hF⟩ := ck_s hF
        refine va_iald hx hb hK hP 1 0 rfl rfl i_2 dX7_pointAt_17 ?_
        refine lv_bipush (v := (46 : Int32)) hx hb dX7_pointAt_18 (by decide) ?_
        refine lv_icmp_ne (tgt := 27) hx hb dX7_pointAt_20 (by decide) (fun g_3 => ?_) (fun g_3 => ?_)
        · replace hF := ite_f g_3 hF
          refine lv_iload_n hx hb dX7_pointAt_27 rfl (lv_at hl 1 rfl) ?_
          refine lv_istore_n (lv' := [(1, .int x1), (0, .ref h0), (2, .int x2)]) hx hb dX7_pointAt_28 rfl hl (by decide) rfl (fun ls hl => ?_)
          refine lv_iinc (v := (x2 + (1 : Int32))) (lv' := [(2, .int (x2 + (1 : Int32))), (1, .int x1), (0, .ref h0)]) hx hb dX7_pointAt_29 hl (k := 2) rfl rfl (by decide) rfl (fun ls hl => ?_)
          refine lv_goto (tgt := 4) hx hb dX7_pointAt_32 (by decide) ?_
          exact ih x1 (x2 + (1 : Int32)) hF ls (lv_sub hl [2, 1, 0] rfl)
        · replace hF := ite_t g_3 hF
          refine lv_iload_n hx hb dX7_pointAt_23 rfl (lv_at hl 2 rfl) ?_
          refine lv_goto (tgt := 28) hx hb dX7_pointAt_24 (by decide) ?_
          refine lv_istore_n (lv' := [(1, .int x2), (0, .ref h0), (2, .int x2)]) hx hb dX7_pointAt_28 rfl hl (by decide) rfl (fun ls hl => ?_)
          refine lv_iinc (v := (x2 + (1 : Int32))) (lv' := [(2, .int (x2 + (1 : Int32))), (1, .int x2), (0, .ref h0)]) hx hb dX7_pointAt_29 hl (k := 2) rfl rfl (by decide) rfl (fun ls hl => ?_)
          refine lv_goto (tgt := 4) hx hb dX7_pointAt_32 (by decide) ?_
          exact ih x2 (x2 + (1 : Int32)) hF ls (lv_sub hl [2, 1, 0] rfl)
  refine lv_iconst (v := (-1 : Int32)) hx hb dX7_pointAt_0 (by decide) ?_
  refine lv_istore_n (lv' := [(1, .int (-1 : Int32)), (0, .ref h0)]) hx hb dX7_pointAt_1 rfl hl (by decide) rfl (fun ls hl => ?_)
  refine lv_iconst (v := (0 : Int32)) hx hb dX7_pointAt_2 (by decide) ?_
  refine lv_istore_n (lv' := [(2, .int (0 : Int32)), (1, .int (-1 : Int32)), (0, .ref h0)]) hx hb dX7_pointAt_3 rfl hl (by decide) rfl (fun ls hl => ?_)
  exact k_4 _ (-1 : Int32) (0 : Int32) hF ls (lv_sub hl [2, 1, 0] rfl)
set_option maxRecDepth 100000 in
set_option maxHeartbeats 4000000 in
theorem c_X7_pointAt (l : Launch) (dC : Nat → ClassId) (dI : Nat → Nat → Nat) (h0 h_w h_word h_ahead h_behind h_restM h_restN h_powerM h_powerN h_row : Nat) (c_word : ClassId) (v_known : Int32) (v_kept : Int32) (v_size : Int32) (v_high : Int32) (v_behindMany : Int32) (v_ends : Int32) (v_lead : Int32) (v_round : Int32) (v_worthM : Int64) (v_worthN : Int64) (v_word : (Nat → Int32)) (o : Int32) (hF : F_X7_pointAt v_size v_word = some o) : Met l yX7_pointAt wsX7_pointAt rm_X7_pointAt (va_Pc [.ref h0] (PcR dC dI (wd_X7_pointAt h0 h_w h_word h_ahead h_behind h_restM h_restN h_powerM h_powerN h_row c_word v_known v_kept v_size v_high v_behindMany v_ends v_lead v_round v_worthM v_worthN v_word) [(c_word, .int)])) (vp_Si (fun r => r = o)) 0 0 (fun _ => False) := by
  refine Met.ofW (cc := cX7_pointAt) (maxL := 3) (ret := (some .int)) (by decide) rfl ?_
  intro p e s m args below meth c s₁ B hml hv
  obtain ⟨rfl, hP, hK, hN⟩ := hv
  have hl := lv_entry ([.ref h0]) (n := 3) (Nat.le_of_ble_eq_true rfl)
  rw [lg_entry_eq]
  generalize (lg_sl ([.ref h0]) ++ List.replicate (3 - (lg_sl ([.ref h0])).length) Slot.unset).toArray = ls at hl ⊢
  exact b_X7_pointAt h0 h_w h_word h_ahead h_behind h_restM h_restN h_powerM h_powerN h_row c_word v_known v_kept v_size v_high v_behindMany v_ends v_lead v_round v_worthM v_worthN v_word o hF ⟨B.exec, B.bytes, hml, findClass_of_methodNamed B.named, atoms_spec (ws := wsX7_pointAt) B.pre⟩ hN hK hP (fun ls pc hd => W.iret B.exec B.bytes B.returns (fun t ht hW => ⟨_, rfl, rfl, ht⟩) (fun q h => by cases h) hd B.notSynchronized) hl
theorem inn_X7_layRow_X7 : ∀ w ∈ wsX70, w ∈ wsX7_layRow := fun _ h => List.mem_cons_of_mem _ (List.mem_append_right _ h)
abbrev wd_X7_layRow (h0 h_w h_word h_ahead h_behind h_restM h_restN h_powerM h_powerN h_row : Nat) (c_word c_row : ClassId) (v_known : Int32) (v_kept : Int32) (v_size : Int32) (v_high : Int32) (v_behindMany : Int32) (v_ends : Int32) (v_lead : Int32) (v_round : Int32) (v_worthM : Int64) (v_worthN : Int64) (v_word : (Nat → Int32)) (v_row : (Nat → Int32)) : va_W := [(h0, .inr (7, [.ref h_w, .int v_known, .int v_kept, .ref h_word, .int v_size, .ref h_ahead, .int v_high, .ref h_behind, .int v_behindMany, .ref h_restM, .ref h_restN, .ref h_powerM, .ref h_powerN, .int v_ends, .int v_lead, .int v_round, .ref h_row, .long v_worthM, .long v_worthN])), (h_word, .inl (c_word, 60, .inl v_word)), (h_row, .inl (c_row, 60, .inl v_row))]
abbrev rm_X7_layRow : Room := { frames := 0, cells := 0, slots := 0, locals := 0 }
def F_X7_layRow_4 (v_size : Int32) (v_word : (Nat → Int32)) : Nat → Int32 → Int32 → (Nat → Int32) → Option ((Nat → Int32))
  | 0, _, _, _ => none
  | fu + 1, x1, x2, v_row => (if v_size ≤ x2 then (some v_row) else (ck x2 60 (if (v_word x2.toNatClampNeg) = (46 : Int32) then (F_X7_layRow_4 v_size v_word fu x1 (x2 + (1 : Int32)) v_row) else (ck x1 60 (F_X7_layRow_4 v_size v_word fu (x1 + (1 : Int32)) (x2 + (1 : Int32)) (upd v_row x1.toNatClampNeg ((v_word x2.toNatClampNeg) - (48 : Int32))))))))
def F_X7_layRow (v_size : Int32) (v_word : (Nat → Int32)) (v_row : (Nat → Int32)) : Option ((Nat → Int32)) := (F_X7_layRow_4  v_size v_word 128 (0 : Int32) (0 : Int32) v_row)
set_option maxRecDepth 100000 in
set_option maxHeartbeats 4000000 in
theorem b_X7_layRow {p : Program} {l : Launch} {e : Env} {s : State} {m : MethodId} {args : Array Value} {below : List Frame} {meth : Method} {c : Code} {Q : State → Prop} {dC : Nat → ClassId} {dI : Nat → Nat → Nat} {H : Heap} {locs : List Loc} {ls : Array Slot} {A : Nat → Prop} (h0 h_w h_word h_ahead h_behind h_restM h_restN h_powerM h_powerN h_row : Nat) (c_word c_row : ClassId) (v_known : Int32) (v_kept : Int32) (v_size : Int32) (v_high : Int32) (v_behindMany : Int32) (v_ends : Int32) (v_lead : Int32) (v_round : Int32) (v_worthM : Int64) (v_worthN : Int64) (v_word : (Nat → Int32)) (v_row : (Nat → Int32)) (ou0 : (Nat → Int32)) (hF : F_X7_layRow v_size v_word v_row = some ou0) (hC : CallFix p m c cX7_layRow 3 s args wsX7_layRow RX7) (hN : NW s) (hK : va_K (dC, dI) vwCl [(c_word, .int), (c_row, .int)] s) (hP : va_P (dC, dI) vwCl (wd_X7_layRow h0 h_w h_word h_ahead h_behind h_restM h_restN h_powerM h_powerN h_row c_word c_row v_known v_kept v_size v_high v_behindMany v_ends v_lead v_round v_worthM v_worthN v_word v_row) H) (hA : ∀ q, s.heap.size ≤ q → A q) (hD : va_D A (wd_X7_layRow h0 h_w h_word h_ahead h_behind h_restM h_restN h_powerM h_powerN h_row c_word c_row v_known v_kept v_size v_high v_behindMany v_ends v_lead v_round v_worthM v_worthN v_word v_row)) (hS : va_S A s.heap H locs) (hE : ∀ (H : Heap) (locs : List Loc) (ls : Array Slot) (pc : Nat), va_P (dC, dI) vwCl (wd_X7_layRow h0 h_w h_word h_ahead h_behind h_restM h_restN h_powerM h_powerN h_row c_word c_row v_known v_kept v_size v_high v_behindMany v_ends v_lead v_round v_worthM v_worthN v_word ou0) H → va_S A s.heap H locs → decode cX7_layRow pc = .ok (.return_, 1) → W p l e rm_X7_layRow s m args below meth c H locs 0 0 Q (F0 m pc ls [])) (hl : lv_has ls 3 [(0, .ref h0)]) : W p l e rm_X7_layRow s m args below meth c H locs 0 0 Q (F0 m 0 ls []) := by
  obtain ⟨hx, hb, hml, hown, hts⟩ := id hC
  have hD0 := hD
  unfold F_X7_layRow at hF
  have k_4 : ∀ (fu_4 : Nat) (x1 : Int32) (x2 : Int32) (v_row : (Nat → Int32)), F_X7_layRow_4  v_size v_word fu_4 x1 x2 v_row = some ou0 → ∀ (H : Heap) (locs : List Loc), va_P (dC, dI) vwCl (wd_X7_layRow h0 h_w h_word h_ahead h_behind h_restM h_restN h_powerM h_powerN h_row c_word c_row v_known v_kept v_size v_high v_behindMany v_ends v_lead v_round v_worthM v_worthN v_word v_row) H → va_S A s.heap H locs → ∀ ls : Array Slot, lv_has ls 3 [(0, .ref h0), (1, .int x1), (2, .int x2)] → W p l e rm_X7_layRow s m args below meth c H locs 0 0 Q (F0 m 4 ls []) := by
    intro fu_4
    induction fu_4 with
    | zero => intro x1 x2 v_row hF; rw [F_X7_layRow_4] at hF; cases hF
    | succ fu_4 ih =>
      intro x1 x2 v_row hF H locs hP hS ls hl
      rw [F_X7_layRow_4] at hF
      have ih_4 := ih
      have hD : va_D A (wd_X7_layRow h0 h_w h_word h_ahead h_behind h_restM h_restN h_powerM h_powerN h_row c_word c_row v_known v_kept v_size v_high v_behindMany v_ends v_lead v_round v_worthM v_worthN v_word v_row) := hD0.re rfl
      refine lv_iload_n hx hb dX7_layRow_4 rfl (lv_at hl 2 rfl) ?_
      refine lv_aload_n hx hb dX7_layRow_5 rfl (lv_at hl 0 rfl) ?_
      refine va_get (D := (dC, dI)) (ci := 7) (v := .int v_size) (C := RX7) (T := TX7) (N := 19) hx hb hts inn_X7_layRow_X7 hown hK hP 0 rfl rfl 4 (by decide) (hts (.fieldLink RX7 99 "RingBasesModel" "size" "I") (List.mem_of_getElem? (i := 1) rfl)) (fun _ h9 => h9) rfl dX7_layRow_6 ?_
      refine lv_icmp_ge (tgt := 47) hx hb dX7_layRow_9 (by decide) (fun g_1 => ?_) (fun g_1 => ?_)
      · replace hF := ite_t g_1 hF
        obtain rfl := Option.some.inj hF; exact hE _ _ _ _ hP hS dX7_layRow_47
      · replace hF := ite_f g_1 hF
        refine lv_aload_n hx hb dX7_layRow_12 rfl (lv_at hl 0 rfl) ?_
        refine va_get (D := (dC, dI)) (ci := 7) (v := .ref h_word) (C := RX7) (T := TX7) (N := 19) hx hb hts inn_X7_layRow_X7 hown hK hP 0 rfl rfl 3 (by decide) (hts (.fieldLink RX7 13 "RingBasesModel" "word" "[I") (List.mem_of_getElem? (i := 2) rfl)) (fun _ h9 => h9) rfl dX7_layRow_13 ?_
        refine lv_iload_n hx hb dX7_layRow_16 rfl (lv_at hl 2 rfl) ?_
        obtain ⟨i_2, hF⟩ := ck_s hF
        refine va_iald hx hb hK hP 1 0 rfl rfl i_2 dX7_layRow_17 ?_
        refine lv_bipush (v := (46 : Int32)) hx hb dX7_layRow_18 (by decide) ?_
        refine lv_icmp_eq (tgt := 41) hx hb dX7_layRow_20 (by decide) (fun g_3 => ?_) (fun g_3 => ?_)
        · replace hF := ite_t g_3 hF
          refine lv_iinc (v := (x2 + (1 : Int32))) (lv' := [(2, .int (x2 + (1 : Int32))), (0, .ref h0), (1, .int x1)]) hx hb dX7_layRow_41 hl (k := 2) rfl rfl (by decide) rfl (fun ls hl => ?_)
          refine lv_goto (tgt := 4) hx hb dX7_layRow_44 (by decide) ?_
          exact ih x1 (x2 + (1 : Int32)) v_row hF H locs hP hS ls (lv_sub hl [1, 2, 0] rfl)
        · replace hF := ite_f g_3 hF
          refine lv_aload_n hx hb dX7_layRow_23 rfl (lv_at hl 0 rfl) ?_
          refine va_get (D := (dC, dI)) (ci := 7) (v := .ref h_row) (C := RX7) (T := TX7) (N := 19) hx hb hts inn_X7_layRow_X7 hown hK hP 0 rfl rfl 16 (by decide) (hts (.fieldLink RX7 35 "RingBasesModel" "row" "[I") (List.mem_of_getElem? (i := 3) rfl)) (fun _ h9 => h9) rfl dX7_layRow_24 ?_
          refine lv_iload_n hx hb dX7_layRow_27 rfl (lv_at hl 1 rfl) ?_
          refine lv_aload_n hx hb dX7_layRow_28 rfl (lv_at hl 0 rfl) ?_
          refine va_get (D := (dC, dI)) (ci := 7) (v := .ref h_word) (C := RX7) (T := TX7) (N := 19) hx hb hts inn_X7_layRow_X7 hown hK hP 0 rfl rfl 3 (by decide) (hts (.fieldLink RX7 13 "RingBasesModel" "word" "[I") (List.mem_of_getElem? (i := 2) rfl)) (fun _ h9 => h9) rfl dX7_layRow_29 ?_
          refine lv_iload_n hx hb dX7_layRow_32 rfl (lv_at hl 2 rfl) ?_
          refine va_iald hx hb hK hP 1 0 rfl rfl i_2 dX7_layRow_33 ?_
          refine lv_bipush (v := (48 : Int32)) hx hb dX7_layRow_34 (by decide) ?_
          refine lv_isub hx hb dX7_layRow_36 ?_
          obtain ⟨i_4, hF⟩ := ck_s hF
          refine va_iast hx hb hK hP hD hS 2 1 rfl rfl i_4 dX7_layRow_37 (fun H locs hP hD hS => ?_)
          have hP : va_P (dC, dI) vwCl (wd_X7_layRow h0 h_w h_word h_ahead h_behind h_restM h_restN h_powerM h_powerN h_row c_word c_row v_known v_kept v_size v_high v_behindMany v_ends v_lead v_round v_worthM v_worthN v_word (upd v_row x1.toNatClampNeg ((v_word x2.toNatClampNeg) - (48 : Int32)))) H := hP
          have hD : va_D A (wd_X7_layRow h0 h_w h_word h_ahead h_behind h_restM h_restN h_powerM h_powerN h_row c_word c_row v_known v_kept v_size v_high v_behindMany v_ends v_lead v_round v_worthM v_worthN v_word (upd v_row x1.toNatClampNeg ((v_word x2.toNatClampNeg) - (48 : Int32)))) := hD
          refine lv_iinc (v := (x1 + (1 : Int32))) (lv' := [(1, .int (x1 + (1 : Int32))), (0, .ref h0), (2, .int x2)]) hx hb dX7_layRow_38 hl (k := 1) rfl rfl (by decide) rfl (fun ls hl => ?_)
          refine lv_iinc (v := (x2 + (1 : Int32))) (lv' := [(2, .int (x2 + (1 : Int32))), (1, .int (x1 + (1 : Int32))), (0, .ref h0)]) hx hb dX7_layRow_41 hl (k := 2) rfl rfl (by decide) rfl (fun ls hl => ?_)
          refine lv_goto (tgt := 4) hx hb dX7_layRow_44 (by decide) ?_
          exact ih (x1 + (1 : Int32)) (x2 + (1 : Int32)) (upd v_row x1.toNatClampNeg ((v_word x2.toNatClampNeg) - (48 : Int32))) hF H locs hP hS ls (lv_sub hl [2, 1, 0] rfl)
  refine lv_iconst (v := (0 : Int32)) hx hb dX7_layRow_0 (by decide) ?_
  refine lv_istore_n (lv' := [(1, .int (0 : Int32)), (0, .ref h0)]) hx hb dX7_layRow_1 rfl hl (by decide) rfl (fun ls hl => ?_)
  refine lv_iconst (v := (0 : Int32)) hx hb dX7_layRow_2 (by decide) ?_
  refine lv_istore_n (lv' := [(2, .int (0 : Int32)), (1, .int (0 : Int32)), (0, .ref h0)]) hx hb dX7_layRow_3 rfl hl (by decide) rfl (fun ls hl => ?_)
  exact k_4 _ (0 : Int32) (0 : Int32) v_row hF H locs hP hS ls (lv_sub hl [2, 1, 0] rfl)
set_option maxRecDepth 100000 in
set_option maxHeartbeats 4000000 in
theorem c_X7_layRow (l : Launch) (dC : Nat → ClassId) (dI : Nat → Nat → Nat) (sz : Nat) (h0 h_w h_word h_ahead h_behind h_restM h_restN h_powerM h_powerN h_row : Nat) (c_word c_row : ClassId) (v_known : Int32) (v_kept : Int32) (v_size : Int32) (v_high : Int32) (v_behindMany : Int32) (v_ends : Int32) (v_lead : Int32) (v_round : Int32) (v_worthM : Int64) (v_worthN : Int64) (v_word : (Nat → Int32)) (v_row : (Nat → Int32)) (o : (Nat → Int32)) (hF : F_X7_layRow v_size v_word v_row = some o) : Met l yX7_layRow wsX7_layRow rm_X7_layRow (va_Pc [.ref h0] (PcW dC dI sz (wd_X7_layRow h0 h_w h_word h_ahead h_behind h_restM h_restN h_powerM h_powerN h_row c_word c_row v_known v_kept v_size v_high v_behindMany v_ends v_lead v_round v_worthM v_worthN v_word v_row) [(c_word, .int), (c_row, .int)])) (va_Qv (fun (_ : Unit) => True) (fun _ t => va_P (dC, dI) vwCl (wd_X7_layRow h0 h_w h_word h_ahead h_behind h_restM h_restN h_powerM h_powerN h_row c_word c_row v_known v_kept v_size v_high v_behindMany v_ends v_lead v_round v_worthM v_worthN v_word o) t.heap) (va_A (wd_X7_layRow h0 h_w h_word h_ahead h_behind h_restM h_restN h_powerM h_powerN h_row c_word c_row v_known v_kept v_size v_high v_behindMany v_ends v_lead v_round v_worthM v_worthN v_word v_row) sz)) 0 0 (va_A (wd_X7_layRow h0 h_w h_word h_ahead h_behind h_restM h_restN h_powerM h_powerN h_row c_word c_row v_known v_kept v_size v_high v_behindMany v_ends v_lead v_round v_worthM v_worthN v_word v_row) sz) := by
  refine Met.ofW (cc := cX7_layRow) (maxL := 3) (ret := none) (by decide) rfl ?_
  intro p e s m args below meth c s₁ B hml hv
  obtain ⟨rfl, hsz, hP, hK, hD0, hN⟩ := hv
  subst hsz
  have hl := lv_entry ([.ref h0]) (n := 3) (Nat.le_of_ble_eq_true rfl)
  rw [lg_entry_eq]
  generalize (lg_sl ([.ref h0]) ++ List.replicate (3 - (lg_sl ([.ref h0])).length) Slot.unset).toArray = ls at hl ⊢
  exact b_X7_layRow h0 h_w h_word h_ahead h_behind h_restM h_restN h_powerM h_powerN h_row c_word c_row v_known v_kept v_size v_high v_behindMany v_ends v_lead v_round v_worthM v_worthN v_word v_row o hF ⟨B.exec, B.bytes, hml, findClass_of_methodNamed B.named, atoms_spec (ws := wsX7_layRow) B.pre⟩ hN hK hP (fun q h => Or.inr h) (hD0.self (sz := s.heap.size)) va_S.rf (fun H locs ls pc hP hS hd => W.vret B.exec B.bytes B.returns (fun t ht hW => ⟨⟨(), rfl, trivial, by show va_P (dC, dI) vwCl _ t.heap; rw [ht]; exact hP⟩, hS.F ht⟩) hS.2.2 hd B.notSynchronized) hl
theorem inn_X7_oneAt_X7 : ∀ w ∈ wsX70, w ∈ wsX7_oneAt := fun _ h => List.mem_cons_of_mem _ (List.mem_append_right _ h)
abbrev wd_X7_oneAt (h0 h_w h_word h_ahead h_behind h_restM h_restN h_powerM h_powerN h_row : Nat) (c_w : ClassId) (v_known : Int32) (v_kept : Int32) (v_size : Int32) (v_high : Int32) (v_behindMany : Int32) (v_ends : Int32) (v_lead : Int32) (v_round : Int32) (v_worthM : Int64) (v_worthN : Int64) (v_w : (Nat → Int32)) : va_W := [(h0, .inr (7, [.ref h_w, .int v_known, .int v_kept, .ref h_word, .int v_size, .ref h_ahead, .int v_high, .ref h_behind, .int v_behindMany, .ref h_restM, .ref h_restN, .ref h_powerM, .ref h_powerN, .int v_ends, .int v_lead, .int v_round, .ref h_row, .long v_worthM, .long v_worthN])), (h_w, .inl (c_w, 110, .inl v_w))]
abbrev rm_X7_oneAt : Room := { frames := 0, cells := 0, slots := 0, locals := 0 }
def F_X7_oneAt (x1 : Int32) (v_w : (Nat → Int32)) : Int32 := (if (v_w (1 : Int32).toNatClampNeg) ≤ 0 then (if x1 = 0 then ((v_w (0 : Int32).toNatClampNeg) - (1 : Int32)) else (((v_w (0 : Int32).toNatClampNeg) + (v_w (1 : Int32).toNatClampNeg)) - (1 : Int32))) else (if (x1 - x1 / (2 : Int32) * (2 : Int32)) = 0 then (v_w (0 : Int32).toNatClampNeg) else ((v_w (1 : Int32).toNatClampNeg) - (1 : Int32))))
set_option maxRecDepth 100000 in
set_option maxHeartbeats 4000000 in
theorem b_X7_oneAt {p : Program} {l : Launch} {e : Env} {s : State} {m : MethodId} {args : Array Value} {below : List Frame} {meth : Method} {c : Code} {Q : State → Prop} {dC : Nat → ClassId} {dI : Nat → Nat → Nat} {H : Heap} {locs : List Loc} {ls : Array Slot} (h0 h_w h_word h_ahead h_behind h_restM h_restN h_powerM h_powerN h_row : Nat) (c_w : ClassId) (v_known : Int32) (v_kept : Int32) (v_size : Int32) (v_high : Int32) (v_behindMany : Int32) (v_ends : Int32) (v_lead : Int32) (v_round : Int32) (v_worthM : Int64) (v_worthN : Int64) (v_w : (Nat → Int32)) (x1 : Int32) (ou0 : Int32) (hF : F_X7_oneAt x1 v_w = ou0) (hC : CallFix p m c cX7_oneAt 2 s args wsX7_oneAt RX7) (hN : NW s) (hK : va_K (dC, dI) vwCl [(c_w, .int)] s) (hP : va_P (dC, dI) vwCl (wd_X7_oneAt h0 h_w h_word h_ahead h_behind h_restM h_restN h_powerM h_powerN h_row c_w v_known v_kept v_size v_high v_behindMany v_ends v_lead v_round v_worthM v_worthN v_w) H) (hE : ∀ (ls : Array Slot) (pc : Nat), decode cX7_oneAt pc = .ok (.ireturn, 1) → W p l e rm_X7_oneAt s m args below meth c H locs 0 0 Q (F0 m pc ls [.int ou0])) (hl : lv_has ls 2 [(0, .ref h0), (1, .int x1)]) : W p l e rm_X7_oneAt s m args below meth c H locs 0 0 Q (F0 m 0 ls []) := by
  obtain ⟨hx, hb, hml, hown, hts⟩ := id hC
  unfold F_X7_oneAt at hF
  refine lv_aload_n hx hb dX7_oneAt_0 rfl (lv_at hl 0 rfl) ?_
  refine va_get (D := (dC, dI)) (ci := 7) (v := .ref h_w) (C := RX7) (T := TX7) (N := 19) hx hb hts inn_X7_oneAt_X7 hown hK hP 0 rfl rfl 0 (by decide) (hts (.fieldLink RX7 7 "RingBasesModel" "w" "[I") (List.mem_of_getElem? (i := 1) rfl)) (fun _ h9 => h9) rfl dX7_oneAt_1 ?_
  refine lv_iconst (v := (1 : Int32)) hx hb dX7_oneAt_4 (by decide) ?_
  refine va_iald hx hb hK hP 1 0 rfl rfl (by unfold vp_in; decide) dX7_oneAt_5 ?_
  refine lv_if_le (tgt := 33) hx hb dX7_oneAt_6 (by decide) (fun g_1 => ?_) (fun g_1 => ?_)
  · replace hF := ite_t g_1 hF
    refine lv_iload_n hx hb dX7_oneAt_33 rfl (lv_at hl 1 rfl) ?_
    refine lv_if_ne (tgt := 48) hx hb dX7_oneAt_34 (by decide) (fun g_2 => ?_) (fun g_2 => ?_)
    · replace hF := ite_f g_2 hF
      refine lv_aload_n hx hb dX7_oneAt_48 rfl (lv_at hl 0 rfl) ?_
      refine va_get (D := (dC, dI)) (ci := 7) (v := .ref h_w) (C := RX7) (T := TX7) (N := 19) hx hb hts inn_X7_oneAt_X7 hown hK hP 0 rfl rfl 0 (by decide) (hts (.fieldLink RX7 7 "RingBasesModel" "w" "[I") (List.mem_of_getElem? (i := 1) rfl)) (fun _ h9 => h9) rfl dX7_oneAt_49 ?_
      refine lv_iconst (v := (0 : Int32)) hx hb dX7_oneAt_52 (by decide) ?_
      refine va_iald hx hb hK hP 1 0 rfl rfl (by unfold vp_in; decide) dX7_oneAt_53 ?_
      refine lv_aload_n hx hb dX7_oneAt_54 rfl (lv_at hl 0 rfl) ?_
      refine va_get (D := (dC, dI)) (ci := 7) (v := .ref h_w) (C := RX7) (T := TX7) (N := 19) hx hb hts inn_X7_oneAt_X7 hown hK hP 0 rfl rfl 0 (by decide) (hts (.fieldLink RX7 7 "RingBasesModel" "w" "[I") (List.mem_of_getElem? (i := 1) rfl)) (fun _ h9 => h9) rfl dX7_oneAt_55 ?_
      refine lv_iconst (v := (1 : Int32)) hx hb dX7_oneAt_58 (by decide) ?_
      refine va_iald hx hb hK hP 1 0 rfl rfl (by unfold vp_in; decide) dX7_oneAt_59 ?_
      refine lv_iadd hx hb dX7_oneAt_60 ?_
      refine lv_iconst (v := (1 : Int32)) hx hb dX7_oneAt_61 (by decide) ?_
      refine lv_isub hx hb dX7_oneAt_62 ?_
      obtain rfl := hF; exact hE _ _ dX7_oneAt_63
    · replace hF := ite_t g_2 hF
      refine lv_aload_n hx hb dX7_oneAt_37 rfl (lv_at hl 0 rfl) ?_
      refine va_get (D := (dC, dI)) (ci := 7) (v := .ref h_w) (C := RX7) (T := TX7) (N := 19) hx hb hts inn_X7_oneAt_X7 hown hK hP 0 rfl rfl 0 (by decide) (hts (.fieldLink RX7 7 "RingBasesModel" "w" "[I") (List.mem_of_getElem? (i := 1) rfl)) (fun _ h9 => h9) rfl dX7_oneAt_38 ?_
      refine lv_iconst (v := (0 : Int32)) hx hb dX7_oneAt_41 (by decide) ?_
      refine va_iald hx hb hK hP 1 0 rfl rfl (by unfold vp_in; decide) dX7_oneAt_42 ?_
      refine lv_iconst (v := (1 : Int32)) hx hb dX7_oneAt_43 (by decide) ?_
      refine lv_isub hx hb dX7_oneAt_44 ?_
      refine lv_goto (tgt := 63) hx hb dX7_oneAt_45 (by decide) ?_
      obtain rfl := hF; exact hE _ _ dX7_oneAt_63
  · replace hF := ite_f g_1 hF
    refine lv_iload_n hx hb dX7_oneAt_9 rfl (lv_at hl 1 rfl) ?_
    refine lv_iconst (v := (2 : Int32)) hx hb dX7_oneAt_10 (by decide) ?_
    refine lv_irem hx hb dX7_oneAt_11 (by decide) ?_
    refine lv_if_ne (tgt := 24) hx hb dX7_oneAt_12 (by decide) (fun g_3 => ?_) (fun g_3 => ?_)
    · replace hF := ite_f g_3 hF
      refine lv_aload_n hx hb dX7_oneAt_24 rfl (lv_at hl 0 rfl) ?_
      refine va_get (D := (dC, dI)) (ci := 7) (v := .ref h_w) (C := RX7) (T := TX7) (N := 19) hx hb hts inn_X7_oneAt_X7 hown hK hP 0 rfl rfl 0 (by decide) (hts (.fieldLink RX7 7 "RingBasesModel" "w" "[I") (List.mem_of_getElem? (i := 1) rfl)) (fun _ h9 => h9) rfl dX7_oneAt_25 ?_
      refine lv_iconst (v := (1 : Int32)) hx hb dX7_oneAt_28 (by decide) ?_
      refine va_iald hx hb hK hP 1 0 rfl rfl (by unfold vp_in; decide) dX7_oneAt_29 ?_
      refine lv_iconst (v := (1 : Int32)) hx hb dX7_oneAt_30 (by decide) ?_
      refine lv_isub hx hb dX7_oneAt_31 ?_
      obtain rfl := hF; exact hE _ _ dX7_oneAt_32
    · replace hF := ite_t g_3 hF
      refine lv_aload_n hx hb dX7_oneAt_15 rfl (lv_at hl 0 rfl) ?_
      refine va_get (D := (dC, dI)) (ci := 7) (v := .ref h_w) (C := RX7) (T := TX7) (N := 19) hx hb hts inn_X7_oneAt_X7 hown hK hP 0 rfl rfl 0 (by decide) (hts (.fieldLink RX7 7 "RingBasesModel" "w" "[I") (List.mem_of_getElem? (i := 1) rfl)) (fun _ h9 => h9) rfl dX7_oneAt_16 ?_
      refine lv_iconst (v := (0 : Int32)) hx hb dX7_oneAt_19 (by decide) ?_
      refine va_iald hx hb hK hP 1 0 rfl rfl (by unfold vp_in; decide) dX7_oneAt_20 ?_
      refine lv_goto (tgt := 32) hx hb dX7_oneAt_21 (by decide) ?_
      obtain rfl := hF; exact hE _ _ dX7_oneAt_32
set_option maxRecDepth 100000 in
set_option maxHeartbeats 4000000 in
theorem c_X7_oneAt (l : Launch) (dC : Nat → ClassId) (dI : Nat → Nat → Nat) (h0 h_w h_word h_ahead h_behind h_restM h_restN h_powerM h_powerN h_row : Nat) (c_w : ClassId) (v_known : Int32) (v_kept : Int32) (v_size : Int32) (v_high : Int32) (v_behindMany : Int32) (v_ends : Int32) (v_lead : Int32) (v_round : Int32) (v_worthM : Int64) (v_worthN : Int64) (v_w : (Nat → Int32)) (x1 : Int32) (o : Int32) (hF : F_X7_oneAt x1 v_w = o) : Met l yX7_oneAt wsX7_oneAt rm_X7_oneAt (va_Pc [.ref h0, .int x1] (PcR dC dI (wd_X7_oneAt h0 h_w h_word h_ahead h_behind h_restM h_restN h_powerM h_powerN h_row c_w v_known v_kept v_size v_high v_behindMany v_ends v_lead v_round v_worthM v_worthN v_w) [(c_w, .int)])) (vp_Si (fun r => r = o)) 0 0 (fun _ => False) := by
  refine Met.ofW (cc := cX7_oneAt) (maxL := 2) (ret := (some .int)) (by decide) rfl ?_
  intro p e s m args below meth c s₁ B hml hv
  obtain ⟨rfl, hP, hK, hN⟩ := hv
  have hl := lv_entry ([.ref h0, .int x1]) (n := 2) (Nat.le_of_ble_eq_true rfl)
  rw [lg_entry_eq]
  generalize (lg_sl ([.ref h0, .int x1]) ++ List.replicate (2 - (lg_sl ([.ref h0, .int x1])).length) Slot.unset).toArray = ls at hl ⊢
  exact b_X7_oneAt h0 h_w h_word h_ahead h_behind h_restM h_restN h_powerM h_powerN h_row c_w v_known v_kept v_size v_high v_behindMany v_ends v_lead v_round v_worthM v_worthN v_w x1 o hF ⟨B.exec, B.bytes, hml, findClass_of_methodNamed B.named, atoms_spec (ws := wsX7_oneAt) B.pre⟩ hN hK hP (fun ls pc hd => W.iret B.exec B.bytes B.returns (fun t ht hW => ⟨_, rfl, rfl, ht⟩) (fun q h => by cases h) hd B.notSynchronized) hl
theorem inn_X7_isLess_X7 : ∀ w ∈ wsX70, w ∈ wsX7_isLess := fun _ h => List.mem_cons_of_mem _ (List.mem_append_right _ h)
abbrev wd_X7_isLess (h0 h_w h_word h_ahead h_behind h_restM h_restN h_powerM h_powerN h_row : Nat) (c_w c_row : ClassId) (v_known : Int32) (v_kept : Int32) (v_size : Int32) (v_high : Int32) (v_behindMany : Int32) (v_ends : Int32) (v_lead : Int32) (v_round : Int32) (v_worthM : Int64) (v_worthN : Int64) (v_w : (Nat → Int32)) (v_row : (Nat → Int32)) : va_W := [(h0, .inr (7, [.ref h_w, .int v_known, .int v_kept, .ref h_word, .int v_size, .ref h_ahead, .int v_high, .ref h_behind, .int v_behindMany, .ref h_restM, .ref h_restN, .ref h_powerM, .ref h_powerN, .int v_ends, .int v_lead, .int v_round, .ref h_row, .long v_worthM, .long v_worthN])), (h_w, .inl (c_w, 110, .inl v_w)), (h_row, .inl (c_row, 60, .inl v_row))]
abbrev rm_X7_isLess : Room := { frames := 1, cells := 0, slots := 0, locals := 21 }
def F_X7_isLess_42 (v_w : (Nat → Int32)) (x3 : Int32) (x4 : Int32) : Option (Int32) := (if (F_X7_oneAt x3 v_w) ≤ x4 then (some (0 : Int32)) else (some (1 : Int32)))
def F_X7_isLess_2 (x1 : Int32) (x2 : Int32) (v_w : (Nat → Int32)) (v_row : (Nat → Int32)) : Nat → Int32 → Option (Int32)
  | 0, _ => none
  | fu + 1, x3 => (if ((x2 - x1) + (4 : Int32)) ≤ x3 then (some (0 : Int32)) else (if x2 ≤ (x1 + x3) then (if (0 : Int32) = (F_X7_oneAt x3 v_w) then (F_X7_isLess_2 x1 x2 v_w v_row fu (x3 + (1 : Int32))) else (F_X7_isLess_42  v_w x3 (0 : Int32))) else (ck (x1 + x3) 60 (if (v_row (x1 + x3).toNatClampNeg) = (F_X7_oneAt x3 v_w) then (F_X7_isLess_2 x1 x2 v_w v_row fu (x3 + (1 : Int32))) else (F_X7_isLess_42  v_w x3 (v_row (x1 + x3).toNatClampNeg))))))
def F_X7_isLess (x1 : Int32) (x2 : Int32) (v_w : (Nat → Int32)) (v_row : (Nat → Int32)) : Option (Int32) := (F_X7_isLess_2  x1 x2 v_w v_row 128 (0 : Int32))
set_option maxRecDepth 100000 in
set_option maxHeartbeats 4000000 in
theorem b_X7_isLess {p : Program} {l : Launch} {e : Env} {s : State} {m : MethodId} {args : Array Value} {below : List Frame} {meth : Method} {c : Code} {Q : State → Prop} {dC : Nat → ClassId} {dI : Nat → Nat → Nat} {H : Heap} {locs : List Loc} {ls : Array Slot} (h0 h_w h_word h_ahead h_behind h_restM h_restN h_powerM h_powerN h_row : Nat) (c_w c_row : ClassId) (v_known : Int32) (v_kept : Int32) (v_size : Int32) (v_high : Int32) (v_behindMany : Int32) (v_ends : Int32) (v_lead : Int32) (v_round : Int32) (v_worthM : Int64) (v_worthN : Int64) (v_w : (Nat → Int32)) (v_row : (Nat → Int32)) (x1 : Int32) (x2 : Int32) (ou0 : Int32) (hF : F_X7_isLess x1 x2 v_w v_row = some ou0) (hC : CallFix p m c cX7_isLess 5 s args wsX7_isLess RX7) (hN : NW s) (hK : va_K (dC, dI) vwCl [(c_w, .int), (c_row, .int)] s) (hP : va_P (dC, dI) vwCl (wd_X7_isLess h0 h_w h_word h_ahead h_behind h_restM h_restN h_powerM h_powerN h_row c_w c_row v_known v_kept v_size v_high v_behindMany v_ends v_lead v_round v_worthM v_worthN v_w v_row) H) (hE : ∀ (ls : Array Slot) (pc : Nat), narrow .boolean (.int ou0) = .int ou0 → decode cX7_isLess pc = .ok (.ireturn, 1) → W p l e rm_X7_isLess s m args below meth c H locs 0 0 Q (F0 m pc ls [.int ou0])) (hl : lv_has ls 5 [(0, .ref h0), (1, .int x1), (2, .int x2)]) : W p l e rm_X7_isLess s m args below meth c H locs 0 0 Q (F0 m 0 ls []) := by
  obtain ⟨hx, hb, hml, hown, hts⟩ := id hC
  unfold F_X7_isLess at hF
  have k_2 : ∀ (fu_2 : Nat) (x3 : Int32), F_X7_isLess_2  x1 x2 v_w v_row fu_2 x3 = some ou0 → ∀ ls : Array Slot, lv_has ls 5 [(0, .ref h0), (1, .int x1), (2, .int x2), (3, .int x3)] → W p l e rm_X7_isLess s m args below meth c H locs 0 0 Q (F0 m 2 ls []) := by
    intro fu_2
    induction fu_2 with
    | zero => intro x3 hF; rw [F_X7_isLess_2] at hF; cases hF
    | succ fu_2 ih =>
      intro x3 hF ls hl
      rw [F_X7_isLess_2] at hF
      have ih_2 := ih
      have k_42 : ∀ (x3 : Int32) (x4 : Int32), F_X7_isLess_42  v_w x3 x4 = some ou0 → ∀ ls : Array Slot, lv_has ls 5 [(0, .ref h0), (3, .int x3), (4, .int x4)] → W p l e rm_X7_isLess s m args below meth c H locs 0 0 Q (F0 m 42 ls []) := by
        intro x3 x4 hF ls hl
        rw [F_X7_isLess_42] at hF
        refine lv_iload hx hb dX7_isLess_42 (lv_at hl 2 rfl) ?_
        refine lv_aload_n hx hb dX7_isLess_44 rfl (lv_at hl 0 rfl) ?_
        refine lv_iload_n hx hb dX7_isLess_45 rfl (lv_at hl 1 rfl) ?_
        refine rdVi (As := [.int x3]) (rest := [.int x4]) (b := h0) hC (c_X7_oneAt l dC dI h0 h_w h_word h_ahead h_behind h_restM h_restN h_powerM h_powerN h_row c_w v_known v_kept v_size v_high v_behindMany v_ends v_lead v_round v_worthM v_worthN v_w x3 (F_X7_oneAt x3 v_w) rfl) (cwV 1 hts gX7_isLess_X7_oneAt rfl rfl rfl (by decide +kernel) ⟨Nat.le_of_ble_eq_true rfl, Nat.le_of_ble_eq_true rfl⟩) hN (hK.sub (tys' := [(c_w, .int)]) [0] rfl) (hP.sub (ws' := (wd_X7_oneAt h0 h_w h_word h_ahead h_behind h_restM h_restN h_powerM h_powerN h_row c_w v_known v_kept v_size v_high v_behindMany v_ends v_lead v_round v_worthM v_worthN v_w)) [0, 1] rfl) 0 7 rfl rfl rfl rfl hl.1 (Nat.le_of_ble_eq_true rfl) dX7_isLess_46 ⟨Nat.zero_le _, Nat.zero_le _⟩ ?_
        refine lv_icmp_ge (tgt := 56) hx hb dX7_isLess_49 (by decide) (fun g_1 => ?_) (fun g_1 => ?_)
        · replace hF := ite_t g_1 hF
          refine lv_iconst (v := (0 : Int32)) hx hb dX7_isLess_56 (by decide) ?_
          obtain rfl := Option.some.inj hF; exact hE _ _ (zk_n (Or.inl rfl)) dX7_isLess_57
        · replace hF := ite_f g_1 hF
          refine lv_iconst (v := (1 : Int32)) hx hb dX7_isLess_52 (by decide) ?_
          refine lv_goto (tgt := 57) hx hb dX7_isLess_53 (by decide) ?_
          obtain rfl := Option.some.inj hF; exact hE _ _ (zk_n (Or.inr rfl)) dX7_isLess_57
      refine lv_iload_n hx hb dX7_isLess_2 rfl (lv_at hl 3 rfl) ?_
      refine lv_iload_n hx hb dX7_isLess_3 rfl (lv_at hl 2 rfl) ?_
      refine lv_iload_n hx hb dX7_isLess_4 rfl (lv_at hl 1 rfl) ?_
      refine lv_isub hx hb dX7_isLess_5 ?_
      refine lv_iconst (v := (4 : Int32)) hx hb dX7_isLess_6 (by decide) ?_
      refine lv_iadd hx hb dX7_isLess_7 ?_
      refine lv_icmp_ge (tgt := 64) hx hb dX7_isLess_8 (by decide) (fun g_2 => ?_) (fun g_2 => ?_)
      · replace hF := ite_t g_2 hF
        refine lv_iconst (v := (0 : Int32)) hx hb dX7_isLess_64 (by decide) ?_
        obtain rfl := Option.some.inj hF; exact hE _ _ (zk_n (Or.inl rfl)) dX7_isLess_65
      · replace hF := ite_f g_2 hF
        refine lv_iload_n hx hb dX7_isLess_11 rfl (lv_at hl 1 rfl) ?_
        refine lv_iload_n hx hb dX7_isLess_12 rfl (lv_at hl 3 rfl) ?_
        refine lv_iadd hx hb dX7_isLess_13 ?_
        refine lv_iload_n hx hb dX7_isLess_14 rfl (lv_at hl 2 rfl) ?_
        refine lv_icmp_ge (tgt := 29) hx hb dX7_isLess_15 (by decide) (fun g_3 => ?_) (fun g_3 => ?_)
        · replace hF := ite_t g_3 hF
          refine lv_iconst (v := (0 : Int32)) hx hb dX7_isLess_29 (by decide) ?_
          refine lv_istore (lv' := [(4, .int (0 : Int32)), (0, .ref h0), (1, .int x1), (2, .int x2), (3, .int x3)]) hx hb dX7_isLess_30 hl (by decide) rfl (fun ls hl => ?_)
          refine lv_iload hx hb dX7_isLess_32 (lv_at hl 0 rfl) ?_
          refine lv_aload_n hx hb dX7_isLess_34 rfl (lv_at hl 1 rfl) ?_
          refine lv_iload_n hx hb dX7_isLess_35 rfl (lv_at hl 4 rfl) ?_
          refine rdVi (As := [.int x3]) (rest := [.int (0 : Int32)]) (b := h0) hC (c_X7_oneAt l dC dI h0 h_w h_word h_ahead h_behind h_restM h_restN h_powerM h_powerN h_row c_w v_known v_kept v_size v_high v_behindMany v_ends v_lead v_round v_worthM v_worthN v_w x3 (F_X7_oneAt x3 v_w) rfl) (cwV 1 hts gX7_isLess_X7_oneAt rfl rfl rfl (by decide +kernel) ⟨Nat.le_of_ble_eq_true rfl, Nat.le_of_ble_eq_true rfl⟩) hN (hK.sub (tys' := [(c_w, .int)]) [0] rfl) (hP.sub (ws' := (wd_X7_oneAt h0 h_w h_word h_ahead h_behind h_restM h_restN h_powerM h_powerN h_row c_w v_known v_kept v_size v_high v_behindMany v_ends v_lead v_round v_worthM v_worthN v_w)) [0, 1] rfl) 0 7 rfl rfl rfl rfl hl.1 (Nat.le_of_ble_eq_true rfl) dX7_isLess_36 ⟨Nat.zero_le _, Nat.zero_le _⟩ ?_
          refine lv_icmp_eq (tgt := 58) hx hb dX7_isLess_39 (by decide) (fun g_4 => ?_) (fun g_4 => ?_)
          · replace hF := ite_t g_4 hF
            refine lv_iinc (v := (x3 + (1 : Int32))) (lv' := [(3, .int (x3 + (1 : Int32))), (4, .int (0 : Int32)), (0, .ref h0), (1, .int x1), (2, .int x2)]) hx hb dX7_isLess_58 hl (k := 4) rfl rfl (by decide) rfl (fun ls hl => ?_)
            refine lv_goto (tgt := 2) hx hb dX7_isLess_61 (by decide) ?_
            exact ih (x3 + (1 : Int32)) hF ls (lv_sub hl [2, 3, 4, 0] rfl)
          · replace hF := ite_f g_4 hF
            exact k_42 x3 (0 : Int32) hF ls (lv_sub hl [1, 4, 0] rfl)
        · replace hF := ite_f g_3 hF
          refine lv_aload_n hx hb dX7_isLess_18 rfl (lv_at hl 0 rfl) ?_
          refine va_get (D := (dC, dI)) (ci := 7) (v := .ref h_row) (C := RX7) (T := TX7) (N := 19) hx hb hts inn_X7_isLess_X7 hown hK hP 0 rfl rfl 16 (by decide) (hts (.fieldLink RX7 35 "RingBasesModel" "row" "[I") (List.mem_of_getElem? (i := 1) rfl)) (fun _ h9 => h9) rfl dX7_isLess_19 ?_
          refine lv_iload_n hx hb dX7_isLess_22 rfl (lv_at hl 1 rfl) ?_
          refine lv_iload_n hx hb dX7_isLess_23 rfl (lv_at hl 3 rfl) ?_
          refine lv_iadd hx hb dX7_isLess_24 ?_
          obtain ⟨i_5, hF⟩ := ck_s hF
          refine va_iald hx hb hK hP 2 1 rfl rfl i_5 dX7_isLess_25 ?_
          refine lv_goto (tgt := 30) hx hb dX7_isLess_26 (by decide) ?_
          refine lv_istore (lv' := [(4, .int (v_row (x1 + x3).toNatClampNeg)), (0, .ref h0), (1, .int x1), (2, .int x2), (3, .int x3)]) hx hb dX7_isLess_30 hl (by decide) rfl (fun ls hl => ?_)
          refine lv_iload hx hb dX7_isLess_32 (lv_at hl 0 rfl) ?_
          refine lv_aload_n hx hb dX7_isLess_34 rfl (lv_at hl 1 rfl) ?_
          refine lv_iload_n hx hb dX7_isLess_35 rfl (lv_at hl 4 rfl) ?_
          refine rdVi (As := [.int x3]) (rest := [.int (v_row (x1 + x3).toNatClampNeg)]) (b := h0) hC (c_X7_oneAt l dC dI h0 h_w h_word h_ahead h_behind h_restM h_restN h_powerM h_powerN h_row c_w v_known v_kept v_size v_high v_behindMany v_ends v_lead v_round v_worthM v_worthN v_w x3 (F_X7_oneAt x3 v_w) rfl) (cwV 1 hts gX7_isLess_X7_oneAt rfl rfl rfl (by decide +kernel) ⟨Nat.le_of_ble_eq_true rfl, Nat.le_of_ble_eq_true rfl⟩) hN (hK.sub (tys' := [(c_w, .int)]) [0] rfl) (hP.sub (ws' := (wd_X7_oneAt h0 h_w h_word h_ahead h_behind h_restM h_restN h_powerM h_powerN h_row c_w v_known v_kept v_size v_high v_behindMany v_ends v_lead v_round v_worthM v_worthN v_w)) [0, 1] rfl) 0 7 rfl rfl rfl rfl hl.1 (Nat.le_of_ble_eq_true rfl) dX7_isLess_36 ⟨Nat.zero_le _, Nat.zero_le _⟩ ?_
          refine lv_icmp_eq (tgt := 58) hx hb dX7_isLess_39 (by decide) (fun g_6 => ?_) (fun g_6 => ?_)
          · replace hF := ite_t g_6 hF
            refine lv_iinc (v := (x3 + (1 : Int32))) (lv' := [(3, .int (x3 + (1 : Int32))), (4, .int (v_row (x1 + x3).toNatClampNeg)), (0, .ref h0), (1, .int x1), (2, .int x2)]) hx hb dX7_isLess_58 hl (k := 4) rfl rfl (by decide) rfl (fun ls hl => ?_)
            refine lv_goto (tgt := 2) hx hb dX7_isLess_61 (by decide) ?_
            exact ih (x3 + (1 : Int32)) hF ls (lv_sub hl [2, 3, 4, 0] rfl)
          · replace hF := ite_f g_6 hF
            exact k_42 x3 (v_row (x1 + x3).toNatClampNeg) hF ls (lv_sub hl [1, 4, 0] rfl)
  refine lv_iconst (v := (0 : Int32)) hx hb dX7_isLess_0 (by decide) ?_
  refine lv_istore_n (lv' := [(3, .int (0 : Int32)), (0, .ref h0), (1, .int x1), (2, .int x2)]) hx hb dX7_isLess_1 rfl hl (by decide) rfl (fun ls hl => ?_)
  exact k_2 _ (0 : Int32) hF ls (lv_sub hl [1, 2, 3, 0] rfl)
set_option maxRecDepth 100000 in
set_option maxHeartbeats 4000000 in
theorem c_X7_isLess (l : Launch) (dC : Nat → ClassId) (dI : Nat → Nat → Nat) (h0 h_w h_word h_ahead h_behind h_restM h_restN h_powerM h_powerN h_row : Nat) (c_w c_row : ClassId) (v_known : Int32) (v_kept : Int32) (v_size : Int32) (v_high : Int32) (v_behindMany : Int32) (v_ends : Int32) (v_lead : Int32) (v_round : Int32) (v_worthM : Int64) (v_worthN : Int64) (v_w : (Nat → Int32)) (v_row : (Nat → Int32)) (x1 : Int32) (x2 : Int32) (o : Int32) (hF : F_X7_isLess x1 x2 v_w v_row = some o) : Met l yX7_isLess wsX7_isLess rm_X7_isLess (va_Pc [.ref h0, .int x1, .int x2] (PcR dC dI (wd_X7_isLess h0 h_w h_word h_ahead h_behind h_restM h_restN h_powerM h_powerN h_row c_w c_row v_known v_kept v_size v_high v_behindMany v_ends v_lead v_round v_worthM v_worthN v_w v_row) [(c_w, .int), (c_row, .int)])) (vp_Si (fun r => r = o)) 0 0 (fun _ => False) := by
  refine Met.ofW (cc := cX7_isLess) (maxL := 5) (ret := (some .boolean)) (by decide) rfl ?_
  intro p e s m args below meth c s₁ B hml hv
  obtain ⟨rfl, hP, hK, hN⟩ := hv
  have hl := lv_entry ([.ref h0, .int x1, .int x2]) (n := 5) (Nat.le_of_ble_eq_true rfl)
  rw [lg_entry_eq]
  generalize (lg_sl ([.ref h0, .int x1, .int x2]) ++ List.replicate (5 - (lg_sl ([.ref h0, .int x1, .int x2])).length) Slot.unset).toArray = ls at hl ⊢
  exact b_X7_isLess h0 h_w h_word h_ahead h_behind h_restM h_restN h_powerM h_powerN h_row c_w c_row v_known v_kept v_size v_high v_behindMany v_ends v_lead v_round v_worthM v_worthN v_w v_row x1 x2 o hF ⟨B.exec, B.bytes, hml, findClass_of_methodNamed B.named, atoms_spec (ws := wsX7_isLess) B.pre⟩ hN hK hP (fun ls pc hn hd => W.zret B.exec B.bytes B.returns hn (fun t ht hW => ⟨_, rfl, rfl, ht⟩) (fun q h => by cases h) hd B.notSynchronized) hl
abbrev wd_X7_isWell (h0 h_w h_word h_ahead h_behind h_restM h_restN h_powerM h_powerN h_row : Nat) (c_w c_row : ClassId) (v_known : Int32) (v_kept : Int32) (v_size : Int32) (v_high : Int32) (v_behindMany : Int32) (v_ends : Int32) (v_lead : Int32) (v_round : Int32) (v_worthM : Int64) (v_worthN : Int64) (v_w : (Nat → Int32)) (v_row : (Nat → Int32)) : va_W := [(h0, .inr (7, [.ref h_w, .int v_known, .int v_kept, .ref h_word, .int v_size, .ref h_ahead, .int v_high, .ref h_behind, .int v_behindMany, .ref h_restM, .ref h_restN, .ref h_powerM, .ref h_powerN, .int v_ends, .int v_lead, .int v_round, .ref h_row, .long v_worthM, .long v_worthN])), (h_w, .inl (c_w, 110, .inl v_w)), (h_row, .inl (c_row, 60, .inl v_row))]
abbrev rm_X7_isWell : Room := { frames := 2, cells := 0, slots := 0, locals := 45 }
def F_X7_isWell_4 (x1 : Int32) (v_w : (Nat → Int32)) (v_row : (Nat → Int32)) : Nat → Int32 → Int32 → Option (Int32)
  | 0, _, _ => none
  | fu + 1, x2, x3 => (if x1 ≤ x3 then (zk x2 (some x2)) else (if x2 = 0 then (F_X7_isWell_4 x1 v_w v_row fu (0 : Int32) (x3 + (1 : Int32))) else ((F_X7_isLess x3 x1 v_w v_row).bind fun o_4 => (if o_4 = 0 then (F_X7_isWell_4 x1 v_w v_row fu (0 : Int32) (x3 + (1 : Int32))) else (F_X7_isWell_4 x1 v_w v_row fu (1 : Int32) (x3 + (1 : Int32)))))))
def F_X7_isWell (x1 : Int32) (v_w : (Nat → Int32)) (v_row : (Nat → Int32)) : Option (Int32) := (F_X7_isWell_4  x1 v_w v_row 128 (1 : Int32) (0 : Int32))
set_option maxRecDepth 100000 in
set_option maxHeartbeats 4000000 in
theorem b_X7_isWell {p : Program} {l : Launch} {e : Env} {s : State} {m : MethodId} {args : Array Value} {below : List Frame} {meth : Method} {c : Code} {Q : State → Prop} {dC : Nat → ClassId} {dI : Nat → Nat → Nat} {H : Heap} {locs : List Loc} {ls : Array Slot} (h0 h_w h_word h_ahead h_behind h_restM h_restN h_powerM h_powerN h_row : Nat) (c_w c_row : ClassId) (v_known : Int32) (v_kept : Int32) (v_size : Int32) (v_high : Int32) (v_behindMany : Int32) (v_ends : Int32) (v_lead : Int32) (v_round : Int32) (v_worthM : Int64) (v_worthN : Int64) (v_w : (Nat → Int32)) (v_row : (Nat → Int32)) (x1 : Int32) (ou0 : Int32) (hF : F_X7_isWell x1 v_w v_row = some ou0) (hC : CallFix p m c cX7_isWell 4 s args wsX7_isWell RX7) (hN : NW s) (hK : va_K (dC, dI) vwCl [(c_w, .int), (c_row, .int)] s) (hP : va_P (dC, dI) vwCl (wd_X7_isWell h0 h_w h_word h_ahead h_behind h_restM h_restN h_powerM h_powerN h_row c_w c_row v_known v_kept v_size v_high v_behindMany v_ends v_lead v_round v_worthM v_worthN v_w v_row) H) (hE : ∀ (ls : Array Slot) (pc : Nat), narrow .boolean (.int ou0) = .int ou0 → decode cX7_isWell pc = .ok (.ireturn, 1) → W p l e rm_X7_isWell s m args below meth c H locs 0 0 Q (F0 m pc ls [.int ou0])) (hl : lv_has ls 4 [(0, .ref h0), (1, .int x1)]) : W p l e rm_X7_isWell s m args below meth c H locs 0 0 Q (F0 m 0 ls []) := by
  obtain ⟨hx, hb, hml, hown, hts⟩ := id hC
  unfold F_X7_isWell at hF
  have k_4 : ∀ (fu_4 : Nat) (x2 : Int32) (x3 : Int32), F_X7_isWell_4  x1 v_w v_row fu_4 x2 x3 = some ou0 → ∀ ls : Array Slot, lv_has ls 4 [(0, .ref h0), (1, .int x1), (2, .int x2), (3, .int x3)] → W p l e rm_X7_isWell s m args below meth c H locs 0 0 Q (F0 m 4 ls []) := by
    intro fu_4
    induction fu_4 with
    | zero => intro x2 x3 hF; rw [F_X7_isWell_4] at hF; cases hF
    | succ fu_4 ih =>
      intro x2 x3 hF ls hl
      rw [F_X7_isWell_4] at hF
      have ih_4 := ih
      refine lv_iload_n hx hb dX7_isWell_4 rfl (lv_at hl 3 rfl) ?_
      refine lv_iload_n hx hb dX7_isWell_5 rfl (lv_at hl 1 rfl) ?_
      refine lv_icmp_ge (tgt := 34) hx hb dX7_isWell_6 (by decide) (fun g_1 => ?_) (fun g_1 => ?_)
      · replace hF := ite_t g_1 hF
        refine lv_iload_n hx hb dX7_isWell_34 rfl (lv_at hl 2 rfl) ?_
        obtain ⟨z_2, hF⟩ := zk_s hF
        obtain rfl := Option.some.inj hF; exact hE _ _ (zk_n z_2) dX7_isWell_35
      · replace hF := ite_f g_1 hF
        refine lv_iload_n hx hb dX7_isWell_9 rfl (lv_at hl 2 rfl) ?_
        refine lv_if_eq (tgt := 26) hx hb dX7_isWell_10 (by decide) (fun g_3 => ?_) (fun g_3 => ?_)
        · replace hF := ite_t g_3 hF
          refine lv_iconst (v := (0 : Int32)) hx hb dX7_isWell_26 (by decide) ?_
          refine lv_istore_n (lv' := [(2, .int (0 : Int32)), (0, .ref h0), (1, .int x1), (3, .int x3)]) hx hb dX7_isWell_27 rfl hl (by decide) rfl (fun ls hl => ?_)
          refine lv_iinc (v := (x3 + (1 : Int32))) (lv' := [(3, .int (x3 + (1 : Int32))), (2, .int (0 : Int32)), (0, .ref h0), (1, .int x1)]) hx hb dX7_isWell_28 hl (k := 3) rfl rfl (by decide) rfl (fun ls hl => ?_)
          refine lv_goto (tgt := 4) hx hb dX7_isWell_31 (by decide) ?_
          exact ih (0 : Int32) (x3 + (1 : Int32)) hF ls (lv_sub hl [2, 3, 1, 0] rfl)
        · replace hF := ite_f g_3 hF
          refine lv_aload_n hx hb dX7_isWell_13 rfl (lv_at hl 0 rfl) ?_
          refine lv_iload_n hx hb dX7_isWell_14 rfl (lv_at hl 3 rfl) ?_
          refine lv_iload_n hx hb dX7_isWell_15 rfl (lv_at hl 1 rfl) ?_
          obtain ⟨o_4, hc_o_4, hF⟩ := bd_s hF
          refine rdVi (As := [.int x3, .int x1]) (rest := []) (b := h0) hC (c_X7_isLess l dC dI h0 h_w h_word h_ahead h_behind h_restM h_restN h_powerM h_powerN h_row c_w c_row v_known v_kept v_size v_high v_behindMany v_ends v_lead v_round v_worthM v_worthN v_w v_row x3 x1 o_4 hc_o_4) (cwV 2 hts gX7_isWell_X7_isLess rfl rfl rfl (by decide +kernel) ⟨Nat.le_of_ble_eq_true rfl, Nat.le_of_ble_eq_true rfl⟩) hN (hK.sub (tys' := [(c_w, .int), (c_row, .int)]) [0, 1] rfl) (hP.sub (ws' := (wd_X7_isLess h0 h_w h_word h_ahead h_behind h_restM h_restN h_powerM h_powerN h_row c_w c_row v_known v_kept v_size v_high v_behindMany v_ends v_lead v_round v_worthM v_worthN v_w v_row)) [0, 1, 2] rfl) 0 7 rfl rfl rfl rfl hl.1 (Nat.le_of_ble_eq_true rfl) dX7_isWell_16 ⟨Nat.zero_le _, Nat.zero_le _⟩ ?_
          refine lv_if_eq (tgt := 26) hx hb dX7_isWell_19 (by decide) (fun g_5 => ?_) (fun g_5 => ?_)
          · replace hF := ite_t g_5 hF
            refine lv_iconst (v := (0 : Int32)) hx hb dX7_isWell_26 (by decide) ?_
            refine lv_istore_n (lv' := [(2, .int (0 : Int32)), (0, .ref h0), (1, .int x1), (3, .int x3)]) hx hb dX7_isWell_27 rfl hl (by decide) rfl (fun ls hl => ?_)
            refine lv_iinc (v := (x3 + (1 : Int32))) (lv' := [(3, .int (x3 + (1 : Int32))), (2, .int (0 : Int32)), (0, .ref h0), (1, .int x1)]) hx hb dX7_isWell_28 hl (k := 3) rfl rfl (by decide) rfl (fun ls hl => ?_)
            refine lv_goto (tgt := 4) hx hb dX7_isWell_31 (by decide) ?_
            exact ih (0 : Int32) (x3 + (1 : Int32)) hF ls (lv_sub hl [2, 3, 1, 0] rfl)
          · replace hF := ite_f g_5 hF
            refine lv_iconst (v := (1 : Int32)) hx hb dX7_isWell_22 (by decide) ?_
            refine lv_goto (tgt := 27) hx hb dX7_isWell_23 (by decide) ?_
            refine lv_istore_n (lv' := [(2, .int (1 : Int32)), (0, .ref h0), (1, .int x1), (3, .int x3)]) hx hb dX7_isWell_27 rfl hl (by decide) rfl (fun ls hl => ?_)
            refine lv_iinc (v := (x3 + (1 : Int32))) (lv' := [(3, .int (x3 + (1 : Int32))), (2, .int (1 : Int32)), (0, .ref h0), (1, .int x1)]) hx hb dX7_isWell_28 hl (k := 3) rfl rfl (by decide) rfl (fun ls hl => ?_)
            refine lv_goto (tgt := 4) hx hb dX7_isWell_31 (by decide) ?_
            exact ih (1 : Int32) (x3 + (1 : Int32)) hF ls (lv_sub hl [2, 3, 1, 0] rfl)
  refine lv_iconst (v := (1 : Int32)) hx hb dX7_isWell_0 (by decide) ?_
  refine lv_istore_n (lv' := [(2, .int (1 : Int32)), (0, .ref h0), (1, .int x1)]) hx hb dX7_isWell_1 rfl hl (by decide) rfl (fun ls hl => ?_)
  refine lv_iconst (v := (0 : Int32)) hx hb dX7_isWell_2 (by decide) ?_
  refine lv_istore_n (lv' := [(3, .int (0 : Int32)), (2, .int (1 : Int32)), (0, .ref h0), (1, .int x1)]) hx hb dX7_isWell_3 rfl hl (by decide) rfl (fun ls hl => ?_)
  exact k_4 _ (1 : Int32) (0 : Int32) hF ls (lv_sub hl [2, 3, 1, 0] rfl)
set_option maxRecDepth 100000 in
set_option maxHeartbeats 4000000 in
theorem c_X7_isWell (l : Launch) (dC : Nat → ClassId) (dI : Nat → Nat → Nat) (h0 h_w h_word h_ahead h_behind h_restM h_restN h_powerM h_powerN h_row : Nat) (c_w c_row : ClassId) (v_known : Int32) (v_kept : Int32) (v_size : Int32) (v_high : Int32) (v_behindMany : Int32) (v_ends : Int32) (v_lead : Int32) (v_round : Int32) (v_worthM : Int64) (v_worthN : Int64) (v_w : (Nat → Int32)) (v_row : (Nat → Int32)) (x1 : Int32) (o : Int32) (hF : F_X7_isWell x1 v_w v_row = some o) : Met l yX7_isWell wsX7_isWell rm_X7_isWell (va_Pc [.ref h0, .int x1] (PcR dC dI (wd_X7_isWell h0 h_w h_word h_ahead h_behind h_restM h_restN h_powerM h_powerN h_row c_w c_row v_known v_kept v_size v_high v_behindMany v_ends v_lead v_round v_worthM v_worthN v_w v_row) [(c_w, .int), (c_row, .int)])) (vp_Si (fun r => r = o)) 0 0 (fun _ => False) := by
  refine Met.ofW (cc := cX7_isWell) (maxL := 4) (ret := (some .boolean)) (by decide) rfl ?_
  intro p e s m args below meth c s₁ B hml hv
  obtain ⟨rfl, hP, hK, hN⟩ := hv
  have hl := lv_entry ([.ref h0, .int x1]) (n := 4) (Nat.le_of_ble_eq_true rfl)
  rw [lg_entry_eq]
  generalize (lg_sl ([.ref h0, .int x1]) ++ List.replicate (4 - (lg_sl ([.ref h0, .int x1])).length) Slot.unset).toArray = ls at hl ⊢
  exact b_X7_isWell h0 h_w h_word h_ahead h_behind h_restM h_restN h_powerM h_powerN h_row c_w c_row v_known v_kept v_size v_high v_behindMany v_ends v_lead v_round v_worthM v_worthN v_w v_row x1 o hF ⟨B.exec, B.bytes, hml, findClass_of_methodNamed B.named, atoms_spec (ws := wsX7_isWell) B.pre⟩ hN hK hP (fun ls pc hn hd => W.zret B.exec B.bytes B.returns hn (fun t ht hW => ⟨_, rfl, rfl, ht⟩) (fun q h => by cases h) hd B.notSynchronized) hl
abbrev wd_X7_badly (h0 h_w h_word h_ahead h_behind h_restM h_restN h_powerM h_powerN h_row : Nat) (c_w c_word c_row : ClassId) (v_known : Int32) (v_kept : Int32) (v_size : Int32) (v_high : Int32) (v_behindMany : Int32) (v_ends : Int32) (v_lead : Int32) (v_round : Int32) (v_worthM : Int64) (v_worthN : Int64) (v_w : (Nat → Int32)) (v_word : (Nat → Int32)) (v_row : (Nat → Int32)) : va_W := [(h0, .inr (7, [.ref h_w, .int v_known, .int v_kept, .ref h_word, .int v_size, .ref h_ahead, .int v_high, .ref h_behind, .int v_behindMany, .ref h_restM, .ref h_restN, .ref h_powerM, .ref h_powerN, .int v_ends, .int v_lead, .int v_round, .ref h_row, .long v_worthM, .long v_worthN])), (h_w, .inl (c_w, 110, .inl v_w)), (h_word, .inl (c_word, 60, .inl v_word)), (h_row, .inl (c_row, 60, .inl v_row))]
abbrev rm_X7_badly : Room := { frames := 2, cells := 0, slots := 0, locals := 45 }
def F_X7_badly_30 (x2 : Int32) (x3 : Int32) (v_row : (Nat → Int32)) : Option (Int32 × (Nat → Int32)) := (if x2 < 0 then (some (x3, v_row)) else (if x3 < x2 then (some (x3, v_row)) else (some ((x3 + (1 : Int32)), v_row))))
def F_X7_badly_16 (v_w : (Nat → Int32)) : Nat → Int32 → Int32 → Int32 → (Nat → Int32) → Option (Int32 × (Nat → Int32))
  | 0, _, _, _, _ => none
  | fu + 1, x1, x2, x3, v_row => (if x1 ≤ x3 then (some ((-1 : Int32), v_row)) else ((F_X7_isLess x3 x1 v_w v_row).bind fun o_4 => (if o_4 = 0 then (F_X7_badly_30   x2 x3 v_row) else (F_X7_badly_16 v_w fu x1 x2 (x3 + (1 : Int32)) v_row))))
def F_X7_badly (v_size : Int32) (v_w : (Nat → Int32)) (v_word : (Nat → Int32)) (v_row : (Nat → Int32)) : Option (Int32 × (Nat → Int32)) := ((F_X7_layRow v_size v_word v_row).bind fun o_6 => ((F_X7_figures v_size v_word).bind fun o_7 => ((F_X7_pointAt v_size v_word).bind fun o_8 => (F_X7_badly_16  v_w 128 o_7 o_8 (0 : Int32) o_6))))
set_option maxRecDepth 100000 in
set_option maxHeartbeats 4000000 in
theorem b_X7_badly {p : Program} {l : Launch} {e : Env} {s : State} {m : MethodId} {args : Array Value} {below : List Frame} {meth : Method} {c : Code} {Q : State → Prop} {dC : Nat → ClassId} {dI : Nat → Nat → Nat} {H : Heap} {locs : List Loc} {ls : Array Slot} {A : Nat → Prop} (h0 h_w h_word h_ahead h_behind h_restM h_restN h_powerM h_powerN h_row : Nat) (c_w c_word c_row : ClassId) (v_known : Int32) (v_kept : Int32) (v_size : Int32) (v_high : Int32) (v_behindMany : Int32) (v_ends : Int32) (v_lead : Int32) (v_round : Int32) (v_worthM : Int64) (v_worthN : Int64) (v_w : (Nat → Int32)) (v_word : (Nat → Int32)) (v_row : (Nat → Int32)) (ou0 : Int32) (ou1 : (Nat → Int32)) (hF : F_X7_badly v_size v_w v_word v_row = some (ou0, ou1)) (hC : CallFix p m c cX7_badly 4 s args wsX7_badly RX7) (hN : NW s) (hK : va_K (dC, dI) vwCl [(c_w, .int), (c_word, .int), (c_row, .int)] s) (hP : va_P (dC, dI) vwCl (wd_X7_badly h0 h_w h_word h_ahead h_behind h_restM h_restN h_powerM h_powerN h_row c_w c_word c_row v_known v_kept v_size v_high v_behindMany v_ends v_lead v_round v_worthM v_worthN v_w v_word v_row) H) (hA : ∀ q, s.heap.size ≤ q → A q) (hD : va_D A (wd_X7_badly h0 h_w h_word h_ahead h_behind h_restM h_restN h_powerM h_powerN h_row c_w c_word c_row v_known v_kept v_size v_high v_behindMany v_ends v_lead v_round v_worthM v_worthN v_w v_word v_row)) (hS : va_S A s.heap H locs) (hE : ∀ (H : Heap) (locs : List Loc) (ls : Array Slot) (pc : Nat), va_P (dC, dI) vwCl (wd_X7_badly h0 h_w h_word h_ahead h_behind h_restM h_restN h_powerM h_powerN h_row c_w c_word c_row v_known v_kept v_size v_high v_behindMany v_ends v_lead v_round v_worthM v_worthN v_w v_word ou1) H → va_S A s.heap H locs → decode cX7_badly pc = .ok (.ireturn, 1) → W p l e rm_X7_badly s m args below meth c H locs 0 0 Q (F0 m pc ls [.int ou0])) (hl : lv_has ls 4 [(0, .ref h0)]) : W p l e rm_X7_badly s m args below meth c H locs 0 0 Q (F0 m 0 ls []) := by
  obtain ⟨hx, hb, hml, hown, hts⟩ := id hC
  have hD0 := hD
  unfold F_X7_badly at hF
  have k_16 : ∀ (fu_16 : Nat) (x1 : Int32) (x2 : Int32) (x3 : Int32) (v_row : (Nat → Int32)), F_X7_badly_16  v_w fu_16 x1 x2 x3 v_row = some (ou0, ou1) → ∀ (H : Heap) (locs : List Loc), va_P (dC, dI) vwCl (wd_X7_badly h0 h_w h_word h_ahead h_behind h_restM h_restN h_powerM h_powerN h_row c_w c_word c_row v_known v_kept v_size v_high v_behindMany v_ends v_lead v_round v_worthM v_worthN v_w v_word v_row) H → va_S A s.heap H locs → ∀ ls : Array Slot, lv_has ls 4 [(0, .ref h0), (1, .int x1), (2, .int x2), (3, .int x3)] → W p l e rm_X7_badly s m args below meth c H locs 0 0 Q (F0 m 16 ls []) := by
    intro fu_16
    induction fu_16 with
    | zero => intro x1 x2 x3 v_row hF; rw [F_X7_badly_16] at hF; cases hF
    | succ fu_16 ih =>
      intro x1 x2 x3 v_row hF H locs hP hS ls hl
      rw [F_X7_badly_16] at hF
      have ih_16 := ih
      have hD : va_D A (wd_X7_badly h0 h_w h_word h_ahead h_behind h_restM h_restN h_powerM h_powerN h_row c_w c_word c_row v_known v_kept v_size v_high v_behindMany v_ends v_lead v_round v_worthM v_worthN v_w v_word v_row) := hD0.re rfl
      have k_30 : ∀ (x2 : Int32) (x3 : Int32) (v_row : (Nat → Int32)), F_X7_badly_30   x2 x3 v_row = some (ou0, ou1) → ∀ (H : Heap) (locs : List Loc), va_P (dC, dI) vwCl (wd_X7_badly h0 h_w h_word h_ahead h_behind h_restM h_restN h_powerM h_powerN h_row c_w c_word c_row v_known v_kept v_size v_high v_behindMany v_ends v_lead v_round v_worthM v_worthN v_w v_word v_row) H → va_S A s.heap H locs → ∀ ls : Array Slot, lv_has ls 4 [(2, .int x2), (3, .int x3)] → W p l e rm_X7_badly s m args below meth c H locs 0 0 Q (F0 m 30 ls []) := by
        intro x2 x3 v_row hF H locs hP hS ls hl
        rw [F_X7_badly_30] at hF
        have hD : va_D A (wd_X7_badly h0 h_w h_word h_ahead h_behind h_restM h_restN h_powerM h_powerN h_row c_w c_word c_row v_known v_kept v_size v_high v_behindMany v_ends v_lead v_round v_worthM v_worthN v_w v_word v_row) := hD0.re rfl
        refine lv_iload_n hx hb dX7_badly_30 rfl (lv_at hl 0 rfl) ?_
        refine lv_if_lt (tgt := 45) hx hb dX7_badly_31 (by decide) (fun g_1 => ?_) (fun g_1 => ?_)
        · replace hF := ite_t g_1 hF
          refine lv_iload_n hx hb dX7_badly_45 rfl (lv_at hl 1 rfl) ?_
          obtain ⟨rfl, rfl⟩ := oks2 hF; exact hE _ _ _ _ hP hS dX7_badly_46
        · replace hF := ite_f g_1 hF
          refine lv_iload_n hx hb dX7_badly_34 rfl (lv_at hl 1 rfl) ?_
          refine lv_iload_n hx hb dX7_badly_35 rfl (lv_at hl 0 rfl) ?_
          refine lv_icmp_lt (tgt := 45) hx hb dX7_badly_36 (by decide) (fun g_2 => ?_) (fun g_2 => ?_)
          · replace hF := ite_t g_2 hF
            refine lv_iload_n hx hb dX7_badly_45 rfl (lv_at hl 1 rfl) ?_
            obtain ⟨rfl, rfl⟩ := oks2 hF; exact hE _ _ _ _ hP hS dX7_badly_46
          · replace hF := ite_f g_2 hF
            refine lv_iload_n hx hb dX7_badly_39 rfl (lv_at hl 1 rfl) ?_
            refine lv_iconst (v := (1 : Int32)) hx hb dX7_badly_40 (by decide) ?_
            refine lv_iadd hx hb dX7_badly_41 ?_
            refine lv_goto (tgt := 46) hx hb dX7_badly_42 (by decide) ?_
            obtain ⟨rfl, rfl⟩ := oks2 hF; exact hE _ _ _ _ hP hS dX7_badly_46
      refine lv_iload_n hx hb dX7_badly_16 rfl (lv_at hl 3 rfl) ?_
      refine lv_iload_n hx hb dX7_badly_17 rfl (lv_at hl 1 rfl) ?_
      refine lv_icmp_ge (tgt := 53) hx hb dX7_badly_18 (by decide) (fun g_3 => ?_) (fun g_3 => ?_)
      · replace hF := ite_t g_3 hF
        refine lv_iconst (v := (-1 : Int32)) hx hb dX7_badly_53 (by decide) ?_
        obtain ⟨rfl, rfl⟩ := oks2 hF; exact hE _ _ _ _ hP hS dX7_badly_54
      · replace hF := ite_f g_3 hF
        refine lv_aload_n hx hb dX7_badly_21 rfl (lv_at hl 0 rfl) ?_
        refine lv_iload_n hx hb dX7_badly_22 rfl (lv_at hl 3 rfl) ?_
        refine lv_iload_n hx hb dX7_badly_23 rfl (lv_at hl 1 rfl) ?_
        obtain ⟨o_4, hc_o_4, hF⟩ := bd_s hF
        refine rdVi (As := [.int x3, .int x1]) (rest := []) (b := h0) hC (c_X7_isLess l dC dI h0 h_w h_word h_ahead h_behind h_restM h_restN h_powerM h_powerN h_row c_w c_row v_known v_kept v_size v_high v_behindMany v_ends v_lead v_round v_worthM v_worthN v_w v_row x3 x1 o_4 hc_o_4) (cwV 2 hts gX7_badly_X7_isLess rfl rfl rfl (by decide +kernel) ⟨Nat.le_of_ble_eq_true rfl, Nat.le_of_ble_eq_true rfl⟩) hN (hK.sub (tys' := [(c_w, .int), (c_row, .int)]) [0, 2] rfl) (hP.sub (ws' := (wd_X7_isLess h0 h_w h_word h_ahead h_behind h_restM h_restN h_powerM h_powerN h_row c_w c_row v_known v_kept v_size v_high v_behindMany v_ends v_lead v_round v_worthM v_worthN v_w v_row)) [0, 1, 3] rfl) 0 7 rfl rfl rfl rfl hl.1 (Nat.le_of_ble_eq_true rfl) dX7_badly_24 ⟨Nat.zero_le _, Nat.zero_le _⟩ ?_
        refine lv_if_ne (tgt := 47) hx hb dX7_badly_27 (by decide) (fun g_5 => ?_) (fun g_5 => ?_)
        · replace hF := ite_f g_5 hF
          refine lv_iinc (v := (x3 + (1 : Int32))) (lv' := [(3, .int (x3 + (1 : Int32))), (0, .ref h0), (1, .int x1), (2, .int x2)]) hx hb dX7_badly_47 hl (k := 3) rfl rfl (by decide) rfl (fun ls hl => ?_)
          refine lv_goto (tgt := 16) hx hb dX7_badly_50 (by decide) ?_
          exact ih x1 x2 (x3 + (1 : Int32)) v_row hF H locs hP hS ls (lv_sub hl [1, 2, 3, 0] rfl)
        · replace hF := ite_t g_5 hF
          exact k_30 x2 x3 v_row hF H locs hP hS ls (lv_sub hl [2, 3] rfl)
  refine lv_aload_n hx hb dX7_badly_0 rfl (lv_at hl 0 rfl) ?_
  obtain ⟨o_6, hc_o_6, hF⟩ := bd_s hF
  refine wrVv (wc' := (wd_X7_layRow h0 h_w h_word h_ahead h_behind h_restM h_restN h_powerM h_powerN h_row c_word c_row v_known v_kept v_size v_high v_behindMany v_ends v_lead v_round v_worthM v_worthN v_word o_6)) (As := []) (rest := []) (b := h0) hC (c_X7_layRow l dC dI H.size h0 h_w h_word h_ahead h_behind h_restM h_restN h_powerM h_powerN h_row c_word c_row v_known v_kept v_size v_high v_behindMany v_ends v_lead v_round v_worthM v_worthN v_word v_row  o_6 hc_o_6) (cwV 0 hts gX7_badly_X7_layRow rfl rfl rfl (by decide +kernel) ⟨Nat.le_of_ble_eq_true rfl, Nat.le_of_ble_eq_true rfl⟩) hN (hK.sub (tys' := [(c_word, .int), (c_row, .int)]) [1, 2] rfl) hP hD hS hA [0, 2, 3] rfl rfl rfl rfl 0 7 rfl rfl rfl rfl hl.1 (Nat.le_of_ble_eq_true rfl) dX7_badly_1 ⟨Nat.zero_le _, Nat.zero_le _⟩ (fun H locs hP hS => ?_)
  have hP : va_P (dC, dI) vwCl (wd_X7_badly h0 h_w h_word h_ahead h_behind h_restM h_restN h_powerM h_powerN h_row c_w c_word c_row v_known v_kept v_size v_high v_behindMany v_ends v_lead v_round v_worthM v_worthN v_w v_word o_6) H := hP
  have hD : va_D A (wd_X7_badly h0 h_w h_word h_ahead h_behind h_restM h_restN h_powerM h_powerN h_row c_w c_word c_row v_known v_kept v_size v_high v_behindMany v_ends v_lead v_round v_worthM v_worthN v_w v_word o_6) := va_D.re hD rfl
  refine lv_aload_n hx hb dX7_badly_4 rfl (lv_at hl 0 rfl) ?_
  obtain ⟨o_7, hc_o_7, hF⟩ := bd_s hF
  refine rdVi (As := []) (rest := []) (b := h0) hC (c_X7_figures l dC dI h0 h_w h_word h_ahead h_behind h_restM h_restN h_powerM h_powerN h_row c_word v_known v_kept v_size v_high v_behindMany v_ends v_lead v_round v_worthM v_worthN v_word  o_7 hc_o_7) (cwV 0 hts gX7_badly_X7_figures rfl rfl rfl (by decide +kernel) ⟨Nat.le_of_ble_eq_true rfl, Nat.le_of_ble_eq_true rfl⟩) hN (hK.sub (tys' := [(c_word, .int)]) [1] rfl) (hP.sub (ws' := (wd_X7_figures h0 h_w h_word h_ahead h_behind h_restM h_restN h_powerM h_powerN h_row c_word v_known v_kept v_size v_high v_behindMany v_ends v_lead v_round v_worthM v_worthN v_word)) [0, 2] rfl) 0 7 rfl rfl rfl rfl hl.1 (Nat.le_of_ble_eq_true rfl) dX7_badly_5 ⟨Nat.zero_le _, Nat.zero_le _⟩ ?_
  refine lv_istore_n (lv' := [(1, .int o_7), (0, .ref h0)]) hx hb dX7_badly_8 rfl hl (by decide) rfl (fun ls hl => ?_)
  refine lv_aload_n hx hb dX7_badly_9 rfl (lv_at hl 1 rfl) ?_
  obtain ⟨o_8, hc_o_8, hF⟩ := bd_s hF
  refine rdVi (As := []) (rest := []) (b := h0) hC (c_X7_pointAt l dC dI h0 h_w h_word h_ahead h_behind h_restM h_restN h_powerM h_powerN h_row c_word v_known v_kept v_size v_high v_behindMany v_ends v_lead v_round v_worthM v_worthN v_word  o_8 hc_o_8) (cwV 0 hts gX7_badly_X7_pointAt rfl rfl rfl (by decide +kernel) ⟨Nat.le_of_ble_eq_true rfl, Nat.le_of_ble_eq_true rfl⟩) hN (hK.sub (tys' := [(c_word, .int)]) [1] rfl) (hP.sub (ws' := (wd_X7_pointAt h0 h_w h_word h_ahead h_behind h_restM h_restN h_powerM h_powerN h_row c_word v_known v_kept v_size v_high v_behindMany v_ends v_lead v_round v_worthM v_worthN v_word)) [0, 2] rfl) 0 7 rfl rfl rfl rfl hl.1 (Nat.le_of_ble_eq_true rfl) dX7_badly_10 ⟨Nat.zero_le _, Nat.zero_le _⟩ ?_
  refine lv_istore_n (lv' := [(2, .int o_8), (1, .int o_7), (0, .ref h0)]) hx hb dX7_badly_13 rfl hl (by decide) rfl (fun ls hl => ?_)
  refine lv_iconst (v := (0 : Int32)) hx hb dX7_badly_14 (by decide) ?_
  refine lv_istore_n (lv' := [(3, .int (0 : Int32)), (2, .int o_8), (1, .int o_7), (0, .ref h0)]) hx hb dX7_badly_15 rfl hl (by decide) rfl (fun ls hl => ?_)
  exact k_16 _ o_7 o_8 (0 : Int32) o_6 hF H locs hP hS ls (lv_sub hl [3, 2, 1, 0] rfl)
set_option maxRecDepth 100000 in
set_option maxHeartbeats 4000000 in
theorem c_X7_badly (l : Launch) (dC : Nat → ClassId) (dI : Nat → Nat → Nat) (sz : Nat) (h0 h_w h_word h_ahead h_behind h_restM h_restN h_powerM h_powerN h_row : Nat) (c_w c_word c_row : ClassId) (v_known : Int32) (v_kept : Int32) (v_size : Int32) (v_high : Int32) (v_behindMany : Int32) (v_ends : Int32) (v_lead : Int32) (v_round : Int32) (v_worthM : Int64) (v_worthN : Int64) (v_w : (Nat → Int32)) (v_word : (Nat → Int32)) (v_row : (Nat → Int32)) (o : Int32 × (Nat → Int32)) (hF : F_X7_badly v_size v_w v_word v_row = some o) : Met l yX7_badly wsX7_badly rm_X7_badly (va_Pc [.ref h0] (PcW dC dI sz (wd_X7_badly h0 h_w h_word h_ahead h_behind h_restM h_restN h_powerM h_powerN h_row c_w c_word c_row v_known v_kept v_size v_high v_behindMany v_ends v_lead v_round v_worthM v_worthN v_w v_word v_row) [(c_w, .int), (c_word, .int), (c_row, .int)])) (va_Qi (fun (r : Int32) (_ : Unit) => r = o.1) (fun _ t => va_P (dC, dI) vwCl (wd_X7_badly h0 h_w h_word h_ahead h_behind h_restM h_restN h_powerM h_powerN h_row c_w c_word c_row v_known v_kept v_size v_high v_behindMany v_ends v_lead v_round v_worthM v_worthN v_w v_word o.2) t.heap) (va_A (wd_X7_badly h0 h_w h_word h_ahead h_behind h_restM h_restN h_powerM h_powerN h_row c_w c_word c_row v_known v_kept v_size v_high v_behindMany v_ends v_lead v_round v_worthM v_worthN v_w v_word v_row) sz)) 0 0 (va_A (wd_X7_badly h0 h_w h_word h_ahead h_behind h_restM h_restN h_powerM h_powerN h_row c_w c_word c_row v_known v_kept v_size v_high v_behindMany v_ends v_lead v_round v_worthM v_worthN v_w v_word v_row) sz) := by
  refine Met.ofW (cc := cX7_badly) (maxL := 4) (ret := (some .int)) (by decide) rfl ?_
  intro p e s m args below meth c s₁ B hml hv
  obtain ⟨rfl, hsz, hP, hK, hD0, hN⟩ := hv
  subst hsz
  have hl := lv_entry ([.ref h0]) (n := 4) (Nat.le_of_ble_eq_true rfl)
  rw [lg_entry_eq]
  generalize (lg_sl ([.ref h0]) ++ List.replicate (4 - (lg_sl ([.ref h0])).length) Slot.unset).toArray = ls at hl ⊢
  exact b_X7_badly h0 h_w h_word h_ahead h_behind h_restM h_restN h_powerM h_powerN h_row c_w c_word c_row v_known v_kept v_size v_high v_behindMany v_ends v_lead v_round v_worthM v_worthN v_w v_word v_row o.1 o.2 hF ⟨B.exec, B.bytes, hml, findClass_of_methodNamed B.named, atoms_spec (ws := wsX7_badly) B.pre⟩ hN hK hP (fun q h => Or.inr h) (hD0.self (sz := s.heap.size)) va_S.rf (fun H locs ls pc hP hS hd => W.iret B.exec B.bytes B.returns (fun t ht hW => ⟨⟨_, (), rfl, rfl, by show va_P (dC, dI) vwCl _ t.heap; rw [ht]; exact hP⟩, hS.F ht⟩) hS.2.2 hd B.notSynchronized) hl
theorem inn_X7_shiftNow_X7 : ∀ w ∈ wsX70, w ∈ wsX7_shiftNow := fun _ h => List.mem_cons_of_mem _ (List.mem_append_right _ h)
abbrev wd_X7_shiftNow (h0 h_w h_word h_ahead h_behind h_restM h_restN h_powerM h_powerN h_row : Nat) (c_word : ClassId) (v_known : Int32) (v_kept : Int32) (v_size : Int32) (v_high : Int32) (v_behindMany : Int32) (v_ends : Int32) (v_lead : Int32) (v_round : Int32) (v_worthM : Int64) (v_worthN : Int64) (v_word : (Nat → Int32)) : va_W := [(h0, .inr (7, [.ref h_w, .int v_known, .int v_kept, .ref h_word, .int v_size, .ref h_ahead, .int v_high, .ref h_behind, .int v_behindMany, .ref h_restM, .ref h_restN, .ref h_powerM, .ref h_powerN, .int v_ends, .int v_lead, .int v_round, .ref h_row, .long v_worthM, .long v_worthN])), (h_word, .inl (c_word, 60, .inl v_word))]
abbrev rm_X7_shiftNow : Room := { frames := 1, cells := 0, slots := 0, locals := 22 }
def F_X7_shiftNow (v_size : Int32) (v_word : (Nat → Int32)) : Option (Int32) := ((F_X7_pointAt v_size v_word).bind fun o_1 => (if 0 ≤ o_1 then ((F_X7_pointAt v_size v_word).bind fun o_3 => (some ((v_size - (1 : Int32)) - o_3))) else (some (0 : Int32))))
set_option maxRecDepth 100000 in
set_option maxHeartbeats 4000000 in
theorem b_X7_shiftNow {p : Program} {l : Launch} {e : Env} {s : State} {m : MethodId} {args : Array Value} {below : List Frame} {meth : Method} {c : Code} {Q : State → Prop} {dC : Nat → ClassId} {dI : Nat → Nat → Nat} {H : Heap} {locs : List Loc} {ls : Array Slot} (h0 h_w h_word h_ahead h_behind h_restM h_restN h_powerM h_powerN h_row : Nat) (c_word : ClassId) (v_known : Int32) (v_kept : Int32) (v_size : Int32) (v_high : Int32) (v_behindMany : Int32) (v_ends : Int32) (v_lead : Int32) (v_round : Int32) (v_worthM : Int64) (v_worthN : Int64) (v_word : (Nat → Int32)) (ou0 : Int32) (hF : F_X7_shiftNow v_size v_word = some ou0) (hC : CallFix p m c cX7_shiftNow 1 s args wsX7_shiftNow RX7) (hN : NW s) (hK : va_K (dC, dI) vwCl [(c_word, .int)] s) (hP : va_P (dC, dI) vwCl (wd_X7_shiftNow h0 h_w h_word h_ahead h_behind h_restM h_restN h_powerM h_powerN h_row c_word v_known v_kept v_size v_high v_behindMany v_ends v_lead v_round v_worthM v_worthN v_word) H) (hE : ∀ (ls : Array Slot) (pc : Nat), decode cX7_shiftNow pc = .ok (.ireturn, 1) → W p l e rm_X7_shiftNow s m args below meth c H locs 0 0 Q (F0 m pc ls [.int ou0])) (hl : lv_has ls 1 [(0, .ref h0)]) : W p l e rm_X7_shiftNow s m args below meth c H locs 0 0 Q (F0 m 0 ls []) := by
  obtain ⟨hx, hb, hml, hown, hts⟩ := id hC
  unfold F_X7_shiftNow at hF
  refine lv_aload_n hx hb dX7_shiftNow_0 rfl (lv_at hl 0 rfl) ?_
  obtain ⟨o_1, hc_o_1, hF⟩ := bd_s hF
  refine rdVi (As := []) (rest := []) (b := h0) hC (c_X7_pointAt l dC dI h0 h_w h_word h_ahead h_behind h_restM h_restN h_powerM h_powerN h_row c_word v_known v_kept v_size v_high v_behindMany v_ends v_lead v_round v_worthM v_worthN v_word  o_1 hc_o_1) (cwV 0 hts gX7_shiftNow_X7_pointAt rfl rfl rfl (by decide +kernel) ⟨Nat.le_of_ble_eq_true rfl, Nat.le_of_ble_eq_true rfl⟩) hN (hK.sub (tys' := [(c_word, .int)]) [0] rfl) (hP.sub (ws' := (wd_X7_pointAt h0 h_w h_word h_ahead h_behind h_restM h_restN h_powerM h_powerN h_row c_word v_known v_kept v_size v_high v_behindMany v_ends v_lead v_round v_worthM v_worthN v_word)) [0, 1] rfl) 0 7 rfl rfl rfl rfl hl.1 (Nat.le_of_ble_eq_true rfl) dX7_shiftNow_1 ⟨Nat.zero_le _, Nat.zero_le _⟩ ?_
  refine lv_if_ge (tgt := 11) hx hb dX7_shiftNow_4 (by decide) (fun g_2 => ?_) (fun g_2 => ?_)
  · replace hF := ite_t g_2 hF
    refine lv_aload_n hx hb dX7_shiftNow_11 rfl (lv_at hl 0 rfl) ?_
    refine va_get (D := (dC, dI)) (ci := 7) (v := .int v_size) (C := RX7) (T := TX7) (N := 19) hx hb hts inn_X7_shiftNow_X7 hown hK hP 0 rfl rfl 4 (by decide) (hts (.fieldLink RX7 99 "RingBasesModel" "size" "I") (List.mem_of_getElem? (i := 1) rfl)) (fun _ h9 => h9) rfl dX7_shiftNow_12 ?_
    refine lv_iconst (v := (1 : Int32)) hx hb dX7_shiftNow_15 (by decide) ?_
    refine lv_isub hx hb dX7_shiftNow_16 ?_
    refine lv_aload_n hx hb dX7_shiftNow_17 rfl (lv_at hl 0 rfl) ?_
    obtain ⟨o_3, hc_o_3, hF⟩ := bd_s hF
    refine rdVi (As := []) (rest := [.int (v_size - (1 : Int32))]) (b := h0) hC (c_X7_pointAt l dC dI h0 h_w h_word h_ahead h_behind h_restM h_restN h_powerM h_powerN h_row c_word v_known v_kept v_size v_high v_behindMany v_ends v_lead v_round v_worthM v_worthN v_word  o_3 hc_o_3) (cwV 0 hts gX7_shiftNow_X7_pointAt rfl rfl rfl (by decide +kernel) ⟨Nat.le_of_ble_eq_true rfl, Nat.le_of_ble_eq_true rfl⟩) hN (hK.sub (tys' := [(c_word, .int)]) [0] rfl) (hP.sub (ws' := (wd_X7_pointAt h0 h_w h_word h_ahead h_behind h_restM h_restN h_powerM h_powerN h_row c_word v_known v_kept v_size v_high v_behindMany v_ends v_lead v_round v_worthM v_worthN v_word)) [0, 1] rfl) 0 7 rfl rfl rfl rfl hl.1 (Nat.le_of_ble_eq_true rfl) dX7_shiftNow_18 ⟨Nat.zero_le _, Nat.zero_le _⟩ ?_
    refine lv_isub hx hb dX7_shiftNow_21 ?_
    obtain rfl := Option.some.inj hF; exact hE _ _ dX7_shiftNow_22
  · replace hF := ite_f g_2 hF
    refine lv_iconst (v := (0 : Int32)) hx hb dX7_shiftNow_7 (by decide) ?_
    refine lv_goto (tgt := 22) hx hb dX7_shiftNow_8 (by decide) ?_
    obtain rfl := Option.some.inj hF; exact hE _ _ dX7_shiftNow_22
set_option maxRecDepth 100000 in
set_option maxHeartbeats 4000000 in
theorem c_X7_shiftNow (l : Launch) (dC : Nat → ClassId) (dI : Nat → Nat → Nat) (h0 h_w h_word h_ahead h_behind h_restM h_restN h_powerM h_powerN h_row : Nat) (c_word : ClassId) (v_known : Int32) (v_kept : Int32) (v_size : Int32) (v_high : Int32) (v_behindMany : Int32) (v_ends : Int32) (v_lead : Int32) (v_round : Int32) (v_worthM : Int64) (v_worthN : Int64) (v_word : (Nat → Int32)) (o : Int32) (hF : F_X7_shiftNow v_size v_word = some o) : Met l yX7_shiftNow wsX7_shiftNow rm_X7_shiftNow (va_Pc [.ref h0] (PcR dC dI (wd_X7_shiftNow h0 h_w h_word h_ahead h_behind h_restM h_restN h_powerM h_powerN h_row c_word v_known v_kept v_size v_high v_behindMany v_ends v_lead v_round v_worthM v_worthN v_word) [(c_word, .int)])) (vp_Si (fun r => r = o)) 0 0 (fun _ => False) := by
  refine Met.ofW (cc := cX7_shiftNow) (maxL := 1) (ret := (some .int)) (by decide) rfl ?_
  intro p e s m args below meth c s₁ B hml hv
  obtain ⟨rfl, hP, hK, hN⟩ := hv
  have hl := lv_entry ([.ref h0]) (n := 1) (Nat.le_of_ble_eq_true rfl)
  rw [lg_entry_eq]
  generalize (lg_sl ([.ref h0]) ++ List.replicate (1 - (lg_sl ([.ref h0])).length) Slot.unset).toArray = ls at hl ⊢
  exact b_X7_shiftNow h0 h_w h_word h_ahead h_behind h_restM h_restN h_powerM h_powerN h_row c_word v_known v_kept v_size v_high v_behindMany v_ends v_lead v_round v_worthM v_worthN v_word o hF ⟨B.exec, B.bytes, hml, findClass_of_methodNamed B.named, atoms_spec (ws := wsX7_shiftNow) B.pre⟩ hN hK hP (fun ls pc hd => W.iret B.exec B.bytes B.returns (fun t ht hW => ⟨_, rfl, rfl, ht⟩) (fun q h => by cases h) hd B.notSynchronized) hl
