def nwL : List Cond := [.methodLinkNest RX6 11 yX3_init "RingBases", .methodLinkNest RX3 11 yX0_init "RingBases", .fieldLinkNest RX3 25 "RingBases$Base" "a" "I" "RingBases", .fieldLinkNest RX5 64 "RingBases$Base" "a" "I" "RingBases", .fieldLinkNest RX6 91 "RingBases$Base" "a" "I" "RingBases", .fieldLinkNest RX3 29 "RingBases$Base" "b" "I" "RingBases", .fieldLinkNest RX5 69 "RingBases$Base" "b" "I" "RingBases", .fieldLinkNest RX6 87 "RingBases$Base" "b" "I" "RingBases", .fieldLinkNest RX6 55 "RingBases$State" "base" "LRingBases$Base;" "RingBases", .fieldLinkNest RX6 80 "RingBases$State" "ms" "[I" "RingBases", .fieldLinkNest RX6 84 "RingBases$State" "ns" "[I" "RingBases", .methodLinkNest RX6 18 yX1_init "RingBases", .fieldLinkNest RX6 114 "RingBases$History" "count" "I" "RingBases", .methodLinkNest RX6 25 yX2_init "RingBases", .fieldLinkNest RX6 212 "RingBases$Images" "kept" "[Z" "RingBases", .methodLinkNest RX6 32 yX4_init "RingBases", .fieldLinkNest RX6 192 "RingBases$Word" "follower" "[I" "RingBases", .fieldLinkNest RX6 188 "RingBases$Word" "count" "I" "RingBases", .fieldLinkNest RX6 138 "RingBases$Word" "worthM" "I" "RingBases", .fieldLinkNest RX6 143 "RingBases$Word" "worthN" "I" "RingBases", .methodLinkNest RX6 39 yX5_init "RingBases", .fieldLinkNest RX4 44 "RingBases$Writing" "figures" "[I" "RingBases", .fieldLinkNest RX6 170 "RingBases$Writing" "figures" "[I" "RingBases", .fieldLinkNest RX4 52 "RingBases$Writing" "ahead" "I" "RingBases", .fieldLinkNest RX6 164 "RingBases$Writing" "ahead" "I" "RingBases", .fieldLinkNest RX4 49 "RingBases$Writing" "behind" "I" "RingBases", .fieldLinkNest RX6 198 "RingBases$Writing" "behind" "I" "RingBases", .fieldLinkNest RX6 231 "RingBases$Writing" "ends" "Z" "RingBases", .fieldLinkNest RX6 235 "RingBases$Writing" "lead" "I" "RingBases", .fieldLinkNest RX6 238 "RingBases$Writing" "round" "I" "RingBases", .methodLinkNest RX4 65 yX6_isOutOfBounds "RingBases"]
def NW (U : State) : Prop := ∀ w ∈ nwL, va_Nw w U
theorem nw_tab : ∀ w ∈ nwL, w.onTables = true := by decide +kernel
def nw_is (s U : State) (w : Cond) : Prop := va_Nw w s → va_Nw w U
theorem nw_f {s U : State} (hW : s.WarmedH U.vm) {a : String} {i : Nat} {b n d h : String} : nw_is s U (.fieldLinkNest a i b n d h) := va_Nw.warmF hW
theorem nw_m {s U : State} (hW : s.WarmedH U.vm) {a : String} {i : Nat} {x : MethodName} {h : String} : nw_is s U (.methodLinkNest a i x h) := va_Nw.warmM hW
theorem nw_c {s U : State} {w : Cond} {r : List Cond} (h : nw_is s U w) (hr : ∀ w ∈ r, nw_is s U w) : ∀ v ∈ w :: r, nw_is s U v := List.forall_mem_cons.mpr ⟨h, hr⟩
theorem NW.warm {s U : State} (hW : s.WarmedH U.vm) (h : NW s) : NW U := by
  have key : ∀ w ∈ nwL, nw_is s U w := by
    unfold nwL
    repeat first | exact fun _ h => absurd h List.not_mem_nil | refine nw_c (nw_f hW) ?_ | refine nw_c (nw_m hW) ?_
  exact fun w hw => key w hw (h w hw)
theorem NW.calling {U : State} {g : JFrame} {mk : MethodId} {a : Array Value} (h : NW U) : NW (U.calling g mk a) := fun w hw => va_Nw.same (nw_tab w hw) (u := U) rfl (h w hw)
def PcR (dC : Nat → ClassId) (dI : Nat → Nat → Nat) (wd : va_W) (tys : List (ClassId × FieldType)) (U : State) : Prop := va_P (dC, dI) vwCl wd U.heap ∧ va_K (dC, dI) vwCl tys U ∧ NW U
def PcW (dC : Nat → ClassId) (dI : Nat → Nat → Nat) (sz : Nat) (wd : va_W) (tys : List (ClassId × FieldType)) (U : State) : Prop := U.heap.size = sz ∧ va_P (dC, dI) vwCl wd U.heap ∧ va_K (dC, dI) vwCl tys U ∧ va_D (fun _ => True) wd ∧ NW U
theorem blindR {av : List Value} {dC : Nat → ClassId} {dI : Nat → Nat → Nat} {wd : va_W} {tys : List (ClassId × FieldType)} : FrameBlind (va_Pc av (PcR dC dI wd tys)) := fun a U g mk q => ⟨q.1, q.2.1, va_K.moved (u := U) (U := U.calling g mk a) (Vm.Alike.refl U.vm) q.2.2.1, q.2.2.2.calling⟩
theorem blindW {av : List Value} {dC : Nat → ClassId} {dI : Nat → Nat → Nat} {sz : Nat} {wd : va_W} {tys : List (ClassId × FieldType)} : FrameBlind (va_Pc av (PcW dC dI sz wd tys)) := fun a U g mk q => ⟨q.1, q.2.1, q.2.2.1, va_K.moved (u := U) (U := U.calling g mk a) (Vm.Alike.refl U.vm) q.2.2.2.1, q.2.2.2.2.1, q.2.2.2.2.2.calling⟩
theorem preR {av : List Value} {dC : Nat → ClassId} {dI : Nat → Nat → Nat} {wd : va_W} {tys : List (ClassId × FieldType)} {s : State} {H : Heap} (hP : va_P (dC, dI) vwCl wd H) (hK : va_K (dC, dI) vwCl tys s) (hN : NW s) : ∀ U : State, U.heap = H → s.WarmedH U.vm → va_Pc av (PcR dC dI wd tys) av.toArray U := fun U hU hW => ⟨rfl, by rw [hU]; exact hP, va_K.moved hW.alike hK, hN.warm hW⟩
theorem preW {av : List Value} {dC : Nat → ClassId} {dI : Nat → Nat → Nat} {wd : va_W} {tys : List (ClassId × FieldType)} {s : State} {H : Heap} {A : Nat → Prop} (hP : va_P (dC, dI) vwCl wd H) (hK : va_K (dC, dI) vwCl tys s) (hD : va_D A wd) (hN : NW s) : ∀ U : State, U.heap = H → s.WarmedH U.vm → va_Pc av (PcW dC dI H.size wd tys) av.toArray U := fun U hU hW => ⟨rfl, by rw [hU], by rw [hU]; exact hP, va_K.moved hW.alike hK, hD.weaken (fun _ _ _ _ => trivial), hN.warm hW⟩
/-- same addresses: as far apart -/
theorem va_D.re {A : Nat → Prop} {ws ws' : va_W} (h : va_D A ws) (e : ws'.map Prod.fst = ws.map Prod.fst) : va_D A ws' := by
  have key : ∀ (k : Nat) (q : Nat × va_E), ws'[k]? = some q → ∃ q2, ws[k]? = some q2 ∧ q2.1 = q.1 := by
    intro k q hk
    have h1 : (ws'.map Prod.fst)[k]? = some q.1 := by rw [List.getElem?_map, hk]; rfl
    rw [e, List.getElem?_map] at h1
    cases h2 : ws[k]? with
    | none => rw [h2] at h1; cases h1
    | some q2 => rw [h2] at h1; exact ⟨q2, rfl, Option.some.inj h1⟩
  refine ⟨fun i j p q hi hj hpq => ?_, fun k q hk => ?_⟩
  · obtain ⟨p2, a1, a2⟩ := key i p hi
    obtain ⟨q2, b1, b2⟩ := key j q hj
    exact h.1 i j p2 q2 a1 b1 (by rw [a2, b2]; exact hpq)
  · obtain ⟨q2, b1, b2⟩ := key k q hk
    rw [← b2]; exact h.2 k q2 b1
/-- the callee's cells put back at their places -/
def mrg : List Nat → va_W → va_W → va_W
  | i :: is, ws, x :: xs => mrg is (ws.set i x) xs
  | _, ws, _ => ws
theorem mrg_at : ∀ (is : List Nat) (ws xs : va_W) (k : Nat) (q : Nat × va_E), (mrg is ws xs)[k]? = some q → (∃ j : Nat, xs[j]? = some q) ∨ (ws[k]? = some q ∧ (k ∉ is ∨ xs.length < is.length))
  | [], ws, xs, k, q, h => Or.inr ⟨h, Or.inl List.not_mem_nil⟩
  | i :: is, ws, [], k, q, h => Or.inr ⟨h, Or.inr (by simp)⟩
  | i :: is, ws, x :: xs, k, q, h => by
    rcases mrg_at is (ws.set i x) xs k q h with ⟨j, hj⟩ | ⟨h1, h2⟩
    · exact Or.inl ⟨j + 1, hj⟩
    · by_cases hki : i = k
      · subst hki
        rw [List.getElem?_set] at h1
        by_cases hl : i < ws.length
        · simp [hl] at h1
          exact Or.inl ⟨0, by simp [h1]⟩
        · simp [hl] at h1
      · rw [List.getElem?_set_ne hki] at h1
        refine Or.inr ⟨h1, ?_⟩
        rcases h2 with h2 | h2
        · exact Or.inl (fun hm => by rcases List.mem_cons.mp hm with r | r; exact hki r.symm; exact h2 r)
        · exact Or.inr (by simp; omega)
theorem my_join {A0 : Nat → Prop} {D : va_G} {cl : List vw_C} {ws wc w1 : va_W} {H H1 : Heap} (hP : va_P D cl ws H) (hD : va_D A0 ws) (is : List Nat) (hC : is.map (fun i => ws[i]?) = wc.map some) (hlen : w1.length = is.length) (hk : ∀ q : Nat, q < H.size → ¬ va_A wc H.size q → H1[q]? = H[q]?) (hP1 : va_P D cl w1 H1) : va_P D cl (mrg is ws w1) H1 := by
  intro k q h
  rcases mrg_at is ws w1 k q h with ⟨j, hj⟩ | ⟨h1, h2⟩
  · exact hP1 j q hj
  · have hk2 : k ∉ is := by rcases h2 with h2 | h2; exact h2; omega
    refine (hP k q h1).kept (hk q.1 (hP k q h1).lt (fun hA => ?_))
    rcases hA with ⟨j, e, hj⟩ | hA
    · have h3 : (is.map (fun i => ws[i]?))[j]? = some (some (q.1, e)) := by rw [hC, List.getElem?_map, hj]; rfl
      rw [List.getElem?_map] at h3
      cases hi : is[j]? with
      | none => rw [hi] at h3; cases h3
      | some i =>
        rw [hi] at h3
        have h4 := hD.1 k i q (q.1, e) h1 (Option.some.inj h3) rfl
        exact hk2 (by rw [h4]; exact List.mem_of_getElem? hi)
    · exact absurd (hP k q h1).lt (by omega)
/-! the pure side: guards -/
def ck {α : Type} (i : Int32) (n : Nat) (k : Option α) : Option α := if i < 0 ∨ n ≤ i.toNatClampNeg then none else k
theorem ck_s {α : Type} {i : Int32} {n : Nat} {k : Option α} {o : α} (h : ck i n k = some o) : vp_in i n ∧ k = some o := by
  unfold ck at h
  split at h
  · cases h
  · rename_i h1; exact ⟨h1, h⟩
theorem ck_t {α : Type} {i : Int32} {n : Nat} {k : Option α} (h : vp_in i n) : ck i n k = k := by
  unfold ck; exact if_neg h
def zk {α : Type} (v : Int32) (k : Option α) : Option α := if v = 0 ∨ v = 1 then k else none
theorem zk_n {v : Int32} (h : v = 0 ∨ v = 1) : narrow .boolean (.int v) = .int v := by rcases h with rfl | rfl <;> rfl
theorem zk_f {v : Int32} (h : v = 0 ∨ v = 1) : fits .boolean (.int v) = true := by rcases h with rfl | rfl <;> rfl
theorem zk_s {α : Type} {v : Int32} {k : Option α} {o : α} (h : zk v k = some o) : (v = 0 ∨ v = 1) ∧ k = some o := by
  unfold zk at h
  split at h
  · rename_i h1; exact ⟨h1, h⟩
  · cases h
theorem zk_t {α : Type} {v : Int32} {k : Option α} (h : v = 0 ∨ v = 1) : zk v k = k := if_pos h
def ek {α : Type} (b : Bool) (k : Option α) : Option α := if b then k else none
theorem ek_s {α : Type} {b : Bool} {k : Option α} {o : α} (h : ek b k = some o) : b = true ∧ k = some o := by
  unfold ek at h
  split at h
  · rename_i h1; exact ⟨h1, h⟩
  · cases h
theorem ite_t {α : Sort _} {c : Prop} {inst : Decidable c} {x y o : α} (h : c) (e : @ite α c inst x y = o) : x = o := (if_pos h).symm.trans e
theorem ite_f {α : Sort _} {c : Prop} {inst : Decidable c} {x y o : α} (h : ¬ c) (e : @ite α c inst x y = o) : y = o := (if_neg h).symm.trans e
theorem bd_s {α β : Type} {x : Option α} {f : α → Option β} {o : β} (h : x.bind f = some o) : ∃ a, x = some a ∧ f a = some o := by
  cases x with
  | none => cases h
  | some a => exact ⟨a, rfl, h⟩
/-! calls: of readers (the heap stays), of writers -/
section MyCalls
variable {p : Program} {l : Launch} {e : Env} {R : Room} {s : State} {m : MethodId} {args : Array Value} {below : List Frame} {meth : Method} {c : Code} {H : Heap} {locs : List Loc} {cells slots : Nat} {Q : State → Prop}
variable {pc : Nat} {ls : Array Slot} {rest st0 As : List Value} {cc bytes : ByteArray} {nL index maxL n b : Nat} {Ts ws : List Cond} {own C host : String} {y : MethodName} {rm : Room} {ret : Option FieldType}
variable {dC : Nat → ClassId} {dI : Nat → Nat → Nat} {wd wc wc' : va_W} {tys tc : List (ClassId × FieldType)} {A : Nat → Prop} {H0 : Heap}
theorem rdVi {o : Int32} (S : CallFix p m c cc nL s args Ts own) (hM : Met l y ws rm (va_Pc (.ref b :: As) (PcR dC dI wc tc)) (vp_Si (fun r => r = o)) 0 0 (fun _ => False)) (cw : CallW R s args own C index y bytes maxL ret ws rm 0 0 n) (hN : NW s) (hK : va_K (dC, dI) vwCl tc s) (hP : va_P (dC, dI) vwCl wc H) (q0 ci : Nat) {T : u_T} {N : Nat} {fs : List Value} (hc : vwCl[ci]? = some (C, T, N)) (he : wc[q0]? = some (b, .inr (ci, fs))) (hst : st0 = As.reverse ++ .ref b :: rest) (hn : As.length = n) (hsz : ls.size = nL) (hroom : (rest.map fun v => v.category).sum ≤ 8) (hdg : decode cc pc = .ok (.invokevirtual index, 3)) (hf : cells + 0 ≤ R.cells ∧ slots + 0 ≤ R.slots)
    (kk : W p l e R s m args below meth c H locs cells slots Q (F0 m (pc + 3) ls (.int o :: rest))) : W p l e R s m args below meth c H locs cells slots Q (F0 m pc ls st0) :=
  vp_callSi (va_Run.run (va_runV S hM cw ⟨blindR, va_recv hK hP hc he, preR hP hK hN⟩ rfl hn hsz hst (lv_room hroom) hdg hf)) (fun r hr => by subst hr; exact kk)
theorem rdVl {o : Int64} (S : CallFix p m c cc nL s args Ts own) (hM : Met l y ws rm (va_Pc (.ref b :: As) (PcR dC dI wc tc)) (vp_Sl (fun r => r = o)) 0 0 (fun _ => False)) (cw : CallW R s args own C index y bytes maxL ret ws rm 0 0 n) (hN : NW s) (hK : va_K (dC, dI) vwCl tc s) (hP : va_P (dC, dI) vwCl wc H) (q0 ci : Nat) {T : u_T} {N : Nat} {fs : List Value} (hc : vwCl[ci]? = some (C, T, N)) (he : wc[q0]? = some (b, .inr (ci, fs))) (hst : st0 = As.reverse ++ .ref b :: rest) (hn : As.length = n) (hsz : ls.size = nL) (hroom : (rest.map fun v => v.category).sum ≤ 8) (hdg : decode cc pc = .ok (.invokevirtual index, 3)) (hf : cells + 0 ≤ R.cells ∧ slots + 0 ≤ R.slots)
    (kk : W p l e R s m args below meth c H locs cells slots Q (F0 m (pc + 3) ls (.long o :: rest))) : W p l e R s m args below meth c H locs cells slots Q (F0 m pc ls st0) :=
  vp_callSl (va_Run.run (va_runV S hM cw ⟨blindR, va_recv hK hP hc he, preR hP hK hN⟩ rfl hn hsz hst (lv_room hroom) hdg hf)) (fun r hr => by subst hr; exact kk)
theorem rdSi {o : Int32} (S : CallFix p m c cc nL s args Ts own) (hM : Met l y ws rm (va_Pc As (PcR dC dI wc tc)) (vp_Si (fun r => r = o)) 0 0 (fun _ => False)) (cw : CallB R s args own index y bytes maxL ret ws rm 0 0 n ∧ (Cond.static y).before args s = true) (hN : NW s) (hK : va_K (dC, dI) vwCl tc s) (hP : va_P (dC, dI) vwCl wc H) (hst : st0 = As.reverse ++ rest) (hn : As.length = n) (hsz : ls.size = nL) (hroom : (rest.map fun v => v.category).sum ≤ 8) (hdg : decode cc pc = .ok (.invokestatic index, 3)) (hf : cells + 0 ≤ R.cells ∧ slots + 0 ≤ R.slots)
    (kk : W p l e R s m args below meth c H locs cells slots Q (F0 m (pc + 3) ls (.int o :: rest))) : W p l e R s m args below meth c H locs cells slots Q (F0 m pc ls st0) :=
  vp_callSi (va_Run.run (va_runS S hM cw ⟨blindR, preR hP hK hN⟩ rfl hn hsz hst (lv_room hroom) hdg hf)) (fun r hr => by subst hr; exact kk)
theorem rdSl {o : Int64} (S : CallFix p m c cc nL s args Ts own) (hM : Met l y ws rm (va_Pc As (PcR dC dI wc tc)) (vp_Sl (fun r => r = o)) 0 0 (fun _ => False)) (cw : CallB R s args own index y bytes maxL ret ws rm 0 0 n ∧ (Cond.static y).before args s = true) (hN : NW s) (hK : va_K (dC, dI) vwCl tc s) (hP : va_P (dC, dI) vwCl wc H) (hst : st0 = As.reverse ++ rest) (hn : As.length = n) (hsz : ls.size = nL) (hroom : (rest.map fun v => v.category).sum ≤ 8) (hdg : decode cc pc = .ok (.invokestatic index, 3)) (hf : cells + 0 ≤ R.cells ∧ slots + 0 ≤ R.slots)
    (kk : W p l e R s m args below meth c H locs cells slots Q (F0 m (pc + 3) ls (.long o :: rest))) : W p l e R s m args below meth c H locs cells slots Q (F0 m pc ls st0) :=
  vp_callSl (va_Run.run (va_runS S hM cw ⟨blindR, preR hP hK hN⟩ rfl hn hsz hst (lv_room hroom) hdg hf)) (fun r hr => by subst hr; exact kk)
theorem rdNi {o : Int32} (S : CallFix p m c cc nL s args Ts own) (hM : Met l y ws rm (va_Pc As (PcR dC dI wc tc)) (vp_Si (fun r => r = o)) 0 0 (fun _ => False)) (cw : va_CN R s args own index y host bytes maxL ret ws rm 0 0 n ∧ (Cond.static y).before args s = true ∧ True) (hN : NW s) (hK : va_K (dC, dI) vwCl tc s) (hP : va_P (dC, dI) vwCl wc H) (hst : st0 = As.reverse ++ rest) (hn : As.length = n) (hsz : ls.size = nL) (hroom : (rest.map fun v => v.category).sum ≤ 8) (hdg : decode cc pc = .ok (.invokestatic index, 3)) (hf : cells + 0 ≤ R.cells ∧ slots + 0 ≤ R.slots)
    (kk : W p l e R s m args below meth c H locs cells slots Q (F0 m (pc + 3) ls (.int o :: rest))) : W p l e R s m args below meth c H locs cells slots Q (F0 m pc ls st0) :=
  vp_callSi (va_Run.run (va_runSN S hM cw ⟨blindR, preR hP hK hN⟩ rfl hn hsz hst (lv_room hroom) hdg hf)) (fun r hr => by subst hr; exact kk)
theorem wrVi {o : Int32} (S : CallFix p m c cc nL s args Ts own) (hM : Met l y ws rm (va_Pc (.ref b :: As) (PcW dC dI H.size wc tc)) (va_Qi (fun (r : Int32) (_ : Unit) => r = o) (fun _ t => va_P (dC, dI) vwCl wc' t.heap) (va_A wc H.size)) 0 0 (va_A wc H.size)) (cw : CallW R s args own C index y bytes maxL ret ws rm 0 0 n) (hN : NW s) (hK : va_K (dC, dI) vwCl tc s) (hP : va_P (dC, dI) vwCl wd H) (hD : va_D A wd) (hS : va_S A H0 H locs) (hA : ∀ q, H0.size ≤ q → A q) (is : List Nat) (hsub : is.filterMap (fun i => wd[i]?) = wc) (hC : is.map (fun i => wd[i]?) = wc.map some) (hnd : va_nd is = true) (hlen : wc'.length = is.length) (q0 ci : Nat) {T : u_T} {N : Nat} {fs : List Value} (hc : vwCl[ci]? = some (C, T, N)) (he : wc[q0]? = some (b, .inr (ci, fs))) (hst : st0 = As.reverse ++ .ref b :: rest) (hn : As.length = n) (hsz : ls.size = nL) (hroom : (rest.map fun v => v.category).sum ≤ 8) (hdg : decode cc pc = .ok (.invokevirtual index, 3)) (hf : cells + 0 ≤ R.cells ∧ slots + 0 ≤ R.slots)
    (kk : ∀ (H1 : Heap) (locs1 : List Loc), va_P (dC, dI) vwCl (mrg is wd wc') H1 → va_S A H0 H1 locs1 → W p l e R s m args below meth c H1 locs1 cells slots Q (F0 m (pc + 3) ls (.int o :: rest))) : W p l e R s m args below meth c H locs cells slots Q (F0 m pc ls st0) := by
  have hPc := hP.sub is hsub
  have hDc := hD.sub is hnd hC
  have hFc := va_free (wc := wc) hD hS hA is hC
  refine va_calli (va_runV S hM cw ⟨blindW, va_recv hK hPc hc he, preW hPc hK hDc hN⟩ rfl hn hsz hst (lv_room hroom) hdg hf) hS (fun q _ h => hFc q h) hFc (fun r u t H1 locs1 ht hvm hw hB hz1 hk1 hS1 => ?_)
  subst hw
  rw [ht] at hB
  exact kk H1 locs1 (my_join hP hD is hC hlen hk1 hB) hS1
theorem wrVv (S : CallFix p m c cc nL s args Ts own) (hM : Met l y ws rm (va_Pc (.ref b :: As) (PcW dC dI H.size wc tc)) (va_Qv (fun (_ : Unit) => True) (fun _ t => va_P (dC, dI) vwCl wc' t.heap) (va_A wc H.size)) 0 0 (va_A wc H.size)) (cw : CallW R s args own C index y bytes maxL ret ws rm 0 0 n) (hN : NW s) (hK : va_K (dC, dI) vwCl tc s) (hP : va_P (dC, dI) vwCl wd H) (hD : va_D A wd) (hS : va_S A H0 H locs) (hA : ∀ q, H0.size ≤ q → A q) (is : List Nat) (hsub : is.filterMap (fun i => wd[i]?) = wc) (hC : is.map (fun i => wd[i]?) = wc.map some) (hnd : va_nd is = true) (hlen : wc'.length = is.length) (q0 ci : Nat) {T : u_T} {N : Nat} {fs : List Value} (hc : vwCl[ci]? = some (C, T, N)) (he : wc[q0]? = some (b, .inr (ci, fs))) (hst : st0 = As.reverse ++ .ref b :: rest) (hn : As.length = n) (hsz : ls.size = nL) (hroom : (rest.map fun v => v.category).sum ≤ 8) (hdg : decode cc pc = .ok (.invokevirtual index, 3)) (hf : cells + 0 ≤ R.cells ∧ slots + 0 ≤ R.slots)
    (kk : ∀ (H1 : Heap) (locs1 : List Loc), va_P (dC, dI) vwCl (mrg is wd wc') H1 → va_S A H0 H1 locs1 → W p l e R s m args below meth c H1 locs1 cells slots Q (F0 m (pc + 3) ls rest)) : W p l e R s m args below meth c H locs cells slots Q (F0 m pc ls st0) := by
  have hPc := hP.sub is hsub
  have hDc := hD.sub is hnd hC
  have hFc := va_free (wc := wc) hD hS hA is hC
  refine va_callv (va_runV S hM cw ⟨blindW, va_recv hK hPc hc he, preW hPc hK hDc hN⟩ rfl hn hsz hst (lv_room hroom) hdg hf) hS (fun q _ h => hFc q h) hFc (fun u t H1 locs1 ht hvm hw hB hz1 hk1 hS1 => ?_)
  rw [ht] at hB
  exact kk H1 locs1 (my_join hP hD is hC hlen hk1 hB) hS1
end MyCalls
def cpk {α : Type} (sp dp n : Int32) (n0 n1 : Nat) (k : Option α) : Option α := if ¬ sp < 0 ∧ ¬ dp < 0 ∧ ¬ n < 0 ∧ sp.toNatClampNeg + n.toNatClampNeg ≤ n0 ∧ dp.toNatClampNeg + n.toNatClampNeg ≤ n1 then k else none
theorem cpk_s {α : Type} {sp dp n : Int32} {n0 n1 : Nat} {k : Option α} {o : α} (h : cpk sp dp n n0 n1 k = some o) : (¬ sp < 0 ∧ ¬ dp < 0 ∧ ¬ n < 0 ∧ sp.toNatClampNeg + n.toNatClampNeg ≤ n0 ∧ dp.toNatClampNeg + n.toNatClampNeg ≤ n1) ∧ k = some o := by
  unfold cpk at h
  split at h
  · rename_i h1; exact ⟨h1, h⟩
  · cases h
