/-! own tools: one list of words for all methods; contracts of one form; calls with the frame rule -/
def sx_pay (w : Cond) : Bool := goodWord w || (match w with | .fieldLinkNest .. => true | .methodLinkNest .. => true | .castable .. => true | .declares _ => true | _ => false)
def lw_all : List Cond := lw_tbl.filter sx_pay
theorem lw_all_tbl {w : Cond} (h : w ∈ lw_all) : w ∈ lw_tbl := (List.mem_filter.mp h).1
theorem sx_in {w : Cond} (i : Nat) (h : tables_1[i]? = some w) (hp : sx_pay w = true) : w ∈ lw_all := List.mem_filter.mpr ⟨List.mem_append_right _ (List.mem_of_getElem? h), hp⟩
theorem sx_inP {w : Cond} (i : Nat) (h : (k2_sels lw_privs)[i]? = some w) (hp : sx_pay w = true) : w ∈ lw_all := List.mem_filter.mpr ⟨List.mem_append_left _ (List.mem_of_getElem? h), hp⟩
set_option maxHeartbeats 4000000 in
theorem sx_pays {args : Array Value} {s : State} (ht : ∀ w ∈ lw_all, w.before args s = true) : ∀ w ∈ lw_all, ∀ (a' : Array Value) (U : State), s.WarmedH U.vm → w.before a' U = true := by
  intro w hw a' U hW
  have h1 := ht w hw
  have h2 := (List.mem_filter.mp hw).2
  by_cases hg : goodWord w = true
  · exact word_at hW (good_of_word hg) h1
  · cases w <;> first
      | exact va_Nw.use rfl (va_Nw.warmF hW (va_Nw.of rfl h1))
      | exact va_Nw.use rfl (va_Nw.warmM hW (va_Nw.of rfl h1))
      | exact va_tabs rfl (rfl : (s.setVm U.vm).vm = U.vm) (show (Cond.castable _ _).before #[] (s.setVm U.vm) = true by rw [Cond.castable_setVm hW.alike]; exact va_any rfl h1)
      | exact va_tabs rfl (rfl : (s.setVm U.vm).vm = U.vm) (show (Cond.declares _).before #[] (s.setVm U.vm) = true by rw [Cond.declares_setVm hW.alike]; exact va_any rfl h1)
      | (exfalso; simp only [sx_pay, Bool.or_false] at h2; exact hg h2)
def sx_ws (y : MethodName) (b : ByteArray) (mL : Nat) (ret : Option FieldType) : List Cond := Cond.code y b mL ret :: lw_all
/-- what is decided of a method once: its code's word, its class, its name, how many arguments -/
def sx_M (y : MethodName) (b : ByteArray) (mL : Nat) (ret : Option FieldType) (n : Nat) : Prop :=
  Cond.code y b mL ret ∈ lw_all ∧ Cond.initialized y.cls ∈ lw_all ∧ (y.cls ≠ "java/lang/invoke/MethodHandle" ∧ y.cls ≠ "java/lang/invoke/VarHandle" ∧ (parseMethodDescriptor y.desc).map (fun d => d.parameters.length) = some n) ∧ plainName y.cls = true
/-- the worlds' classes, the arrays' classes (int, long), the texts' cells -/
abbrev sx_G : Type := va_G × ClassId × ClassId × Nat × Nat × Nat
abbrev sx_D (G : sx_G) : va_G := G.1
abbrev sx_tys (G : sx_G) : List (ClassId × FieldType) := [(G.2.1, .int), (G.2.2.1, .long)]
def eV (G : sx_G) (A : Nat → Prop) (U : State) (H : Heap) : Prop :=
  vk_R RX7 252 "there is no such one" G.2.2.2.1 U ∧ vk_R RX7 259 "an argument is not what it may be" G.2.2.2.2.1 U ∧ vk_R RX7 264 "this can not be done now" G.2.2.2.2.2 U ∧
  vx_Zq Bundle.tN "UNASSIGNED_STACK" Bundle.steD A U H ∧ vx_Zq Bundle.tN "SUPPRESSED_SENTINEL" Bundle.listD A U H ∧
  va_Nc "java/lang/IllegalArgumentException" "java/lang/IndexOutOfBoundsException" U ∧ va_Nc "java/lang/IllegalStateException" "java/lang/IndexOutOfBoundsException" U ∧ va_Nc "java/lang/IllegalArgumentException" "java/lang/IllegalStateException" U
theorem eV.same {G : sx_G} {A : Nat → Prop} {u U : State} {H : Heap} (hv : U.vm = u.vm) (h : eV G A u H) : eV G A U H := by
  have hal : u.vm.Alike U.vm := by rw [hv]; exact Vm.Alike.refl _
  obtain ⟨h1, h2, h3, h4, h5, h6, h7, h8⟩ := h
  exact ⟨vk_R.same hv h1, vk_R.same hv h2, vk_R.same hv h3, h4.moved hal, h5.moved hal, h6.moved hal, h7.moved hal, h8.moved hal⟩
theorem eV.go {G : sx_G} {A0 A1 : Nat → Prop} {s U : State} {H : Heap} {locs : List Loc} (h : eV G A0 s s.heap) (hS : va_S A0 s.heap H locs) (hF : ∀ q, A1 q → A0 q) (hU : U.heap = H) (hW : s.WarmedH U.vm) : eV G A1 U U.heap := by
  subst hU
  have hal := hW.alike
  obtain ⟨h1, h2, h3, h4, h5, h6, h7, h8⟩ := h
  exact ⟨vk_R.warm hW h1, vk_R.warm hW h2, vk_R.warm hW h3, ((h4.kept hS.2.1).moved hal).narrow hF, ((h5.kept hS.2.1).moved hal).narrow hF, h6.moved hal, h7.moved hal, h8.moved hal⟩
def sx_pre (G : sx_G) (ws : va_W) (sz : Nat) (U : State) : Prop := U.heap.size = sz ∧ va_P (sx_D G) vwCl ws U.heap ∧ va_K (sx_D G) vwCl (sx_tys G) U ∧ va_D (fun _ => True) ws ∧ eV G (va_A ws sz) U U.heap
theorem sx_blind {G : sx_G} {av : List Value} {ws : va_W} {sz : Nat} : FrameBlind (va_Pc av (sx_pre G ws sz)) := fun a U g mk h => by
  obtain ⟨h0, h1, h2, h3, h4, h5⟩ := h
  exact ⟨h0, h1, h2, va_K.moved (u := U) (U := U.calling g mk a) (Vm.Alike.refl U.vm) h3, h4, eV.same (u := U) (U := U.calling g mk a) rfl h5⟩
def sx_Fx (p : Program) (m : MethodId) (c : Code) (cc : ByteArray) (nL : Nat) (s : State) (args : Array Value) (own : String) (G : sx_G) (A0 : Nat → Prop) : Prop :=
  p.tables.exec = Jvm.exec ∧ c.code = cc ∧ c.maxLocals = nL ∧ s.vm.findClass own = some m.cls ∧ (∀ w ∈ lw_all, w.before args s = true) ∧ va_K (sx_D G) vwCl (sx_tys G) s ∧ eV G A0 s s.heap ∧ ∀ q : Nat, s.heap.size ≤ q → A0 q
/-- which of the caller's cells go along (isC: wc), which stay (isR: wr) -/
def sx_cut (ws wc wr : va_W) (isC isR : List Nat) : Prop := isC.map (fun i => ws[i]?) = wc.map some ∧ isR.map (fun i => ws[i]?) = wr.map some ∧ va_nd isC = true ∧ va_nd isR = true ∧ ∀ i ∈ isR, i ∉ isC
theorem sx_pick {ws wc : va_W} {is : List Nat} (hs : is.map (fun i => ws[i]?) = wc.map some) (k : Nat) (q : Nat × va_E) (hq : wc[k]? = some q) : ∃ i, is[k]? = some i ∧ ws[i]? = some q := by
  have h1 : (is.map (fun i => ws[i]?))[k]? = some (some q) := by rw [hs, List.getElem?_map, hq]; rfl
  rw [List.getElem?_map] at h1
  cases hi : is[k]? with
  | none => rw [hi] at h1; cases h1
  | some i => rw [hi] at h1; exact ⟨i, rfl, Option.some.inj h1⟩
section SXA
variable {G : sx_G} {A0 : Nat → Prop} {ws wc wr : va_W} {isC isR : List Nat} {s : State} {H : Heap} {locs : List Loc}
theorem sx_pU (hcut : sx_cut ws wc wr isC isR) (hP : va_P (sx_D G) vwCl ws H) (hD : va_D A0 ws) (hK : va_K (sx_D G) vwCl (sx_tys G) s) (hE : eV G A0 s s.heap) (hS : va_S A0 s.heap H locs) (hA : ∀ q : Nat, s.heap.size ≤ q → A0 q) (U : State) (hU : U.heap = H) (hW : s.WarmedH U.vm) : sx_pre G wc H.size U := by
  refine ⟨by rw [hU], ?_, va_K.moved hW.alike hK, (hD.sub isC hcut.2.2.1 hcut.1).weaken (fun _ _ _ _ => trivial), hE.go hS (va_free hD hS hA isC hcut.1) hU hW⟩
  rw [hU]
  intro k q hk
  obtain ⟨i, -, hi⟩ := sx_pick hcut.1 k q hk
  exact hP i q hi
end SXA
section SXR
variable {p : Program} {l : Launch} {e : Env} {R : Room} {s : State} {m : MethodId} {args : Array Value} {below : List Frame} {meth : Method} {c : Code} {H : Heap} {locs : List Loc} {cells slots : Nat} {Q : State → Prop}
variable {y : MethodName} {bytes cc : ByteArray} {maxL nL n index fr lo mc ms pc : Nat} {ret : Option FieldType} {Qc : Array Value → State → Outcome → State → Prop} {XC : String → State → State → Prop} {free : Addr → Prop} {own C host : String} {b : Addr} {As rest st0 : List Value} {ls : Array Slot}
variable {G : sx_G} {A0 : Nat → Prop} {ws wc wr : va_W} {isC isR : List Nat} {Pc : Array Value → State → Prop}
/-- the caller's room holds the callee's -/
def sx_R (R : Room) (fr lo mc ms maxL cells slots : Nat) : Prop := (fr + 1 ≤ R.frames ∧ 8 + (maxL + 11) + lo ≤ R.locals) ∧ cells + mc ≤ R.cells ∧ slots + ms ≤ R.slots
theorem sx_cb (ht : ∀ w ∈ lw_all, w.before args s = true) (hm : sx_M y bytes maxL ret n) (hl : Cond.methodLink own index y ∈ lw_all) (hR : sx_R R fr lo mc ms maxL cells slots) :
    CallB R s args own index y bytes maxL ret (sx_ws y bytes maxL ret) { frames := fr, cells := mc, slots := ms, locals := lo } mc ms n := by
  obtain ⟨h1, h2, ⟨h3, h4, h5⟩, -⟩ := hm
  have hpay := sx_pays ht
  refine ⟨rfl, rfl, hR.1.1, hR.1.2, fun w hw => ?_, List.mem_cons_self, ht _ h1, ht _ h2, ⟨h3, h4⟩, fun sig h => ?_, ht _ hl⟩
  · rcases List.mem_cons.mp hw with rfl | hw
    · exact hpay _ h1
    · exact hpay _ hw
  · rw [h] at h5
    exact (Option.some.inj h5).symm
theorem sx_cn (ht : ∀ w ∈ lw_all, w.before args s = true) (hm : sx_M y bytes maxL ret n) (hl : Cond.methodLinkNest own index y host ∈ lw_all) (hR : sx_R R fr lo mc ms maxL cells slots) :
    va_CN R s args own index y host bytes maxL ret (sx_ws y bytes maxL ret) { frames := fr, cells := mc, slots := ms, locals := lo } mc ms n := by
  obtain ⟨h1, h2, ⟨h3, h4, h5⟩, -⟩ := hm
  have hpay := sx_pays ht
  refine ⟨⟨rfl, rfl, hR.1.1, hR.1.2, fun w hw => ?_, List.mem_cons_self⟩, ht _ h1, ht _ h2, ⟨h3, h4⟩, fun sig h => ?_, ht _ hl⟩
  · rcases List.mem_cons.mp hw with rfl | hw
    · exact hpay _ h1
    · exact hpay _ hw
  · rw [h] at h5
    exact (Option.some.inj h5).symm
theorem sx_runS (F : sx_Fx p m c cc nL s args own G A0) (hM : Met l y (sx_ws y bytes maxL ret) { frames := fr, cells := mc, slots := ms, locals := lo } (va_Pc As (sx_pre G wc H.size)) Qc mc ms free) (hm : sx_M y bytes maxL ret n) (hst : Cond.static y ∈ lw_all) (hl : Cond.methodLink own index y ∈ lw_all) (hR : sx_R R fr lo mc ms maxL cells slots)
    (hcut : sx_cut ws wc wr isC isR) (hP : va_P (sx_D G) vwCl ws H) (hD : va_D A0 ws) (hS : va_S A0 s.heap H locs) (hn : As.length = n) (hls : ls.size = nL) (hs0 : st0 = As.reverse ++ rest) (hW : (rest.map fun v => v.category).sum ≤ 8) (hdg : decode cc pc = .ok (.invokestatic index, 3)) :
    va_Run p l e R s m args below meth c H locs cells slots mc ms (F0 m pc ls st0) rest (Qc As.toArray) free := by
  obtain ⟨hx, hb, hml, hown, hts, hK, hE, hA⟩ := F
  exact va_runS ⟨hx, hb, hml, hown, hts⟩ hM ⟨sx_cb hts hm hl hR, hts _ hst⟩ ⟨sx_blind, fun U hU hW => ⟨rfl, sx_pU hcut hP hD hK hE hS hA U hU hW⟩⟩ rfl hn hls hs0 (lv_room hW) hdg hR.2
theorem sx_runSN (F : sx_Fx p m c cc nL s args own G A0) (hM : Met l y (sx_ws y bytes maxL ret) { frames := fr, cells := mc, slots := ms, locals := lo } (va_Pc As (sx_pre G wc H.size)) Qc mc ms free) (hm : sx_M y bytes maxL ret n) (hst : Cond.static y ∈ lw_all) (hl : Cond.methodLinkNest own index y host ∈ lw_all) (hR : sx_R R fr lo mc ms maxL cells slots)
    (hcut : sx_cut ws wc wr isC isR) (hP : va_P (sx_D G) vwCl ws H) (hD : va_D A0 ws) (hS : va_S A0 s.heap H locs) (hn : As.length = n) (hls : ls.size = nL) (hs0 : st0 = As.reverse ++ rest) (hW : (rest.map fun v => v.category).sum ≤ 8) (hdg : decode cc pc = .ok (.invokestatic index, 3)) :
    va_Run p l e R s m args below meth c H locs cells slots mc ms (F0 m pc ls st0) rest (Qc As.toArray) free := by
  obtain ⟨hx, hb, hml, hown, hts, hK, hE, hA⟩ := F
  exact va_runSN ⟨hx, hb, hml, hown, hts⟩ hM ⟨sx_cn hts hm hl hR, hts _ hst, trivial⟩ ⟨sx_blind, fun U hU hW => ⟨rfl, sx_pU hcut hP hD hK hE hS hA U hU hW⟩⟩ rfl hn hls hs0 (lv_room hW) hdg hR.2
theorem sx_runV (F : sx_Fx p m c cc nL s args own G A0) (hM : Met l y (sx_ws y bytes maxL ret) { frames := fr, cells := mc, slots := ms, locals := lo } (va_Pc (.ref b :: As) (sx_pre G wc H.size)) Qc mc ms free) (hm : sx_M y bytes maxL ret n) (hin : Cond.instanceMethod y ∈ lw_all) (hsel : Cond.selects y.cls y y ∈ lw_all) (hl : Cond.methodLink own index y ∈ lw_all) (hR : sx_R R fr lo mc ms maxL cells slots)
    (hcut : sx_cut ws wc wr isC isR) (hP : va_P (sx_D G) vwCl ws H) (hD : va_D A0 ws) (hS : va_S A0 s.heap H locs) (k ci : Nat) {fs : List Value} {T : u_T} {N : Nat} (he : ws[k]? = some (b, .inr (ci, fs))) (hc : vwCl[ci]? = some (y.cls, T, N)) (hn : As.length = n) (hls : ls.size = nL) (hs0 : st0 = As.reverse ++ .ref b :: rest) (hW : (rest.map fun v => v.category).sum ≤ 8) (hdg : decode cc pc = .ok (.invokevirtual index, 3)) :
    va_Run p l e R s m args below meth c H locs cells slots mc ms (F0 m pc ls st0) rest (Qc (Value.ref b :: As).toArray) free := by
  obtain ⟨hx, hb, hml, hown, hts, hK, hE, hA⟩ := F
  exact va_runV ⟨hx, hb, hml, hown, hts⟩ hM ⟨sx_cb hts hm hl hR, hts _ hin, hts _ hsel⟩ ⟨sx_blind, va_recv hK hP hc he, fun U hU hW => ⟨rfl, sx_pU hcut hP hD hK hE hS hA U hU hW⟩⟩ rfl hn hls hs0 (lv_room hW) hdg hR.2
theorem sx_runI (F : sx_Fx p m c cc nL s args own G A0) (hM : Met l y (sx_ws y bytes maxL none) { frames := fr, cells := mc, slots := ms, locals := lo } (va_Pc (.ref b :: As) (sx_pre G wc H.size)) Qc mc ms free) (hm : sx_M y bytes maxL none n) (hin : Cond.instanceMethod y ∈ lw_all) (hy1 : y.name = "<init>") (hl : Cond.methodLink own index y ∈ lw_all) (hR : sx_R R fr lo mc ms maxL cells slots)
    (hcut : sx_cut ws wc wr isC isR) (hP : va_P (sx_D G) vwCl ws H) (hD : va_D A0 ws) (hS : va_S A0 s.heap H locs) (hn : As.length = n) (hls : ls.size = nL) (hs0 : st0 = As.reverse ++ .ref b :: rest) (hW : (rest.map fun v => v.category).sum ≤ 8) (hdg : decode cc pc = .ok (.invokespecial index, 3)) :
    va_Run p l e R s m args below meth c H locs cells slots mc ms (F0 m pc ls st0) rest (Qc (Value.ref b :: As).toArray) free := by
  obtain ⟨hx, hb, hml, hown, hts, hK, hE, hA⟩ := F
  exact va_runI ⟨hx, hb, hml, hown, hts⟩ hM ⟨sx_cb hts hm hl hR, hy1, hts _ hin⟩ ⟨sx_blind, fun U hU hW => ⟨rfl, sx_pU hcut hP hD hK hE hS hA U hU hW⟩⟩ rfl hn hls hs0 (lv_room hW) hdg hR.2
theorem sx_runIN (F : sx_Fx p m c cc nL s args own G A0) (hM : Met l y (sx_ws y bytes maxL none) { frames := fr, cells := mc, slots := ms, locals := lo } (va_Pc (.ref b :: As) (sx_pre G wc H.size)) Qc mc ms free) (hm : sx_M y bytes maxL none n) (hin : Cond.instanceMethod y ∈ lw_all) (hy1 : y.name = "<init>") (hl : Cond.methodLinkNest own index y host ∈ lw_all) (hR : sx_R R fr lo mc ms maxL cells slots)
    (hcut : sx_cut ws wc wr isC isR) (hP : va_P (sx_D G) vwCl ws H) (hD : va_D A0 ws) (hS : va_S A0 s.heap H locs) (hn : As.length = n) (hls : ls.size = nL) (hs0 : st0 = As.reverse ++ .ref b :: rest) (hW : (rest.map fun v => v.category).sum ≤ 8) (hdg : decode cc pc = .ok (.invokespecial index, 3)) :
    va_Run p l e R s m args below meth c H locs cells slots mc ms (F0 m pc ls st0) rest (Qc (Value.ref b :: As).toArray) free := by
  obtain ⟨hx, hb, hml, hown, hts, hK, hE, hA⟩ := F
  exact va_runIN ⟨hx, hb, hml, hown, hts⟩ hM ⟨sx_cn hts hm hl hR, hy1, hts _ hin⟩ ⟨sx_blind, fun U hU hW => ⟨rfl, sx_pU hcut hP hD hK hE hS hA U hU hW⟩⟩ rfl hn hls hs0 (lv_room hW) hdg hR.2
theorem sx_xrunS (F : sx_Fx p m c cc nL s args own G A0) (hM : vx_Met l y (sx_ws y bytes maxL ret) { frames := fr, cells := mc, slots := ms, locals := lo } (va_Pc As (sx_pre G wc H.size)) Qc XC mc ms free) (hm : sx_M y bytes maxL ret n) (hst : Cond.static y ∈ lw_all) (hl : Cond.methodLink own index y ∈ lw_all) (hR : sx_R R fr lo mc ms maxL cells slots)
    (hcut : sx_cut ws wc wr isC isR) (hP : va_P (sx_D G) vwCl ws H) (hD : va_D A0 ws) (hS : va_S A0 s.heap H locs) (hn : As.length = n) (hls : ls.size = nL) (hs0 : st0 = As.reverse ++ rest) (hW : (rest.map fun v => v.category).sum ≤ 8) (hdg : decode cc pc = .ok (.invokestatic index, 3)) :
    vx_Run p l e R s m args below meth c H locs cells slots mc ms (F0 m pc ls st0) rest (Qc As.toArray) XC free := by
  obtain ⟨hx, hb, hml, hown, hts, hK, hE, hA⟩ := F
  exact vx_runS ⟨hx, hb, hml, hown, hts⟩ hM ⟨sx_cb hts hm hl hR, hts _ hst⟩ ⟨sx_blind, fun U hU hW => ⟨rfl, sx_pU hcut hP hD hK hE hS hA U hU hW⟩⟩ rfl hn hls hs0 (lv_room hW) hdg hR.2
theorem sx_xrunV (F : sx_Fx p m c cc nL s args own G A0) (hM : vx_Met l y (sx_ws y bytes maxL ret) { frames := fr, cells := mc, slots := ms, locals := lo } (va_Pc (.ref b :: As) (sx_pre G wc H.size)) Qc XC mc ms free) (hm : sx_M y bytes maxL ret n) (hin : Cond.instanceMethod y ∈ lw_all) (hsel : Cond.selects y.cls y y ∈ lw_all) (hl : Cond.methodLink own index y ∈ lw_all) (hR : sx_R R fr lo mc ms maxL cells slots)
    (hcut : sx_cut ws wc wr isC isR) (hP : va_P (sx_D G) vwCl ws H) (hD : va_D A0 ws) (hS : va_S A0 s.heap H locs) (k ci : Nat) {fs : List Value} {T : u_T} {N : Nat} (he : ws[k]? = some (b, .inr (ci, fs))) (hc : vwCl[ci]? = some (y.cls, T, N)) (hn : As.length = n) (hls : ls.size = nL) (hs0 : st0 = As.reverse ++ .ref b :: rest) (hW : (rest.map fun v => v.category).sum ≤ 8) (hdg : decode cc pc = .ok (.invokevirtual index, 3)) :
    vx_Run p l e R s m args below meth c H locs cells slots mc ms (F0 m pc ls st0) rest (Qc (Value.ref b :: As).toArray) XC free := by
  obtain ⟨hx, hb, hml, hown, hts, hK, hE, hA⟩ := F
  exact vx_runV ⟨hx, hb, hml, hown, hts⟩ hM ⟨sx_cb hts hm hl hR, hts _ hin, hts _ hsel⟩ ⟨sx_blind, va_recv hK hP hc he, fun U hU hW => ⟨rfl, sx_pU hcut hP hD hK hE hS hA U hU hW⟩⟩ rfl hn hls hs0 (lv_room hW) hdg hR.2
end SXR
