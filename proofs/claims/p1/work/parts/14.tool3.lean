/-! own tools: calls by an interface; methods with handlers; rows of objects -/
def sx_wsW (y : MethodName) (b : ByteArray) (mL : Nat) (ret : Option FieldType) (hh : List (Nat × Nat × Nat × Nat)) : List Cond := Cond.codeWith y b mL ret hh :: lw_all
def sx_MW (y : MethodName) (b : ByteArray) (mL : Nat) (ret : Option FieldType) (hh : List (Nat × Nat × Nat × Nat)) (n : Nat) : Prop :=
  Cond.codeWith y b mL ret hh ∈ lw_all ∧ Cond.initialized y.cls ∈ lw_all ∧ (y.cls ≠ "java/lang/invoke/MethodHandle" ∧ y.cls ≠ "java/lang/invoke/VarHandle" ∧ (parseMethodDescriptor y.desc).map (fun d => d.parameters.length) = some n) ∧ plainName y.cls = true
abbrev sx_MetW (l : Launch) (y : MethodName) (b : ByteArray) (mL : Nat) (ret : Option FieldType) (hh : List (Nat × Nat × Nat × Nat)) (fr lo mc ms : Nat) (G : sx_G) (av : List Value) (ws : va_W) (sz : Nat) (Q : (Nat → Prop) → Array Value → State → Outcome → State → Prop) : Prop :=
  Met l y (sx_wsW y b mL ret hh) { frames := fr, cells := mc, slots := ms, locals := lo } (va_Pc av (sx_pre G ws sz)) (Q (va_A ws sz)) mc ms (va_A ws sz)
theorem sx_startW {l : Launch} {y : MethodName} {b : ByteArray} {mL : Nat} {ret : Option FieldType} {hh : List (Nat × Nat × Nat × Nat)} {fr lo mc ms : Nat} {G : sx_G} {av : List Value} {ws : va_W} {sz : Nat} {Q : (Nat → Prop) → Array Value → State → Outcome → State → Prop} (hy : plainName y.cls = true) (hlen : Nat.ble (lg_sl av).length mL = true)
    (body : ∀ (p : Program) (e : Env) (s : State) (m : MethodId) (below : List Frame) (meth : Method) (c : Code) (A : Nat → Prop) (ls : Array Slot), sx_Fx p m c b mL s av.toArray y.cls G A → meth.sig.returnType = ret → meth.locks = false → meth.name = y.name → c.exceptionTable.toList = tableOf hh → va_P (sx_D G) vwCl ws s.heap → va_D A ws → va_S A s.heap s.heap [] → lv_has ls mL (lv_args 0 av) →
      W p l e { frames := fr, cells := mc, slots := ms, locals := lo } s m av.toArray below meth c s.heap [] 0 0 (MQ below (Q A) av.toArray s mc ms A) (F0 m 0 ls [])) : sx_MetW l y b mL ret hh fr lo mc ms G av ws sz Q := by
  refine va_MetW (cc := b) (maxL := mL) (ret := ret) hy rfl ?_
  intro p e s m args below meth c s₁ B hml hv
  obtain ⟨rfl, hsz, hP, hK, hD0, hE⟩ := hv
  have hts := atoms_spec (ws := sx_wsW y b mL ret hh) B.pre
  subst hsz
  have hl := lv_entry av (n := mL) (Nat.le_of_ble_eq_true hlen)
  rw [lg_entry_eq]
  exact body p e s m below meth c _ _ ⟨B.exec, B.bytes, hml, findClass_of_methodNamed B.named, fun w h => hts w (List.mem_cons_of_mem _ h), hK, hE, fun q h => Or.inr h⟩ B.returns B.notSynchronized (name_of_methodNamed B.named B.method).1 (vx_table (x := y) B (hts _ List.mem_cons_self)) hP hD0.self va_S.rf hl
section SXT
variable {p : Program} {l : Launch} {e : Env} {R : Room} {s : State} {m : MethodId} {args : Array Value} {below : List Frame} {meth : Method} {c : Code} {H : Heap} {locs : List Loc} {cells slots : Nat} {Q : State → Prop}
variable {x y : MethodName} {bytes cc : ByteArray} {maxL nL n index count fr lo mc ms pc : Nat} {ret : Option FieldType} {Qc : Array Value → State → Outcome → State → Prop} {free : Addr → Prop} {own C : String} {b : Addr} {As rest st0 : List Value} {ls : Array Slot} {hh : List (Nat × Nat × Nat × Nat)}
variable {G : sx_G} {A0 A : Nat → Prop} {ws wc wr : va_W} {isC isR : List Nat} {S : Type} {a : Array Value}
theorem sx_runSW (F : sx_Fx p m c cc nL s args own G A0) (hM : Met l y (sx_wsW y bytes maxL ret hh) { frames := fr, cells := mc, slots := ms, locals := lo } (va_Pc As (sx_pre G wc H.size)) Qc mc ms free) (hm : sx_MW y bytes maxL ret hh n) (hst : Cond.static y ∈ lw_all) (hl : Cond.methodLink own index y ∈ lw_all) (hR : sx_R R fr lo mc ms maxL cells slots)
    (hcut : sx_cut ws wc wr isC isR) (hP : va_P (sx_D G) vwCl ws H) (hD : va_D A0 ws) (hS : va_S A0 s.heap H locs) (hn : As.length = n) (hls : ls.size = nL) (hs0 : st0 = As.reverse ++ rest) (hW : (rest.map fun v => v.category).sum ≤ 8) (hdg : decode cc pc = .ok (.invokestatic index, 3)) :
    va_Run p l e R s m args below meth c H locs cells slots mc ms (F0 m pc ls st0) rest (Qc As.toArray) free := by
  obtain ⟨hx, hb, hml, hown, hts, hK, hE, hA⟩ := F
  obtain ⟨h1, h2, ⟨h3, h4, h5⟩, -⟩ := hm
  have hpay := sx_pays hts
  refine vx_runSW ⟨hx, hb, hml, hown, hts⟩ hM ⟨⟨rfl, rfl, hR.1.1, hR.1.2, fun w hw => ?_, List.mem_cons_self⟩, hts _ h1, hts _ h2, ⟨h3, h4⟩, fun sig h => ?_, hts _ hl, hts _ hst⟩ ⟨sx_blind, fun U hU hW => ⟨rfl, sx_pU hcut hP hD hK hE hS hA U hU hW⟩⟩ rfl hn hls hs0 (lv_room hW) hdg hR.2
  · rcases List.mem_cons.mp hw with rfl | hw
    · exact hpay _ h1
    · exact hpay _ hw
  · rw [h] at h5
    exact (Option.some.inj h5).symm
theorem sx_runF (F : sx_Fx p m c cc nL s args own G A0) (hM : Met l y (sx_ws y bytes maxL ret) { frames := fr, cells := mc, slots := ms, locals := lo } (va_Pc (.ref b :: As) (sx_pre G wc H.size)) Qc mc ms free) (hm : sx_M y bytes maxL ret n) (hFw : va_Fw C x y s) (hin : Cond.instanceMethod y ∈ lw_all) (hsel : Cond.selects C x y ∈ lw_all) (hl : Cond.methodLink own index x ∈ lw_all) (hd : x.cls ≠ "java/lang/invoke/MethodHandle" ∧ x.cls ≠ "java/lang/invoke/VarHandle" ∧ (parseMethodDescriptor x.desc).map (fun d => d.parameters.length) = some n) (hR : sx_R R fr lo mc ms maxL cells slots)
    (hcut : sx_cut ws wc wr isC isR) (hP : va_P (sx_D G) vwCl ws H) (hD : va_D A0 ws) (hS : va_S A0 s.heap H locs) (k ci : Nat) {fs : List Value} {T : u_T} {N : Nat} (he : ws[k]? = some (b, .inr (ci, fs))) (hc : vwCl[ci]? = some (C, T, N)) (hn : As.length = n) (hls : ls.size = nL) (hs0 : st0 = As.reverse ++ .ref b :: rest) (hW : (rest.map fun v => v.category).sum ≤ 8) (hdg : decode cc pc = .ok (.invokeinterface index count, 5)) :
    va_Run5 p l e R s m args below meth c H locs cells slots mc ms (F0 m pc ls st0) rest (Qc (Value.ref b :: As).toArray) free := by
  obtain ⟨hx, hb, hml, hown, hts, hK, hE, hA⟩ := F
  obtain ⟨h1, h2, -, -⟩ := hm
  obtain ⟨f1, f2, f3, f4, f5⟩ := hFw
  have hpay := sx_pays hts
  refine va_runF (hK.1 ci _ hc).2 ⟨hx, hb, hml, hown, hts⟩ hM ⟨⟨rfl, rfl, hR.1.1, hR.1.2, fun w hw => ?_, List.mem_cons_self⟩, hts _ hl, va_any rfl f1, va_any rfl f2, hts _ hsel, hts _ hin, va_any rfl f3, va_any rfl f4, va_any rfl f5, hts _ h2, hts _ h1, ⟨hd.1, hd.2.1⟩, fun sig h => ?_⟩ ⟨sx_blind, va_recv hK hP hc he, fun U hU hW => ⟨rfl, sx_pU hcut hP hD hK hE hS hA U hU hW⟩⟩ rfl hn hls hs0 (lv_room hW) hdg hR.2
  · rcases List.mem_cons.mp hw with rfl | hw
    · exact hpay _ h1
    · exact hpay _ hw
  · have h5 := hd.2.2
    rw [h] at h5
    exact (Option.some.inj h5).symm
theorem sx_kFi {post : Int32 → S → Prop} {w1 : S → va_W} (hr : va_Run5 p l e R s m args below meth c H locs cells slots mc ms (F0 m pc ls st0) rest (sx_Qi G post w1 (va_A wc H.size) a) (va_A wc H.size)) (hcut : sx_cut ws wc wr isC isR) (hP : va_P (sx_D G) vwCl ws H) (hD : va_D A ws) (hS : va_S A s.heap H locs) (hA : ∀ q : Nat, s.heap.size ≤ q → A q)
    (kk : ∀ (r : Int32) (u : S) (H1 : Heap) (locs1 : List Loc), post r u → va_P (sx_D G) vwCl (wr ++ w1 u) H1 → va_D A (wr ++ w1 u) → va_S A s.heap H1 locs1 → W p l e R s m args below meth c H1 locs1 (cells + mc) (slots + ms) Q (F0 m (pc + 5) ls (.int r :: rest))) : W p l e R s m args below meth c H locs cells slots Q (F0 m pc ls st0) := by
  have hf := va_free hD hS hA isC hcut.1
  refine va_callFi hr hS (fun q _ h => hf q h) hf (fun r u t H1 locs1 ht hvm hw hB hz1 hk1 hS1 => ?_)
  obtain ⟨hP1, hD1⟩ := hB
  rw [ht] at hP1
  obtain ⟨hP2, hD2⟩ := sx_join hcut hP hD hS hA hk1 hP1 hD1
  exact kk r u H1 locs1 hw hP2 hD2 hS1
theorem sx_newq (hx : p.tables.exec = Jvm.exec) (hb : c.code = cc) (hown : s.vm.findClass own = some m.cls) (hcl : (Cond.classLink own index "java/lang/Object").before args s = true) (hover : va_AO "java/lang/Object" s) (hK : va_K (sx_D G) vwCl (sx_tys G) s) (hP : va_P (sx_D G) vwCl ws H) (hD : va_D A ws) (hS : va_S A s.heap H locs) (hA : ∀ q : Nat, s.heap.size ≤ q → A q) {n : Int32} (N' : Nat) (hn : ¬ n < 0) (hN : n.toNatClampNeg = N') (hbytes : N' * 4 ≤ 536870912) (hcells : cells + 1 ≤ R.cells) (hslots : slots + N' ≤ R.slots) (hdg : decode cc pc = .ok (.anewarray index, 3))
    (kk : ∀ (q : Nat) (H1 : Heap), va_P (sx_D G) vwCl (ws ++ [(q, .inl (G.2.2.2.1, N', .inr (.inr (.inr (.inr (fun _ => none))))))]) H1 → va_D A (ws ++ [(q, .inl (G.2.2.2.1, N', .inr (.inr (.inr (.inr (fun _ => none))))))]) → va_S A s.heap H1 locs →
      W p l e R s m args below meth c H1 locs (cells + 1) (slots + N') Q (F0 m (pc + 3) ls (.ref q :: rest))) : W p l e R s m args below meth c H locs cells slots Q (F0 m pc ls (.int n :: rest)) := by
  refine va_newq hx hb hown hcl hover hK hP hD hS hA hn hN hbytes hcells hslots hdg (fun q cA H1 hK1 hP1 hD1 hS1 => ?_)
  obtain ⟨kA, comp, g1, g2, g3, h1⟩ := (hK.2 2 _ rfl).2
  obtain ⟨kA', comp', g1', g2', g3', h2⟩ := (hK1.2 3 _ rfl).2
  have h3 : G.2.2.2.1 = cA := Option.some.inj ((show s.vm.findClass _ = some G.2.2.2.1 from h1).symm.trans (show s.vm.findClass _ = some cA from h2))
  subst h3
  exact kk q H1 hP1 hD1 hS1
end SXT
