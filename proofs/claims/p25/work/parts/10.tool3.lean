/-! own tools: calls by an interface; methods with handlers; rows of objects -/
def sx_wsW (y : MethodName) (b : ByteArray) (mL : Nat) (ret : Option FieldType) (hh : List (Nat × Nat × Nat × Nat)) : List Cond := Cond.codeWith y b mL ret hh :: lw_all
def sx_MW (y : MethodName) (b : ByteArray) (mL : Nat) (ret : Option FieldType) (hh : List (Nat × Nat × Nat × Nat)) (n : Nat) : Prop :=
  Cond.codeWith y b mL ret hh ∈ lw_all ∧ Cond.initialized y.cls ∈ lw_all ∧ (y.cls ≠ "java/lang/invoke/MethodHandle" ∧ y.cls ≠ "java/lang/invoke/VarHandle" ∧ (parseMethodDescriptor y.desc).map (fun d => d.parameters.length) = some n) ∧ plainName y.cls = true
abbrev sx_MetW (l : Launch) (y : MethodName) (b : ByteArray) (mL : Nat) (ret : Option FieldType) (hh : List (Nat × Nat × Nat × Nat)) (fr lo mc ms : Nat) (G : sx_G) (av : List Value) (ws : va_W) (sz : Nat) (Q : (Nat → Prop) → Array Value → State → Outcome → State → Prop) : Prop :=
  Met l y (sx_wsW y b mL ret hh) { frames := fr, cells := mc, slots := ms, locals := lo } (va_Pc av (sx_pre G ws sz)) (Q (va_A ws sz)) mc ms (va_A ws sz)
theorem sx_startW {l : Launch} {y : MethodName} {b : ByteArray} {mL : Nat} {ret : Option FieldType} {hh : List (Nat × Nat × Nat × Nat)} {fr lo mc ms : Nat} {G : sx_G} {av : List Value} {ws : va_W} {sz : Nat} {Q : (Nat → Prop) → Array Value → State → Outcome → State → Prop} (hy : plainName y.cls = true) (hlen : Nat.ble (lg_sl av).length mL = true)
    (body : ∀ (p : Program) (e : Env) (s : State) (m : MethodId) (below : List Frame) (meth : Method) (c : Code) (A : Nat → Prop) (ls : Array Slot), sx_Fx p m c b mL s av.toArray y.cls G A → meth.sig.returnType = ret → meth.locks = false → meth.name = y.name → c.exceptionTable.toList = tableOf hh → va_P (sx_D G) vwCl ws s.heap → va_D A ws → va_S A s.heap s.heap [] → lv_has ls mL (lv_args 0 av) →
      W p l e { frames := fr, cells := mc, slots := ms, locals := lo } s m av.toArray below meth c s.heap [] 0 0 (MQ below (Q A) av.toArray s mc ms A) (F0 m 0 ls [])) : sx_MetW l y b mL ret hh fr lo mc ms G av ws sz Q := by
  refine va_MetW (cc := b) (maxL := mL) (ret := ret) hy rfl ?_
  intro p e s m args below meth c s₁ B hml hv
  obtain ⟨rfl, hsz, hP, hK, hD0, hE⟩ := hv
  have hts := atoms_spec (ws := sx_wsW y b mL ret hh) B.pre
  subst hsz
  have hl := lv_entry av (n := mL) (Nat.le_of_ble_eq_true hlen)
  rw [lg_entry_eq]
  exact body p e s m below meth c _ _ ⟨B.exec, B.bytes, hml, findClass_of_methodNamed B.named, fun w h => hts w (List.mem_cons_of_mem _ h), hK, hE, fun q h => Or.inr h⟩ B.returns B.notSynchronized (name_of_methodNamed B.named B.method).1 (vx_table (x := y) B (hts _ List.mem_cons_self)) hP hD0.self va_S.rf hl
section SXT
variable {p : Program} {l : Launch} {e : Env} {R : Room} {s : State} {m : MethodId} {args : Array Value} {below : List Frame} {meth : Method} {c : Code} {H : Heap} {locs : List Loc} {cells slots : Nat} {Q : State → Prop}
variable {x y : MethodName} {bytes cc : ByteArray} {maxL nL n index count fr lo mc ms pc : Nat} {ret : Option FieldType} {Qc : Array Value → State → Outcome → State → Prop} {free : Addr → Prop} {own C : String} {b : Addr} {As rest st0 : List Value} {ls : Array Slot} {hh : List (Nat × Nat × Nat × Nat)}
variable {G : sx_G} {A0 A : Nat → Prop} {ws wc wr : va_W} {isC isR : List Nat} {S : Type} {a : Array Value}
theorem sx_runSW (F : sx_Fx p m c cc nL s args own G A0) (hM : Met l y (sx_wsW y bytes maxL ret hh) { frames := fr, cells := mc, slots := ms, locals := lo } (va_Pc As (sx_pre G wc H.size)) Qc mc ms free) (hm : sx_MW y bytes maxL ret hh n) (hst : Cond.static y ∈ lw_all) (hl : Cond.methodLink own index y ∈ lw_all) (hR : sx_R R fr lo mc ms maxL cells slots)
    (hcut : sx_cut ws wc wr isC isR) (hP : va_P (sx_D G) vwCl ws H) (hD : va_D A0 ws) (hS : va_S A0 s.heap H locs) (hn : As.length = n) (hls : ls.size = nL) (hs0 : st0 = As.reverse ++ rest) (hW : (rest.map fun v => v.category).sum ≤ 8) (hdg : decode cc pc = .ok (.invokestatic index, 3)) :
    va_Run p l e R s m args below meth c H locs cells slots mc ms (F0 m pc ls st0) rest (Qc As.toArray) free := by
  obtain ⟨hx, hb, hml, hown, hts, hK, hE, hA⟩ := F
  obtain ⟨h1, h2, ⟨h3, h4, h5⟩, -⟩ := hm
  have hpay := sx_pays hts
  refine vx_runSW ⟨hx, hb, hml, hown, hts⟩ hM ⟨⟨rfl, rfl, hR.1.1, hR.1.2, fun w hw => ?_, List.mem_cons_self⟩, hts _ h1, hts _ h2, ⟨h3, h4⟩, fun sig h => ?_, hts _ hl, hts _ hst⟩ ⟨sx_blind, fun U hU hW => ⟨rfl, sx_pU hcut hP hD hK hE hS hA U hU hW⟩⟩ rfl hn hls hs0 (lv_room hW) hdg hR.2
  · rcases List.mem_cons.mp hw with rfl | hw
    · exact hpay _ h1
    · exact hpay _ hw
  · rw [h] at h5
    exact (Option.some.inj h5).symm
end SXT
