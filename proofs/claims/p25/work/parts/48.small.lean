/-! the law's small helpers -/
def andN (v : Int32) : Nat := (v &&& 2147483647).toBitVec.toNat
theorem andN_lt (v : Int32) : andN v < 2 ^ 31 := by
  show (v.toBitVec &&& (2147483647 : Int32).toBitVec).toNat < 2 ^ 31
  rw [BitVec.toNat_and]
  exact Nat.and_lt_two_pow _ (by decide)
theorem andN_e (v : Int32) : v &&& 2147483647 = nI (andN v) := by
  apply Int32.toBitVec_inj.mp
  show _ = BitVec.ofNat 32 (v &&& 2147483647).toBitVec.toNat
  simp
def blw (v : Int32) (m : Nat) : Nat := andN v % m
theorem blw_lt (v : Int32) {m : Nat} (h : 0 < m) : blw v m < m := Nat.mod_lt _ h
def mx1 (a : Nat) : Nat := if 1 < a then a else 1
theorem mx1_of {a : Nat} (h : a < 2 ^ 31) : (if (1 : Int32) < nI a then nI a else 1) = nI (mx1 a) := by
  have e : (1 : Int32) < nI a ↔ 1 < a := nI_ltI (a := 1) (by decide) h
  unfold mx1
  by_cases q : 1 < a
  · rw [if_pos (e.mpr q), if_pos q]
  · rw [if_neg (fun z => q (e.mp z)), if_neg q]; rfl
theorem mx1_pos (a : Nat) : 0 < mx1 a := by unfold mx1; split <;> omega
theorem mx1_le {a : Nat} (h : 1 ≤ a) : mx1 a = a := by unfold mx1; split <;> omega
theorem mx1_0 {a k : Nat} (h : k < mx1 a) (h2 : ¬ k < a) : a = 0 := by
  unfold mx1 at h
  split at h <;> omega
theorem mx1_b {a N : Nat} (h : a ≤ N) (h1 : 1 ≤ N) : mx1 a ≤ N := by unfold mx1; split <;> omega
theorem sB_or (a b : Bool) : sB a ||| sB b = sB (a || b) := by cases a <;> cases b <;> decide
theorem sx_shrI {S k : Nat} (hS : S < 2 ^ 30) (hk : k < 31) : nI S >>> (nI k &&& 31) = nI (S / 2 ^ k) := by
  have h1 : ∀ k, k < 31 → ((nI k &&& 31).toBitVec.smod 32).toNat = k := by decide +kernel
  have h2 : S / 2 ^ k ≤ S := Nat.div_le_self _ _
  apply Int32.toInt_inj.mp
  have e : (nI S >>> (nI k &&& 31)).toInt = (nI S).toInt >>> k := by
    show ((nI S).toBitVec.sshiftRight ((nI k &&& 31).toBitVec.smod 32).toNat).toInt = _
    rw [h1 k hk, BitVec.toInt_sshiftRight]
    rfl
  rw [e, nI_toInt (by omega), nI_toInt (by omega), Int.shiftRight_eq_div_pow]
  rfl
section SXD
variable {p : Program} {l : Launch} {e : Env} {R : Room} {s : State} {m : MethodId} {args : Array Value} {below : List Frame} {meth : Method} {c : Code} {H : Heap} {locs : List Loc} {cells slots : Nat} {Q : State → Prop}
variable {cc : ByteArray} {pc nL : Nat} {rest : List Value} {ls : Array Slot} {G : sx_G} {A : Nat → Prop} {H0 : Heap}
theorem sx_topD {x y : UInt64} (h : x = y) (k : W p l e R s m args below meth c H locs cells slots Q (F0 m pc ls (.double y :: rest))) : W p l e R s m args below meth c H locs cells slots Q (F0 m pc ls (.double x :: rest)) := by rw [h]; exact k
end SXD
/-! Math.abs of a double is run by the machine's own entry: here at 0 alone -/
set_option maxRecDepth 100000 in
theorem ab_row (p : Program) : ∃ row : NativeRow, NativeRow.find? p.tables.natives "java/lang/Math" "abs" "(D)D" = some row ∧ ∀ (e : Env) (S : State), ∃ acts, (row.sem #[.double 0]).run e S = .ok (some (.double 0)) S acts := by
  cases p <;> exact ⟨_, rfl, fun e S => ⟨_, rfl⟩⟩
theorem ab_over {p : Program} {e : Env} {s : State} {f : JFrame} {k : Class} {x : Method} {row : NativeRow} (h0 : f.pc = 0) (hk : s.vm.classes[f.method.cls]? = some k) (hb : k.loader = none) (hn : k.name = "java/lang/Math") (hx : k.methods[f.method.idx]? = some x) (h1 : x.name = "abs") (h2 : x.desc = "(D)D") (hr : NativeRow.find? p.tables.natives "java/lang/Math" "abs" "(D)D" = some row) : overridden p.tables e s f = some row := by
  have hin : "java/lang/Math" ∈ overriddenIn := by decide
  unfold overridden
  simp [h0, hk, hb, hn, hx, h1, h2, hin, hr]
theorem ab_steps (p : Program) {e : Env} {below : List Frame} {s : State} {g : JFrame} {c : Code} (ht : s.topJava?.isSome) (hab : ∃ mid, s.frames.tail = mid ++ below) (hrun : s.status = .running) (hable : s.curStatus? = some .runnable) (hal : s.alone = true) (hcg : s.code? g.method = some c)
    {m : MethodId} {meth : Method} {k : Class} {cm : Code} (hk : s.vm.classes[m.cls]? = some k) (hx : k.methods[m.idx]? = some meth) (hb : k.loader = none) (hn : k.name = "java/lang/Math") (h1 : meth.name = "abs") (h2 : meth.desc = "(D)D") (hsg : parseMethodDescriptor "(D)D" = some meth.sig)
    (hc : meth.code = some cm) (hml : cm.maxLocals = 2) (hl : meth.locks = false) (hroom : (s.calling g m #[.double 0]).hasRoom e.platform {} = true) {ig : Instr} {len : Nat} (hdg : decode c.code g.pc = .ok (ig, len)) :
    Steps p.tables e below (doInvoke e (s.setTop g) [] m #[.double 0]).1 (s.setTop { g with pc := g.pc + len, stack := .double 0 :: g.stack }) := by
  obtain ⟨row, hrow, hsem⟩ := ab_row p
  obtain ⟨g0, hg0⟩ := Option.isSome_iff_exists.mp ht
  obtain ⟨r, hr⟩ := State.topJava?_eq_some.mp hg0
  obtain ⟨mid, hmid⟩ := hab
  have hcur : s.cur < s.threads.size := State.cur_lt_of_frames hr
  have hm : s.vm.method? m = some meth := by simp [Vm.method?, hk, hx]
  have htop : s.setTop g = s.setFrames (.java g :: r) := State.setTop_of_frames _ hr
  have htl : s.frames.tail = r := by rw [hr]; rfl
  have hfull : e.platform.stackFull (s.setTop g).me (s.setTop g).frames cm.maxLocals = false := by
    have hfc := State.frames_calling ht g m #[.double 0]
    obtain ⟨-, r2, -, r4⟩ := State.hasRoom_stack hroom
    rw [State.localsInUse_invoking hfc (meth := meth) (c := cm) hm hc, htl] at r4
    rw [hfc, htl] at r2
    have hw := stackUse_le_stackWeight (.java g :: r)
    rw [State.calling_eq ht, State.stackLimits_setFrames] at r2 r4
    rw [htop, State.frames_setFrames _ hcur]
    have z1 : ({} : Room).frames = 0 := rfl
    have z2 : ({} : Room).locals = 0 := rfl
    refine Platform.stackFull_eq_false ?_ ?_
    · rw [State.stackLimits_setFrames]; simp only [List.length_cons] at r2 ⊢; omega
    · rw [State.stackLimits_setFrames]; omega
  have hpush : (s.setTop g).pushFrame (.java { method := m, pc := 0, locals := argsToLocals #[.double 0] 2, stack := [], locked := none }) = s.setFrames (.java (entryFrame m #[.double 0] 2) :: .java g :: r) := by
    rw [State.pushFrame, State.frames_setTop _ hr, htop, State.setFrames_setFrames]
    rfl
  rw [(doInvoke_java (s := s.setTop g) (e := e) (acts := []) (args := #[.double 0]) (meth := meth) (code := cm) hm hc hl hfull).1, hml, hpush]
  have hf1 : (s.setFrames (.java (entryFrame m #[.double 0] 2) :: .java g :: r)).frames = .java (entryFrame m #[.double 0] 2) :: .java g :: r := State.frames_setFrames _ hcur
  have hov : overridden p.tables e (s.setFrames (.java (entryFrame m #[.double 0] 2) :: .java g :: r)) (entryFrame m #[.double 0] 2) = some row := ab_over (k := k) (x := meth) rfl hk hb hn hx h1 h2 hrow
  have hbind : ∀ F : List Frame, ((s.setFrames F).vm.classes[m.cls]?.bind fun y => y.methods[m.idx]?) = some meth := by
    intro F
    show (s.vm.classes[m.cls]?.bind fun y => y.methods[m.idx]?) = some meth
    simp [hk, hx]
  have hps : meth.sig.parameters.length = 1 := by
    have h3 : parseMethodDescriptor "(D)D" = some { parameters := [.double], returnType := some .double } := by decide +kernel
    rw [h3] at hsg
    rw [← Option.some.inj hsg]
    rfl
  have htake : ∀ n : Nat, List.take (1 + n) [Value.double 0] = [Value.double 0] := fun n => List.take_of_length_le (Nat.le_add_right 1 n)
  obtain ⟨acts, hsr⟩ := hsem e (s.setFrames (.native { method := m, args := #[.double 0] } :: .java g :: r))
  have hcd : ∀ F : List Frame, (s.setFrames F).code? g.method = some c := by
    intro F
    rw [State.code?_eq] at hcg ⊢
    simpa [State.setFrames] using hcg
  have hho : handOver (s.setFrames (.native { method := m, args := #[.double 0] } :: .java g :: r)) (some (.double 0)) (.java g :: r) = some (.java { g with pc := g.pc + len, stack := .double 0 :: g.stack } :: r) := by
    simp [handOver, hcd, hdg, Except.toOption]
  have hone : (stepThread p.tables e (s.setFrames (.java (entryFrame m #[.double 0] 2) :: .java g :: r))).1 = s.setTop { g with pc := g.pc + len, stack := .double 0 :: g.stack } := by
    unfold stepThread
    simp only [hf1, hov]
    have hb0 : (s.vm.classes[m.cls]?.bind fun y => y.methods[m.idx]?) = some meth := by simp [hk, hx]
    simp [entryFrame, argsToLocals, Value.category, argCount, hb0, hbind, hps, htake, hsr, afterNative]
    rw [doReturn_native (f := { method := m, args := #[.double 0] }) (below := .java g :: r) (State.frames_setFrames _ hcur) rfl hho, State.setFrames_setFrames, ← State.setTop_of_frames _ hr]
  refine Steps.head ⟨hrun, by simpa using hable, by simpa using hal⟩ ⟨.java (entryFrame m #[.double 0] 2) :: .java g :: mid, by rw [hf1]; rw [hr] at hmid; simp at hmid; simp [hmid], by simp, by simp⟩ ?_
  rw [hone]
  exact Steps.refl _
section SXF
variable {p : Program} {l : Launch} {e : Env} {R : Room} {s : State} {m : MethodId} {args : Array Value} {below : List Frame} {meth : Method} {c : Code} {H : Heap} {locs : List Loc} {cells slots : Nat} {Q : State → Prop}
variable {cc : ByteArray} {index pc : Nat} {own : String} {rest : List Value} {ls : Array Slot}
theorem ab_back {len wd : Nat} (hcode : (Cond.code yJ9_abs_294c1 cJ9_abs_294c1 2 (some .double)).before args s = true) (hfr : 1 ≤ R.frames) (hlo : wd + 13 ≤ R.locals) :
    Back l R p e below s args yJ9_abs_294c1 len wd (fun A a => A.cells ≤ R.cells ∧ A.slots ≤ R.slots ∧ a = #[.double 0]) (fun A _ v B => v = some (.double 0) ∧ B = A) := by
  intro m meth c A g ig mk a X hg hsize hdg hW hnm ⟨hc, hs, ha⟩
  subst ha
  have hcU : (Cond.code yJ9_abs_294c1 cJ9_abs_294c1 2 (some .double)).before args A.U = true := Cond.tabsOnly_warm (args' := args) (T := A.U) X.warmed _ rfl hcode
  obtain ⟨methM, cM, hmM, hcM, -, hlM, -, hkM, -, hsM⟩ := Cond.code_spec hnm hcU
  obtain ⟨kP, hkP, hkn⟩ := className_of_methodNamed hnm
  obtain ⟨n1, n2⟩ := name_of_methodNamed hnm hmM
  have hxP : kP.methods[mk.idx]? = some methM := by simpa [Vm.method?, hkP] using hmM
  refine ⟨some (.double 0), A, X, ⟨rfl, rfl⟩, ?_⟩
  exact ab_steps p X.here.top X.here.above X.here.running X.here.runnable X.here.alone (by rw [hg]; exact X.here.code) hkP hxP (Vm.bootOf_findClass (findClass_of_methodNamed hnm) hkP) hkn n1 n2 hsM hcM hlM hkM
    (X.room_calling hsize hmM hcM (R' := {}) (by show 0 + 1 ≤ R.frames; omega) (by rw [hlM]; show _ + (2 + 11) + 0 ≤ R.locals; omega) (by show A.cells + 0 ≤ R.cells; omega) (by show A.slots + 0 ≤ R.slots; omega)) hdg
theorem ab_abs (hx : p.tables.exec = Jvm.exec) (hb : c.code = cc) (hml : c.maxLocals = ls.size) (hown : s.vm.findClass own = some m.cls) (hlink : (Cond.methodLink own index yJ9_abs_294c1).before args s = true) (hstat : (Cond.static yJ9_abs_294c1).before args s = true) (hini : (Cond.initialized "java/lang/Math").before args s = true) (hcode : (Cond.code yJ9_abs_294c1 cJ9_abs_294c1 2 (some .double)).before args s = true)
    (hframes : 1 ≤ R.frames) (hlocals : (rest.map fun v => v.category).sum + 13 ≤ R.locals) (hc : cells ≤ R.cells) (hs : slots ≤ R.slots) (hdg : decode cc pc = .ok (.invokestatic index, 3))
    (kk : W p l e R s m args below meth c H locs cells slots Q (F0 m (pc + 3) ls (.double 0 :: rest))) : W p l e R s m args below meth c H locs cells slots Q (F0 m pc ls (.double 0 :: rest)) := by
  intro T hT X
  obtain ⟨v, vm1, B, hW, X', ⟨rfl, rfl⟩, st⟩ := callS X hx (y := yJ9_abs_294c1) hown hlink hstat hini hcode ⟨by decide, by decide⟩ (ab_back (wd := (rest.map fun v => v.category).sum) hcode hframes hlocals) (g := F0 m pc ls (.double 0 :: rest)) rfl (by rw [hml]) (argsL := [.double 0]) (rest := rest)
    (fun sig h => by
      have h3 : parseMethodDescriptor "(D)D" = some { parameters := [.double], returnType := some .double } := by decide +kernel
      rw [show yJ9_abs_294c1.desc = "(D)D" from rfl, h3] at h
      rw [← Option.some.inj h]; rfl)
    rfl (by show 2 * 0 + _ ≤ _; omega) (by rw [hb]; exact hdg) (fun vm1 _ => ⟨hc, hs, rfl⟩)
  obtain ⟨t, a1, b1⟩ := kk (T.setVm vm1) hT X'
  exact ⟨t, st t a1, b1⟩
end SXF
theorem part_and {a b p : Nat} (h : a < 2 ^ p) : sDf (a &&& b) (2 ^ p - 1) = 0 := by
  apply Nat.eq_of_testBit_eq
  intro k
  rw [sDf_bit, Nat.zero_testBit, Nat.testBit_and, Nat.testBit_two_pow_sub_one]
  by_cases q : k < p
  · rw [decide_eq_true q, Bool.not_true, Bool.and_false]
  · rw [Nat.testBit_lt_two_pow (Nat.lt_of_lt_of_le h (Nat.pow_le_pow_right (by decide) (by omega))), Bool.false_and, Bool.false_and]
theorem part_self (a b : Nat) : sDf (a &&& b) a = 0 := by
  apply Nat.eq_of_testBit_eq
  intro k
  rw [sDf_bit, Nat.zero_testBit, Nat.testBit_and]
  cases a.testBit k <;> cases b.testBit k <;> rfl
theorem part_zero (a : Nat) : sDf 0 a = 0 := by unfold sDf; rw [Nat.zero_and, Nat.xor_zero]
theorem off_pos {fs : Nat → Nat} {j k n : Nat} (hj : j < k) (hk : k < n) (hb : (fs k).testBit j = true) : offN fs j n ≠ 0 := by
  intro h
  have h1 : (offN fs j n).testBit k = true := by
    rw [off_bit2 _ _ _ _ (by omega)]
    exact fam_closed hj (by omega) hj hb (fam_self _)
  rw [h, Nat.zero_testBit] at h1
  exact absurd h1 (by decide)
set_option maxHeartbeats 4000000 in
set_option maxRecDepth 100000 in
theorem m_L_below (l : Launch) (G : sx_G) (sz : Nat) (v : Int32) (m9 : Nat) (h_m : 0 < m9) (h_m2 : m9 < 2147483648) : sx_Met l yL_below cL_below 2 (some .int) 0 0 0 0 G [.int v, .int (nI m9)] [] sz (sx_Qi G (fun (r : Int32) (u : Unit) => r = nI (blw v m9)) (fun (u : Unit) => [])) := by
  refine sx_start (by decide) rfl (fun p e s m below meth c A ls F hr hlk hnm hP hD hS hl => ?_)
  obtain ⟨hx, hb, hml, hown, hts, hK, hE, hA⟩ := id F
  have hown : s.vm.findClass RL = some m.cls := hown
  generalize hHe : s.heap = H at hP
  have hS : va_S A s.heap H [] := by rw [← hHe]; exact va_S.rf
  have hl : lv_has ls 2 [(0, .int v), (1, .int (nI m9))] := hl
  refine lv_iload_n hx hb dL_below_0 rfl (lv_at hl 0 rfl) ?_
  refine lv_ldc (v := 2147483647) hx hb hown (hts _ q673) dL_below_1 ?_
  refine lv_iand hx hb dL_below_3 ?_
  refine sx_topI (andN_e v) ?_
  have h_an := andN_lt v
  refine lv_iload_n hx hb dL_below_4 rfl (lv_at hl 1 rfl) ?_
  refine lv_irem hx hb dL_below_5 (nI_ne0 (by omega) (by omega)) ?_
  refine sx_topI (pk_rem (a := (andN v)) (d := m9) (by omega) (by omega) (by omega)) ?_
  exact (sx_iret (v := nI ((andN v) % m9)) () hx hb hr rfl hlk hP hD hS rfl dL_below_6 rfl rfl)
