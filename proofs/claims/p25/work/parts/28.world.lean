/-! own tools: what may throw, and keeps the world: contracts, calls, ends -/
def sx_XCw (G : sx_G) (px : String → Prop) (wx : String → va_W) (A : Nat → Prop) : String → State → State → Prop := vx_X (fun _ : Unit => True) (fun E _ t => px E ∧ va_P (sx_D G) vwCl (wx E) t.heap ∧ va_D A (wx E)) A
abbrev sx_MetXw (l : Launch) (y : MethodName) (b : ByteArray) (mL : Nat) (ret : Option FieldType) (fr lo mc ms : Nat) (G : sx_G) (av : List Value) (ws : va_W) (sz : Nat) (Q : (Nat → Prop) → Array Value → State → Outcome → State → Prop) (px : String → Prop) (wx : String → va_W) : Prop :=
  vx_Met l y (sx_ws y b mL ret) { frames := fr, cells := mc, slots := ms, locals := lo } (va_Pc av (sx_pre G ws sz)) (Q (va_A ws sz)) (sx_XCw G px wx (va_A ws sz)) mc ms (va_A ws sz)
theorem sx_startXw {l : Launch} {y : MethodName} {b : ByteArray} {mL : Nat} {ret : Option FieldType} {fr lo mc ms : Nat} {G : sx_G} {av : List Value} {ws : va_W} {sz : Nat} {Q : (Nat → Prop) → Array Value → State → Outcome → State → Prop} {px : String → Prop} {wx : String → va_W} (hy : plainName y.cls = true) (hlen : Nat.ble (lg_sl av).length mL = true)
    (body : ∀ (p : Program) (e : Env) (s : State) (m : MethodId) (below : List Frame) (meth : Method) (c : Code) (A : Nat → Prop) (ls : Array Slot), sx_Fx p m c b mL s av.toArray y.cls G A → meth.sig.returnType = ret → meth.locks = false → meth.name = y.name → (∀ x ∈ c.exceptionTable.toList, False) → va_P (sx_D G) vwCl ws s.heap → va_D A ws → va_S A s.heap s.heap [] → lv_has ls mL (lv_args 0 av) →
      W p l e { frames := fr, cells := mc, slots := ms, locals := lo } s m av.toArray below meth c s.heap [] 0 0 (vx_MQ below (Q A) (sx_XCw G px wx A) av.toArray s mc ms A) (F0 m 0 ls [])) : sx_MetXw l y b mL ret fr lo mc ms G av ws sz Q px wx := by
  refine vx_ofW (cc := b) (maxL := mL) (ret := ret) hy rfl ?_
  intro p e s m args below meth c s₁ B hml hex hv
  obtain ⟨rfl, hsz, hP, hK, hD0, hE⟩ := hv
  have hts := atoms_spec (ws := sx_ws y b mL ret) B.pre
  subst hsz
  have hl := lv_entry av (n := mL) (Nat.le_of_ble_eq_true hlen)
  rw [lg_entry_eq]
  exact body p e s m below meth c _ _ ⟨B.exec, B.bytes, hml, findClass_of_methodNamed B.named, fun w h => hts w (List.mem_cons_of_mem _ h), hK, hE, fun q h => Or.inr h⟩ B.returns B.notSynchronized (name_of_methodNamed B.named B.method).1 hex hP hD0.self va_S.rf hl
section SXE
variable {p : Program} {l : Launch} {e : Env} {R : Room} {s : State} {m : MethodId} {args : Array Value} {below : List Frame} {meth : Method} {c : Code} {H : Heap} {locs : List Loc} {cells slots : Nat} {Q : State → Prop}
variable {cc : ByteArray} {mc ms pc : Nat} {rest st0 : List Value} {ls : Array Slot} {a : Array Value} {fre : Addr → Prop}
variable {G : sx_G} {A : Nat → Prop} {ws wc wr : va_W} {isC isR : List Nat} {S : Type}
theorem sx_xkiw {post : Int32 → S → Prop} {w1 : S → va_W} {px : String → Prop} {wx : String → va_W} (hr : vx_Run p l e R s m args below meth c H locs cells slots mc ms (F0 m pc ls st0) rest (sx_Qi G post w1 (va_A wc H.size) a) (sx_XCw G px wx (va_A wc H.size)) (va_A wc H.size)) (hcut : sx_cut ws wc wr isC isR) (hP : va_P (sx_D G) vwCl ws H) (hD : va_D A ws) (hS : va_S A s.heap H locs) (hA : ∀ q : Nat, s.heap.size ≤ q → A q)
    (kx : ∀ (E : String) (ce : Cell) (q9 : Addr) (H1 : Heap) (locs1 : List Loc), px E → va_P (sx_D G) vwCl (wr ++ wx E) H1 → va_D A (wr ++ wx E) → va_S A s.heap H1 locs1 → H1[q9]? = some ce → ce.vm = .none → s.vm.findClass E = some ce.cls → vx_W p l e R s m args below meth c H1 locs1 (cells + mc) (slots + ms) Q (F0 m pc ls rest) q9)
    (kk : ∀ (r : Int32) (u : S) (H1 : Heap) (locs1 : List Loc), post r u → va_P (sx_D G) vwCl (wr ++ w1 u) H1 → va_D A (wr ++ w1 u) → va_S A s.heap H1 locs1 → W p l e R s m args below meth c H1 locs1 (cells + mc) (slots + ms) Q (F0 m (pc + 3) ls (.int r :: rest))) : W p l e R s m args below meth c H locs cells slots Q (F0 m pc ls st0) := by
  have hf := va_free hD hS hA isC hcut.1
  refine vx_calli hr hS (fun q _ h => hf q h) hf (fun q _ h => hf q h) (fun E ce q9 u t H1 locs1 ht hvm _ hB hz1 hk1 hS1 hce hcv hcl => ?_) (fun r u t H1 locs1 ht hvm hw hB hz1 hk1 hS1 => ?_)
  · obtain ⟨hp9, hP9, hD9⟩ := hB
    rw [ht] at hP9
    obtain ⟨hP2, hD2⟩ := sx_join hcut hP hD hS hA hk1 hP9 hD9
    exact kx E ce q9 H1 locs1 hp9 hP2 hD2 hS1 hce hcv hcl
  · obtain ⟨hP1, hD1⟩ := hB
    rw [ht] at hP1
    obtain ⟨hP2, hD2⟩ := sx_join hcut hP hD hS hA hk1 hP1 hD1
    exact kk r u H1 locs1 hw hP2 hD2 hS1
theorem sx_xkvw {post : S → Prop} {w1 : S → va_W} {px : String → Prop} {wx : String → va_W} (hr : vx_Run p l e R s m args below meth c H locs cells slots mc ms (F0 m pc ls st0) rest (sx_Qv G post w1 (va_A wc H.size) a) (sx_XCw G px wx (va_A wc H.size)) (va_A wc H.size)) (hcut : sx_cut ws wc wr isC isR) (hP : va_P (sx_D G) vwCl ws H) (hD : va_D A ws) (hS : va_S A s.heap H locs) (hA : ∀ q : Nat, s.heap.size ≤ q → A q)
    (kx : ∀ (E : String) (ce : Cell) (q9 : Addr) (H1 : Heap) (locs1 : List Loc), px E → va_P (sx_D G) vwCl (wr ++ wx E) H1 → va_D A (wr ++ wx E) → va_S A s.heap H1 locs1 → H1[q9]? = some ce → ce.vm = .none → s.vm.findClass E = some ce.cls → vx_W p l e R s m args below meth c H1 locs1 (cells + mc) (slots + ms) Q (F0 m pc ls rest) q9)
    (kk : ∀ (u : S) (H1 : Heap) (locs1 : List Loc), post u → va_P (sx_D G) vwCl (wr ++ w1 u) H1 → va_D A (wr ++ w1 u) → va_S A s.heap H1 locs1 → W p l e R s m args below meth c H1 locs1 (cells + mc) (slots + ms) Q (F0 m (pc + 3) ls rest)) : W p l e R s m args below meth c H locs cells slots Q (F0 m pc ls st0) := by
  have hf := va_free hD hS hA isC hcut.1
  refine vx_callv hr hS (fun q _ h => hf q h) hf (fun q _ h => hf q h) (fun E ce q9 u t H1 locs1 ht hvm _ hB hz1 hk1 hS1 hce hcv hcl => ?_) (fun u t H1 locs1 ht hvm hw hB hz1 hk1 hS1 => ?_)
  · obtain ⟨hp9, hP9, hD9⟩ := hB
    rw [ht] at hP9
    obtain ⟨hP2, hD2⟩ := sx_join hcut hP hD hS hA hk1 hP9 hD9
    exact kx E ce q9 H1 locs1 hp9 hP2 hD2 hS1 hce hcv hcl
  · obtain ⟨hP1, hD1⟩ := hB
    rw [ht] at hP1
    obtain ⟨hP2, hD2⟩ := sx_join hcut hP hD hS hA hk1 hP1 hD1
    exact kk u H1 locs1 hw hP2 hD2 hS1
theorem sx_xkdw {post : UInt64 → S → Prop} {w1 : S → va_W} {px : String → Prop} {wx : String → va_W} (hr : vx_Run p l e R s m args below meth c H locs cells slots mc ms (F0 m pc ls st0) rest (sx_Qd G post w1 (va_A wc H.size) a) (sx_XCw G px wx (va_A wc H.size)) (va_A wc H.size)) (hcut : sx_cut ws wc wr isC isR) (hP : va_P (sx_D G) vwCl ws H) (hD : va_D A ws) (hS : va_S A s.heap H locs) (hA : ∀ q : Nat, s.heap.size ≤ q → A q)
    (kx : ∀ (E : String) (ce : Cell) (q9 : Addr) (H1 : Heap) (locs1 : List Loc), px E → va_P (sx_D G) vwCl (wr ++ wx E) H1 → va_D A (wr ++ wx E) → va_S A s.heap H1 locs1 → H1[q9]? = some ce → ce.vm = .none → s.vm.findClass E = some ce.cls → vx_W p l e R s m args below meth c H1 locs1 (cells + mc) (slots + ms) Q (F0 m pc ls rest) q9)
    (kk : ∀ (r : UInt64) (u : S) (H1 : Heap) (locs1 : List Loc), post r u → va_P (sx_D G) vwCl (wr ++ w1 u) H1 → va_D A (wr ++ w1 u) → va_S A s.heap H1 locs1 → W p l e R s m args below meth c H1 locs1 (cells + mc) (slots + ms) Q (F0 m (pc + 3) ls (.double r :: rest))) : W p l e R s m args below meth c H locs cells slots Q (F0 m pc ls st0) := by
  have hf := va_free hD hS hA isC hcut.1
  refine vx_calld hr hS (fun q _ h => hf q h) hf (fun q _ h => hf q h) (fun E ce q9 u t H1 locs1 ht hvm _ hB hz1 hk1 hS1 hce hcv hcl => ?_) (fun r u t H1 locs1 ht hvm hw hB hz1 hk1 hS1 => ?_)
  · obtain ⟨hp9, hP9, hD9⟩ := hB
    rw [ht] at hP9
    obtain ⟨hP2, hD2⟩ := sx_join hcut hP hD hS hA hk1 hP9 hD9
    exact kx E ce q9 H1 locs1 hp9 hP2 hD2 hS1 hce hcv hcl
  · obtain ⟨hP1, hD1⟩ := hB
    rw [ht] at hP1
    obtain ⟨hP2, hD2⟩ := sx_join hcut hP hD hS hA hk1 hP1 hD1
    exact kk r u H1 locs1 hw hP2 hD2 hS1
theorem sx_outw {Qc : Array Value → State → Outcome → State → Prop} {px : String → Prop} {wx : String → va_W} {E : String} {ce : Cell} {q : Addr} (hout : ∀ x ∈ c.exceptionTable.toList, False) (hlk : meth.locks = false) (hce : H[q]? = some ce) (hcv : ce.vm = .none) (hcl : s.vm.findClass E = some ce.cls) (hp : px E) (hP : va_P (sx_D G) vwCl (wx E) H) (hD : va_D A (wx E)) (hS : va_S A s.heap H locs) (hc : Nat.ble cells mc = true) (hs : Nat.ble slots ms = true) :
    vx_W p l e R s m args below meth c H locs cells slots (vx_MQ below Qc (sx_XCw G px wx A) args s mc ms A) (F0 m pc ls rest) q :=
  vx_out (fun x hx => (hout x hx).elim) hlk hce hcv hcl (fun t ht hvm => ⟨(), trivial, ⟨hp, by rw [ht]; exact hP, hD⟩, hS.F ht⟩) hS.2.2 (Nat.le_of_ble_eq_true hc) (Nat.le_of_ble_eq_true hs)
end SXE
