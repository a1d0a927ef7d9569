/-! own tools: numbers in their plain form; rows over them; a loop's row -/
def sJ : Int → Int32
  | .ofNat n => nI n
  | .negSucc n => Int32.ofInt (.negSucc n)
theorem sJ_of (z : Int) : sJ z = Int32.ofInt z := by
  cases z with
  | ofNat n => exact (Int32.ofInt_eq_ofNat (n := n)).symm
  | negSucc n => rfl
theorem sJ_add (a b : Int) : sJ a + sJ b = sJ (a + b) := by rw [sJ_of, sJ_of, sJ_of, Int32.ofInt_add]
theorem sJ_sub (a b : Int) : sJ a - sJ b = sJ (a - b) := by rw [sJ_of, sJ_of, sJ_of, Int32.ofInt_sub]
theorem sJ_mul (a b : Int) : sJ a * sJ b = sJ (a * b) := by rw [sJ_of, sJ_of, sJ_of, Int32.ofInt_mul]
theorem sJ_toInt {z : Int} (h1 : -2147483648 ≤ z) (h2 : z < 2147483648) : (sJ z).toInt = z := by
  have e : z.bmod 4294967296 = z := Int.bmod_eq_of_le (by omega) (by omega)
  rw [sJ_of, Int32.toInt_ofInt]
  exact e
theorem sJ_lt {a b : Int} (a1 : -2147483648 ≤ a) (a2 : a < 2147483648) (b1 : -2147483648 ≤ b) (b2 : b < 2147483648) : sJ a < sJ b ↔ a < b := by rw [Int32.lt_iff_toInt_lt, sJ_toInt a1 a2, sJ_toInt b1 b2]
theorem sJ_le {a b : Int} (a1 : -2147483648 ≤ a) (a2 : a < 2147483648) (b1 : -2147483648 ≤ b) (b2 : b < 2147483648) : sJ a ≤ sJ b ↔ a ≤ b := by rw [Int32.le_iff_toInt_le, sJ_toInt a1 a2, sJ_toInt b1 b2]
theorem sJ_eq {a b : Int} (a1 : -2147483648 ≤ a) (a2 : a < 2147483648) (b1 : -2147483648 ≤ b) (b2 : b < 2147483648) : sJ a = sJ b ↔ a = b := by rw [← Int32.toInt_inj, sJ_toInt a1 a2, sJ_toInt b1 b2]
def sB (b : Bool) : Int32 := if b then 1 else 0
theorem sB_0 {b : Bool} (c : sB b = 0) : b = false := by
  cases b
  · rfl
  · exact absurd c (by decide)
theorem sB_1 {b : Bool} (c : ¬ sB b = 0) : b = true := by
  cases b
  · exact absurd rfl c
  · rfl
theorem sB_p {P : Prop} [Decidable P] (h : P) : (1 : Int32) = sB (decide P) := by rw [decide_eq_true h]; rfl
theorem sB_n {P : Prop} [Decidable P] (h : ¬ P) : (0 : Int32) = sB (decide P) := by rw [decide_eq_false h]; rfl
theorem sB_t {b : Bool} (h : b = true) : (1 : Int32) = sB b := by rw [h]; rfl
theorem sB_f {b : Bool} (h : b = false) : (0 : Int32) = sB b := by rw [h]; rfl
theorem sB_nar (b : Bool) : narrow .boolean (.int (sB b)) = .int (sB b) := by cases b <;> rfl
def sU {α : Type} (f : Nat → α) (i : Nat) (v : α) : Nat → α := fun k => if k = i then v else f k
theorem sU_s {α : Type} (f : Nat → α) (i : Nat) (v : α) : sU f i v i = v := if_pos rfl
theorem sU_n {α : Type} (f : Nat → α) {i k : Nat} (v : α) (h : k ≠ i) : sU f i v k = f k := if_neg h
theorem sU_all {P : Nat → Prop} {f : Nat → Nat} {i v : Nat} (h : ∀ k, P (f k)) (hv : P v) : ∀ k, P (sU f i v k) := fun k => by
  by_cases e : k = i
  · subst e; rw [sU_s]; exact hv
  · rw [sU_n _ _ e]; exact h k
def sDf (a b : Nat) : Nat := a ^^^ (a &&& b)
theorem sx_or (a b : Nat) : nI a ||| nI b = nI (a ||| b) := by
  apply Int32.toBitVec_inj.1
  show BitVec.ofNat 32 a ||| BitVec.ofNat 32 b = BitVec.ofNat 32 (a ||| b)
  exact BitVec.eq_of_getLsbD_eq fun i hi => by simp [hi]
theorem sx_and (a b : Nat) : nI a &&& nI b = nI (a &&& b) := by
  apply Int32.toBitVec_inj.1
  show BitVec.ofNat 32 a &&& BitVec.ofNat 32 b = BitVec.ofNat 32 (a &&& b)
  exact BitVec.eq_of_getLsbD_eq fun i hi => by simp [hi]
theorem sx_orL (a b : Nat) : lN a ||| lN b = lN (a ||| b) := by
  apply Int64.toBitVec_inj.1
  show BitVec.ofNat 64 a ||| BitVec.ofNat 64 b = BitVec.ofNat 64 (a ||| b)
  exact BitVec.eq_of_getLsbD_eq fun i hi => by simp [hi]
theorem sx_andL (a b : Nat) : lN a &&& lN b = lN (a &&& b) := by
  apply Int64.toBitVec_inj.1
  show BitVec.ofNat 64 a &&& BitVec.ofNat 64 b = BitVec.ofNat 64 (a &&& b)
  exact BitVec.eq_of_getLsbD_eq fun i hi => by simp [hi]
theorem sx_andn (a b : Nat) : nI a &&& (nI b ^^^ (-1)) = nI (sDf a b) := by
  apply Int32.toBitVec_inj.1
  show BitVec.ofNat 32 a &&& (BitVec.ofNat 32 b ^^^ (-1 : Int32).toBitVec) = BitVec.ofNat 32 (a ^^^ (a &&& b))
  have e : (-1 : Int32).toBitVec = BitVec.allOnes 32 := by decide
  rw [e]
  refine BitVec.eq_of_getLsbD_eq fun i hi => ?_
  rw [BitVec.getLsbD_and, BitVec.getLsbD_xor, BitVec.getLsbD_allOnes, BitVec.getLsbD_ofNat, BitVec.getLsbD_ofNat, BitVec.getLsbD_ofNat, Nat.testBit_xor, Nat.testBit_and, decide_eq_true hi]
  cases a.testBit i <;> cases b.testBit i <;> rfl
theorem sx_andnL (a b : Nat) : lN a &&& (lN b ^^^ (-1)) = lN (sDf a b) := by
  apply Int64.toBitVec_inj.1
  show BitVec.ofNat 64 a &&& (BitVec.ofNat 64 b ^^^ (-1 : Int64).toBitVec) = BitVec.ofNat 64 (a ^^^ (a &&& b))
  have e : (-1 : Int64).toBitVec = BitVec.allOnes 64 := by decide
  rw [e]
  refine BitVec.eq_of_getLsbD_eq fun i hi => ?_
  rw [BitVec.getLsbD_and, BitVec.getLsbD_xor, BitVec.getLsbD_allOnes, BitVec.getLsbD_ofNat, BitVec.getLsbD_ofNat, BitVec.getLsbD_ofNat, Nat.testBit_xor, Nat.testBit_and, decide_eq_true hi]
  cases a.testBit i <;> cases b.testBit i <;> rfl
theorem sJ_m1 : (-1 : Int32) = sJ (-1) := by decide +kernel
theorem sx_andm (a b : Nat) : nI a &&& (nI b ^^^ sJ (-1)) = nI (sDf a b) := by rw [← sJ_m1]; exact sx_andn a b
theorem sx_shl1 {k : Nat} (h : k < 31) : (1 : Int32) <<< (nI k &&& 31) = nI (2 ^ k) := by
  have h1 : ∀ k, k < 31 → (1 : Int32) <<< (nI k &&& 31) = nI (2 ^ k) := by decide +kernel
  exact h1 k h
theorem sx_shl1L {k : Nat} (h : k < 63) : (1 : Int64) <<< ((nI k).toInt64 &&& 63) = lN (2 ^ k) := by
  have h1 : ∀ k, k < 63 → (1 : Int64) <<< ((nI k).toInt64 &&& 63) = lN (2 ^ k) := by decide +kernel
  exact h1 k h
def sC (a b : Nat) : Int32 := if a > b then 1 else if a = b then 0 else -1
theorem sC_of {a b : Nat} (ha : a < 2 ^ 63) (hb : b < 2 ^ 63) : lg_cmp (lN a) (lN b) = sC a b := by
  have h1 : lN a > lN b ↔ a > b := pk_lLT hb ha
  have h2 : lN a = lN b ↔ a = b := pk_lEQ ha hb
  unfold sC lg_cmp
  by_cases q : a > b
  · rw [if_pos (h1.mpr q), if_pos q]
  · rw [if_neg (fun h => q (h1.mp h)), if_neg q]
    by_cases r : a = b
    · rw [if_pos (h2.mpr r), if_pos r]
    · rw [if_neg (fun h => r (h2.mp h)), if_neg r]
theorem sC_0 {a b : Nat} : sC a b = 0 ↔ a = b := by
  unfold sC
  by_cases q : a > b
  · rw [if_pos q]; exact ⟨fun h => absurd h (by decide), fun h => by omega⟩
  · rw [if_neg q]
    by_cases r : a = b
    · rw [if_pos r]; exact ⟨fun _ => r, fun _ => rfl⟩
    · rw [if_neg r]; exact ⟨fun h => absurd h (by decide), fun h => absurd h r⟩
theorem sx_has {S k : Nat} (hS : S < 2 ^ 62) (hk : k < 63) : lN S >>> ((nI k).toInt64 &&& 63) = lN (S / 2 ^ k) := by
  have h1 : ∀ k, k < 63 → (((nI k).toInt64 &&& 63).toBitVec.smod 64).toNat = k := by decide +kernel
  have h2 : S / 2 ^ k ≤ S := Nat.div_le_self _ _
  apply Int64.toInt_inj.mp
  have e : (lN S >>> ((nI k).toInt64 &&& 63)).toInt = (lN S).toInt >>> k := by
    show ((lN S).toBitVec.sshiftRight (((nI k).toInt64 &&& 63).toBitVec.smod 64).toNat).toInt = _
    rw [h1 k hk, BitVec.toInt_sshiftRight]
    rfl
  rw [e, pk_lT (by omega), pk_lT (by omega), Int.shiftRight_eq_div_pow]
  rfl
theorem sx_bitN (S k : Nat) : S / 2 ^ k % 2 = 0 ↔ S.testBit k = false := by
  rw [Nat.testBit_eq_decide_div_mod_eq]
  constructor
  · intro h; exact decide_eq_false (by omega)
  · intro h; have := of_decide_eq_false h; omega
section SXN
variable {p : Program} {l : Launch} {e : Env} {R : Room} {s : State} {m : MethodId} {args : Array Value} {below : List Frame} {meth : Method} {c : Code} {H : Heap} {locs : List Loc} {cells slots : Nat} {Q : State → Prop}
variable {cc : ByteArray} {pc nL : Nat} {rest : List Value} {ls : Array Slot} {G : sx_G} {A : Nat → Prop} {ws : va_W} {a : Nat} {H0 : Heap}
theorem sx_topI {x y : Int32} (h : x = y) (k : W p l e R s m args below meth c H locs cells slots Q (F0 m pc ls (.int y :: rest))) : W p l e R s m args below meth c H locs cells slots Q (F0 m pc ls (.int x :: rest)) := by rw [h]; exact k
theorem sx_topL {x y : Int64} (h : x = y) (k : W p l e R s m args below meth c H locs cells slots Q (F0 m pc ls (.long y :: rest))) : W p l e R s m args below meth c H locs cells slots Q (F0 m pc ls (.long x :: rest)) := by rw [h]; exact k
theorem sx_ild (hx : p.tables.exec = Jvm.exec) (hb : c.code = cc) (hK : va_K (sx_D G) vwCl (sx_tys G) s) (hP : va_P (sx_D G) vwCl ws H) (q0 : Nat) {n X : Nat} {f : Nat → Int32} (ha : ws[q0]? = some (a, .inl (G.2.1, n, .inl f))) (hX : X < n) (hn : Nat.ble n 2147483647 = true) (hdg : decode cc pc = .ok (.iaload, 1))
    (k : W p l e R s m args below meth c H locs cells slots Q (F0 m (pc + 1) ls (.int (f X) :: rest))) : W p l e R s m args below meth c H locs cells slots Q (F0 m pc ls (.int (nI X) :: .ref a :: rest)) := by
  have hn := Nat.le_of_ble_eq_true hn
  refine va_iald (D := sx_D G) (tys := sx_tys G) hx hb hK hP q0 0 ha rfl (vp_in_nI hX (by omega)) hdg ?_
  rw [nI_clamp (by omega)]; exact k
theorem sx_lld (hx : p.tables.exec = Jvm.exec) (hb : c.code = cc) (hK : va_K (sx_D G) vwCl (sx_tys G) s) (hP : va_P (sx_D G) vwCl ws H) (q0 : Nat) {n X : Nat} {f : Nat → Int64} (ha : ws[q0]? = some (a, .inl (G.2.2.1, n, .inr (.inl f)))) (hX : X < n) (hn : Nat.ble n 2147483647 = true) (hdg : decode cc pc = .ok (.laload, 1))
    (k : W p l e R s m args below meth c H locs cells slots Q (F0 m (pc + 1) ls (.long (f X) :: rest))) : W p l e R s m args below meth c H locs cells slots Q (F0 m pc ls (.int (nI X) :: .ref a :: rest)) := by
  have hn := Nat.le_of_ble_eq_true hn
  refine va_lald (D := sx_D G) (tys := sx_tys G) hx hb hK hP q0 1 ha rfl (vp_in_nI hX (by omega)) hdg ?_
  rw [nI_clamp (by omega)]; exact k
theorem sx_updN (f : Nat → Nat) (X v : Nat) : upd (fun k => nI (f k)) X (nI v) = fun k => nI (sU f X v k) := by
  funext k
  by_cases e : k = X
  · subst e; rw [pk_us, sU_s]
  · rw [pk_un e, sU_n _ _ e]
theorem sx_updZ (f : Nat → Int) (X : Nat) (v : Int) : upd (fun k => sJ (f k)) X (sJ v) = fun k => sJ (sU f X v k) := by
  funext k
  by_cases e : k = X
  · subst e; rw [pk_us, sU_s]
  · rw [pk_un e, sU_n _ _ e]
theorem sx_updL (f : Nat → Nat) (X v : Nat) : vp_updL (fun k => lN (f k)) X (lN v) = fun k => lN (sU f X v k) := by
  funext k
  by_cases e : k = X
  · subst e; rw [pk_uLs, sU_s]
  · rw [pk_uLn e, sU_n _ _ e]
theorem sx_istN (hx : p.tables.exec = Jvm.exec) (hb : c.code = cc) (hK : va_K (sx_D G) vwCl (sx_tys G) s) (hP : va_P (sx_D G) vwCl ws H) (hD : va_D A ws) (hS : va_S A H0 H locs) (q0 : Nat) {n X v : Nat} {f : Nat → Nat} (ha : ws[q0]? = some (a, .inl (G.2.1, n, .inl (fun k => nI (f k))))) (hX : X < n) (hn : Nat.ble n 2147483647 = true) (hdg : decode cc pc = .ok (.iastore, 1))
    (kk : ∀ (H1 : Heap) (locs1 : List Loc), va_P (sx_D G) vwCl (ws.set q0 (a, .inl (G.2.1, n, .inl (fun k => nI (sU f X v k))))) H1 → va_D A (ws.set q0 (a, .inl (G.2.1, n, .inl (fun k => nI (sU f X v k))))) → va_S A H0 H1 locs1 → W p l e R s m args below meth c H1 locs1 cells slots Q (F0 m (pc + 1) ls rest)) : W p l e R s m args below meth c H locs cells slots Q (F0 m pc ls (.int (nI v) :: .int (nI X) :: .ref a :: rest)) := by
  have hn := Nat.le_of_ble_eq_true hn
  refine va_iast (D := sx_D G) (tys := sx_tys G) hx hb hK hP hD hS q0 0 ha rfl (vp_in_nI hX (by omega)) hdg ?_
  rw [nI_clamp (by omega), sx_updN]; exact kk
theorem sx_istZ (hx : p.tables.exec = Jvm.exec) (hb : c.code = cc) (hK : va_K (sx_D G) vwCl (sx_tys G) s) (hP : va_P (sx_D G) vwCl ws H) (hD : va_D A ws) (hS : va_S A H0 H locs) (q0 : Nat) {n X : Nat} {v : Int} {f : Nat → Int} (ha : ws[q0]? = some (a, .inl (G.2.1, n, .inl (fun k => sJ (f k))))) (hX : X < n) (hn : Nat.ble n 2147483647 = true) (hdg : decode cc pc = .ok (.iastore, 1))
    (kk : ∀ (H1 : Heap) (locs1 : List Loc), va_P (sx_D G) vwCl (ws.set q0 (a, .inl (G.2.1, n, .inl (fun k => sJ (sU f X v k))))) H1 → va_D A (ws.set q0 (a, .inl (G.2.1, n, .inl (fun k => sJ (sU f X v k))))) → va_S A H0 H1 locs1 → W p l e R s m args below meth c H1 locs1 cells slots Q (F0 m (pc + 1) ls rest)) : W p l e R s m args below meth c H locs cells slots Q (F0 m pc ls (.int (sJ v) :: .int (nI X) :: .ref a :: rest)) := by
  have hn := Nat.le_of_ble_eq_true hn
  refine va_iast (D := sx_D G) (tys := sx_tys G) hx hb hK hP hD hS q0 0 ha rfl (vp_in_nI hX (by omega)) hdg ?_
  rw [nI_clamp (by omega), sx_updZ]; exact kk
theorem sx_lst (hx : p.tables.exec = Jvm.exec) (hb : c.code = cc) (hK : va_K (sx_D G) vwCl (sx_tys G) s) (hP : va_P (sx_D G) vwCl ws H) (hD : va_D A ws) (hS : va_S A H0 H locs) (q0 : Nat) {n X v : Nat} {f : Nat → Nat} (ha : ws[q0]? = some (a, .inl (G.2.2.1, n, .inr (.inl (fun k => lN (f k)))))) (hX : X < n) (hn : Nat.ble n 2147483647 = true) (hdg : decode cc pc = .ok (.lastore, 1))
    (kk : ∀ (H1 : Heap) (locs1 : List Loc), va_P (sx_D G) vwCl (ws.set q0 (a, .inl (G.2.2.1, n, .inr (.inl (fun k => lN (sU f X v k)))))) H1 → va_D A (ws.set q0 (a, .inl (G.2.2.1, n, .inr (.inl (fun k => lN (sU f X v k)))))) → va_S A H0 H1 locs1 → W p l e R s m args below meth c H1 locs1 cells slots Q (F0 m (pc + 1) ls rest)) : W p l e R s m args below meth c H locs cells slots Q (F0 m pc ls (.long (lN v) :: .int (nI X) :: .ref a :: rest)) := by
  have hn := Nat.le_of_ble_eq_true hn
  refine va_last (D := sx_D G) (tys := sx_tys G) hx hb hK hP hD hS q0 1 ha rfl (vp_in_nI hX (by omega)) hdg ?_
  rw [nI_clamp (by omega), sx_updL]; exact kk
/-- a loop: at its head, the locals and the cells by the number of rounds -/
theorem sx_loop (WSf : Nat → va_W) (LVf : Nat → List (Nat × Value)) (Inv : Nat → Prop) (top : Nat) (h0 : Inv 0) (hP : va_P (sx_D G) vwCl (WSf 0) H) (hD : va_D A (WSf 0)) (hS : va_S A H0 H locs) (hl : lv_has ls nL (LVf 0))
    (step : ∀ i, i ≤ top → Inv i → ∀ (H : Heap) (locs : List Loc) (ls : Array Slot), va_P (sx_D G) vwCl (WSf i) H → va_D A (WSf i) → va_S A H0 H locs → lv_has ls nL (LVf i) →
      (∀ (H1 : Heap) (locs1 : List Loc) (ls1 : Array Slot), i + 1 ≤ top → Inv (i + 1) → va_P (sx_D G) vwCl (WSf (i + 1)) H1 → va_D A (WSf (i + 1)) → va_S A H0 H1 locs1 → lv_has ls1 nL (LVf (i + 1)) → W p l e R s m args below meth c H1 locs1 cells slots Q (F0 m pc ls1 rest)) →
      W p l e R s m args below meth c H locs cells slots Q (F0 m pc ls rest)) : W p l e R s m args below meth c H locs cells slots Q (F0 m pc ls rest) := by
  have all : ∀ n i, top - i < n → i ≤ top → Inv i → ∀ (H : Heap) (locs : List Loc) (ls : Array Slot), va_P (sx_D G) vwCl (WSf i) H → va_D A (WSf i) → va_S A H0 H locs → lv_has ls nL (LVf i) → W p l e R s m args below meth c H locs cells slots Q (F0 m pc ls rest) := by
    intro n
    induction n with
    | zero => intro i h; exact absurd h (Nat.not_lt_zero _)
    | succ n ih =>
      intro i hn hi hI H locs ls hP hD hS hl
      exact step i hi hI H locs ls hP hD hS hl (fun H1 locs1 ls1 h1 hI1 hP1 hD1 hS1 hl1 => ih (i + 1) (by omega) h1 hI1 H1 locs1 ls1 hP1 hD1 hS1 hl1)
  exact all (top + 1) 0 (by omega) (Nat.zero_le _) h0 H locs ls hP hD hS hl
end SXN
