/-! the law's small helpers -/
def andN (v : Int32) : Nat := (v &&& 2147483647).toBitVec.toNat
theorem andN_lt (v : Int32) : andN v < 2 ^ 31 := by
  show (v.toBitVec &&& (2147483647 : Int32).toBitVec).toNat < 2 ^ 31
  rw [BitVec.toNat_and]
  exact Nat.and_lt_two_pow _ (by decide)
theorem andN_e (v : Int32) : v &&& 2147483647 = nI (andN v) := by
  apply Int32.toBitVec_inj.mp
  show _ = BitVec.ofNat 32 (v &&& 2147483647).toBitVec.toNat
  simp
def blw (v : Int32) (m : Nat) : Nat := andN v % m
theorem blw_lt (v : Int32) {m : Nat} (h : 0 < m) : blw v m < m := Nat.mod_lt _ h
def mx1 (a : Nat) : Nat := if 1 < a then a else 1
theorem mx1_of {a : Nat} (h : a < 2 ^ 31) : (if (1 : Int32) < nI a then nI a else 1) = nI (mx1 a) := by
  have e : (1 : Int32) < nI a ↔ 1 < a := nI_ltI (a := 1) (by decide) h
  unfold mx1
  by_cases q : 1 < a
  · rw [if_pos (e.mpr q), if_pos q]
  · rw [if_neg (fun z => q (e.mp z)), if_neg q]; rfl
theorem mx1_pos (a : Nat) : 0 < mx1 a := by unfold mx1; split <;> omega
theorem mx1_le {a : Nat} (h : 1 ≤ a) : mx1 a = a := by unfold mx1; split <;> omega
theorem mx1_0 {a k : Nat} (h : k < mx1 a) (h2 : ¬ k < a) : a = 0 := by
  unfold mx1 at h
  split at h <;> omega
theorem mx1_b {a N : Nat} (h : a ≤ N) (h1 : 1 ≤ N) : mx1 a ≤ N := by unfold mx1; split <;> omega
theorem sB_or (a b : Bool) : sB a ||| sB b = sB (a || b) := by cases a <;> cases b <;> decide
theorem sx_shrI {S k : Nat} (hS : S < 2 ^ 30) (hk : k < 31) : nI S >>> (nI k &&& 31) = nI (S / 2 ^ k) := by
  have h1 : ∀ k, k < 31 → ((nI k &&& 31).toBitVec.smod 32).toNat = k := by decide +kernel
  have h2 : S / 2 ^ k ≤ S := Nat.div_le_self _ _
  apply Int32.toInt_inj.mp
  have e : (nI S >>> (nI k &&& 31)).toInt = (nI S).toInt >>> k := by
    show ((nI S).toBitVec.sshiftRight ((nI k &&& 31).toBitVec.smod 32).toNat).toInt = _
    rw [h1 k hk, BitVec.toInt_sshiftRight]
    rfl
  rw [e, nI_toInt (by omega), nI_toInt (by omega), Int.shiftRight_eq_div_pow]
  rfl
section SXD
variable {p : Program} {l : Launch} {e : Env} {R : Room} {s : State} {m : MethodId} {args : Array Value} {below : List Frame} {meth : Method} {c : Code} {H : Heap} {locs : List Loc} {cells slots : Nat} {Q : State → Prop}
variable {cc : ByteArray} {pc nL : Nat} {rest : List Value} {ls : Array Slot} {G : sx_G} {A : Nat → Prop} {H0 : Heap}
theorem sx_topD {x y : UInt64} (h : x = y) (k : W p l e R s m args below meth c H locs cells slots Q (F0 m pc ls (.double y :: rest))) : W p l e R s m args below meth c H locs cells slots Q (F0 m pc ls (.double x :: rest)) := by rw [h]; exact k
end SXD
theorem mi_J9_abs_294c1 : sx_M yJ9_abs_294c1 cJ9_abs_294c1 2 (some .double) 1 := ⟨q763, q14, ⟨by decide, by decide, by decide +kernel⟩, by decide⟩
theorem part_and {a b p : Nat} (h : a < 2 ^ p) : sDf (a &&& b) (2 ^ p - 1) = 0 := by
  apply Nat.eq_of_testBit_eq
  intro k
  rw [sDf_bit, Nat.zero_testBit, Nat.testBit_and, Nat.testBit_two_pow_sub_one]
  by_cases q : k < p
  · rw [decide_eq_true q, Bool.not_true, Bool.and_false]
  · rw [Nat.testBit_lt_two_pow (Nat.lt_of_lt_of_le h (Nat.pow_le_pow_right (by decide) (by omega))), Bool.false_and, Bool.false_and]
theorem part_self (a b : Nat) : sDf (a &&& b) a = 0 := by
  apply Nat.eq_of_testBit_eq
  intro k
  rw [sDf_bit, Nat.zero_testBit, Nat.testBit_and]
  cases a.testBit k <;> cases b.testBit k <;> rfl
theorem part_zero (a : Nat) : sDf 0 a = 0 := by unfold sDf; rw [Nat.zero_and, Nat.xor_zero]
theorem off_pos {fs : Nat → Nat} {j k n : Nat} (hj : j < k) (hk : k < n) (hb : (fs k).testBit j = true) : offN fs j n ≠ 0 := by
  intro h
  have h1 : (offN fs j n).testBit k = true := by
    rw [off_bit2 _ _ _ _ (by omega)]
    exact fam_closed hj (by omega) hj hb (fam_self _)
  rw [h, Nat.zero_testBit] at h1
  exact absurd h1 (by decide)
set_option maxHeartbeats 4000000 in
set_option maxRecDepth 100000 in
theorem m_L_below (l : Launch) (G : sx_G) (sz : Nat) (v : Int32) (m9 : Nat) (h_m : 0 < m9) (h_m2 : m9 < 2147483648) : sx_Met l yL_below cL_below 2 (some .int) 0 0 0 0 G [.int v, .int (nI m9)] [] sz (sx_Qi G (fun (r : Int32) (u : Unit) => r = nI (blw v m9)) (fun (u : Unit) => [])) := by
  refine sx_start (by decide) rfl (fun p e s m below meth c A ls F hr hlk hnm hP hD hS hl => ?_)
  obtain ⟨hx, hb, hml, hown, hts, hK, hE, hA⟩ := id F
  have hown : s.vm.findClass RL = some m.cls := hown
  generalize hHe : s.heap = H at hP
  have hS : va_S A s.heap H [] := by rw [← hHe]; exact va_S.rf
  have hl : lv_has ls 2 [(0, .int v), (1, .int (nI m9))] := hl
  refine lv_iload_n hx hb dL_below_0 rfl (lv_at hl 0 rfl) ?_
  refine lv_ldc (v := 2147483647) hx hb hown (hts _ q673) dL_below_1 ?_
  refine lv_iand hx hb dL_below_3 ?_
  refine sx_topI (andN_e v) ?_
  have h_an := andN_lt v
  refine lv_iload_n hx hb dL_below_4 rfl (lv_at hl 1 rfl) ?_
  refine lv_irem hx hb dL_below_5 (nI_ne0 (by omega) (by omega)) ?_
  refine sx_topI (pk_rem (a := (andN v)) (d := m9) (by omega) (by omega) (by omega)) ?_
  exact (sx_iret (v := nI ((andN v) % m9)) () hx hb hr rfl hlk hP hD hS rfl dL_below_6 rfl rfl)
set_option maxHeartbeats 4000000 in
set_option maxRecDepth 100000 in
theorem m_J9_abs_294c1 (l : Launch) (G : sx_G) (sz : Nat)  : sx_Met l yJ9_abs_294c1 cJ9_abs_294c1 2 (some .double) 1 15 0 0 G [.double 0] [] sz (sx_Qd G (fun (r : UInt64) (u : Unit) => r = 0) (fun (u : Unit) => [])) := by
  refine sx_start (by decide) rfl (fun p e s m below meth c A ls F hr hlk hnm hP hD hS hl => ?_)
  obtain ⟨hx, hb, hml, hown, hts, hK, hE, hA⟩ := id F
  have hown : s.vm.findClass RJ9 = some m.cls := hown
  generalize hHe : s.heap = H at hP
  have hS : va_S A s.heap H [] := by rw [← hHe]; exact va_S.rf
  have hl : lv_has ls 2 [(0, .double 0)] := hl
  refine lv_dload_n hx hb dJ9_abs_294c1_0 rfl (lv_at hl 0 rfl) ?_
  refine vn_d2l (b := 0) hx hb (hml.trans hl.1.symm) hown (hts _ q764) (hts _ q766) (hts _ q765) (hts _ q19) (Nat.le_of_ble_eq_true rfl) (Nat.le_of_ble_eq_true rfl) dJ9_abs_294c1_1 ?_
  refine sx_topL (show (0 : UInt64).toInt64 = 0 from by decide +kernel) ?_
  refine lv_ldc2 (v := 9223372036854775807) hx hb hown (hts _ q767) dJ9_abs_294c1_4 ?_
  refine lv_land hx hb dJ9_abs_294c1_7 ?_
  refine sx_topL (show (0 : Int64) &&& 9223372036854775807 = 0 from by decide +kernel) ?_
  refine vn_l2d (b := 0) hx hb (hml.trans hl.1.symm) hown (hts _ q768) (hts _ q770) (hts _ q769) (hts _ q19) (by decide +kernel) (Nat.le_of_ble_eq_true rfl) (Nat.le_of_ble_eq_true rfl) dJ9_abs_294c1_8 ?_
  refine sx_topD (show (0 : Int64).toUInt64 = 0 from by decide +kernel) ?_
  exact (sx_dret (v := 0) () hx hb hr hlk hP hD hS rfl dJ9_abs_294c1_11 rfl rfl)
