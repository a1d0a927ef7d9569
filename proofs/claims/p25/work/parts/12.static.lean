/-! pure words: bits, weights; the throws' words -/
theorem sx_bitA (S k : Nat) : S / 2 ^ k &&& 1 = 0 ↔ S.testBit k = false := by rw [Nat.and_one_is_mod]; exact sx_bitN S k
theorem sx_bit0 {S k : Nat} (h : S / 2 ^ k &&& 1 = 0) : S.testBit k = false := (sx_bitA S k).mp h
theorem sx_bit1 {S k : Nat} (h : ¬ S / 2 ^ k &&& 1 = 0) : S.testBit k = true := by
  cases q : S.testBit k
  · exact absurd ((sx_bitA S k).mpr q) h
  · rfl
def weighN (S : Nat) (f : Nat → Int) (w : Nat) : Nat → Int
  | 0 => 0
  | n + 1 => weighN S f w n + if S.testBit n = true then ((n + w : Nat) : Int) * f n else 0
theorem weighN_s (S : Nat) (f : Nat → Int) (w n : Nat) : weighN S f w (n + 1) = weighN S f w n + if S.testBit n = true then ((n + w : Nat) : Int) * f n else 0 := rfl
theorem ta_IndexOutOfBoundsException : ∀ w ∈ vx_atS RX7 254 "java/lang/IndexOutOfBoundsException" ["java/lang/RuntimeException", "java/lang/Exception"], w ∈ lw_all := by
  have h1 : ∀ w ∈ vx_atS RX7 254 "java/lang/IndexOutOfBoundsException" ["java/lang/RuntimeException", "java/lang/Exception"], w ∈ lw_tbl := by decide +kernel
  have h2 : (vx_atS RX7 254 "java/lang/IndexOutOfBoundsException" ["java/lang/RuntimeException", "java/lang/Exception"]).all sx_pay = true := by decide +kernel
  exact fun w h => List.mem_filter.mpr ⟨h1 w h, List.all_eq_true.mp h2 w h⟩
theorem ta_IllegalArgumentException : ∀ w ∈ vx_atS RX7 261 "java/lang/IllegalArgumentException" ["java/lang/RuntimeException", "java/lang/Exception"], w ∈ lw_all := by
  have h1 : ∀ w ∈ vx_atS RX7 261 "java/lang/IllegalArgumentException" ["java/lang/RuntimeException", "java/lang/Exception"], w ∈ lw_tbl := by decide +kernel
  have h2 : (vx_atS RX7 261 "java/lang/IllegalArgumentException" ["java/lang/RuntimeException", "java/lang/Exception"]).all sx_pay = true := by decide +kernel
  exact fun w h => List.mem_filter.mpr ⟨h1 w h, List.all_eq_true.mp h2 w h⟩
theorem ta_IllegalStateException : ∀ w ∈ vx_atS RX7 266 "java/lang/IllegalStateException" ["java/lang/RuntimeException", "java/lang/Exception"], w ∈ lw_all := by
  have h1 : ∀ w ∈ vx_atS RX7 266 "java/lang/IllegalStateException" ["java/lang/RuntimeException", "java/lang/Exception"], w ∈ lw_tbl := by decide +kernel
  have h2 : (vx_atS RX7 266 "java/lang/IllegalStateException" ["java/lang/RuntimeException", "java/lang/Exception"]).all sx_pay = true := by decide +kernel
  exact fun w h => List.mem_filter.mpr ⟨h1 w h, List.all_eq_true.mp h2 w h⟩
set_option maxHeartbeats 4000000 in
set_option maxRecDepth 100000 in
theorem m_X7_isWithin (l : Launch) (G : sx_G) (sz : Nat) (n : Int) (lo : Int) (hi : Int) (h_n : -2147483648 ≤ n ∧ n < 2147483648) (h_lo : -2147483648 ≤ lo ∧ lo < 2147483648) (h_hi : -2147483648 ≤ hi ∧ hi < 2147483648) : sx_Met l yX7_isWithin cX7_isWithin 3 (some .boolean) 0 0 0 0 G [.int (sJ n), .int (sJ lo), .int (sJ hi)] [] sz (sx_Qi G (fun (r : Int32) (u : Unit) => r = sB (decide (lo ≤ n ∧ n ≤ hi))) (fun (u : Unit) => [])) := by
  refine sx_start (by decide) rfl (fun p e s m below meth c A ls F hr hlk hnm hP hD hS hl => ?_)
  obtain ⟨hx, hb, hml, hown, hts, hK, hE, hA⟩ := id F
  have hown : s.vm.findClass RX7 = some m.cls := hown
  generalize hHe : s.heap = H at hP
  have hS : va_S A s.heap H [] := by rw [← hHe]; exact va_S.rf
  have hl : lv_has ls 3 [(0, .int (sJ n)), (1, .int (sJ lo)), (2, .int (sJ hi))] := hl
  refine lv_iload_n hx hb dX7_isWithin_0 rfl (lv_at hl 0 rfl) ?_
  refine lv_iload_n hx hb dX7_isWithin_1 rfl (lv_at hl 1 rfl) ?_
  refine lv_icmp_lt (tgt := 14) hx hb dX7_isWithin_2 (by decide) (fun c_1 => ?_) (fun c_1 => ?_)
  · have c_1 : n < lo := (sJ_lt (a := n) (b := lo) (by omega) (by omega) (by omega) (by omega)).mp c_1
    refine lv_iconst (v := 0) hx hb dX7_isWithin_14 (by decide) ?_
    exact (sx_iret (v := 0) () hx hb hr (by decide) hlk hP hD hS (sB_n (by omega)) dX7_isWithin_15 rfl rfl)
  · have c_1 : ¬ (n < lo) := fun h => c_1 ((sJ_lt (a := n) (b := lo) (by omega) (by omega) (by omega) (by omega)).mpr h)
    refine lv_iload_n hx hb dX7_isWithin_5 rfl (lv_at hl 0 rfl) ?_
    refine lv_iload_n hx hb dX7_isWithin_6 rfl (lv_at hl 2 rfl) ?_
    refine lv_icmp_gt (tgt := 14) hx hb dX7_isWithin_7 (by decide) (fun c_2 => ?_) (fun c_2 => ?_)
    · have c_2 : hi < n := (sJ_lt (a := hi) (b := n) (by omega) (by omega) (by omega) (by omega)).mp c_2
      refine lv_iconst (v := 0) hx hb dX7_isWithin_14 (by decide) ?_
      exact (sx_iret (v := 0) () hx hb hr (by decide) hlk hP hD hS (sB_n (by omega)) dX7_isWithin_15 rfl rfl)
    · have c_2 : ¬ (hi < n) := fun h => c_2 ((sJ_lt (a := hi) (b := n) (by omega) (by omega) (by omega) (by omega)).mpr h)
      refine lv_iconst (v := 1) hx hb dX7_isWithin_10 (by decide) ?_
      refine lv_goto (tgt := 15) hx hb dX7_isWithin_11 (by decide) ?_
      exact (sx_iret (v := 1) () hx hb hr (by decide) hlk hP hD hS (sB_p (by omega)) dX7_isWithin_15 rfl rfl)
set_option maxHeartbeats 4000000 in
set_option maxRecDepth 100000 in
theorem m_X7_isIndex (l : Launch) (G : sx_G) (sz : Nat) (i : Int) (cnt : Nat) (h_i : -2147483648 ≤ i ∧ i < 2147483648) (h_cnt : cnt < 2147483648) : sx_Met l yX7_isIndex cX7_isIndex 2 (some .boolean) 1 22 0 0 G [.int (sJ i), .int (nI cnt)] [] sz (sx_Qi G (fun (r : Int32) (u : Unit) => r = sB (decide (0 ≤ i ∧ i < (cnt : Int)))) (fun (u : Unit) => [])) := by
  refine sx_start (by decide) rfl (fun p e s m below meth c A ls F hr hlk hnm hP hD hS hl => ?_)
  obtain ⟨hx, hb, hml, hown, hts, hK, hE, hA⟩ := id F
  have hown : s.vm.findClass RX7 = some m.cls := hown
  generalize hHe : s.heap = H at hP
  have hS : va_S A s.heap H [] := by rw [← hHe]; exact va_S.rf
  have hl : lv_has ls 2 [(0, .int (sJ i)), (1, .int (nI cnt))] := hl
  refine lv_iload_n hx hb dX7_isIndex_0 rfl (lv_at hl 0 rfl) ?_
  refine lv_iconst (v := 0) hx hb dX7_isIndex_1 (by decide) ?_
  refine lv_iload_n hx hb dX7_isIndex_2 rfl (lv_at hl 1 rfl) ?_
  refine lv_iconst (v := 1) hx hb dX7_isIndex_3 (by decide) ?_
  refine lv_isub hx hb dX7_isIndex_4 ?_
  refine sx_topI (sJ_sub ((cnt : Nat) : Int) (1 : Int)) ?_
  have hcut : sx_cut [] [] [] [] [] := ⟨rfl, rfl, by decide, by decide, by decide⟩
  refine sx_ki (sx_runS (As := [.int (sJ i), .int 0, .int (sJ (((cnt : Nat) : Int) - (1 : Int)))]) (rest := []) F (m_X7_isWithin l G H.size i (0 : Int) (((cnt : Nat) : Int) - (1 : Int)) (show -2147483648 ≤ i ∧ i < 2147483648 from (by first | assumption | omega)) (show -2147483648 ≤ (0 : Int) ∧ (0 : Int) < 2147483648 from (by first | assumption | omega)) (show -2147483648 ≤ (((cnt : Nat) : Int) - (1 : Int)) ∧ (((cnt : Nat) : Int) - (1 : Int)) < 2147483648 from (by first | assumption | omega))) mi_X7_isWithin q341 q340 ⟨⟨Nat.le_of_ble_eq_true rfl, Nat.le_of_ble_eq_true rfl⟩, Nat.le_of_ble_eq_true rfl, Nat.le_of_ble_eq_true rfl⟩ hcut hP hD hS rfl hl.1 rfl (Nat.le_of_ble_eq_true rfl) dX7_isIndex_5) hcut hP hD hS hA (fun r_3 u_1 H locs w_2 hP hD hS => ?_)
  have hP : va_P (sx_D G) vwCl [] H := hP
  have hD : va_D A [] := hD
  have w_2 : r_3 = sB (decide ((0 : Int) ≤ i ∧ i ≤ (((cnt : Nat) : Int) - (1 : Int)))) := w_2
  subst w_2
  exact (sx_iret (v := sB (decide ((0 : Int) ≤ i ∧ i ≤ (((cnt : Nat) : Int) - (1 : Int))))) () hx hb hr (sB_nar _) hlk hP hD hS (congrArg sB (decide_eq_decide.mpr (by omega))) dX7_isIndex_8 rfl rfl)
set_option maxHeartbeats 4000000 in
set_option maxRecDepth 100000 in
theorem m_X7_isPartOf (l : Launch) (G : sx_G) (sz : Nat) (a : Nat) (w : Nat) (h_a : sDf a w < 2147483648) : sx_Met l yX7_isPartOf cX7_isPartOf 2 (some .boolean) 0 0 0 0 G [.int (nI a), .int (nI w)] [] sz (sx_Qi G (fun (r : Int32) (u : Unit) => r = sB (decide (sDf a w = 0))) (fun (u : Unit) => [])) := by
  refine sx_start (by decide) rfl (fun p e s m below meth c A ls F hr hlk hnm hP hD hS hl => ?_)
  obtain ⟨hx, hb, hml, hown, hts, hK, hE, hA⟩ := id F
  have hown : s.vm.findClass RX7 = some m.cls := hown
  generalize hHe : s.heap = H at hP
  have hS : va_S A s.heap H [] := by rw [← hHe]; exact va_S.rf
  have hl : lv_has ls 2 [(0, .int (nI a)), (1, .int (nI w))] := hl
  refine lv_iload_n hx hb dX7_isPartOf_0 rfl (lv_at hl 0 rfl) ?_
  refine lv_iload_n hx hb dX7_isPartOf_1 rfl (lv_at hl 1 rfl) ?_
  refine lv_iconst (v := (-1)) hx hb dX7_isPartOf_2 (by decide) ?_
  refine sx_topI (show ((-1) : Int32) = sJ ((-1)) by decide +kernel) ?_
  refine lv_ixor hx hb dX7_isPartOf_3 ?_
  refine lv_iand hx hb dX7_isPartOf_4 ?_
  refine sx_topI (sx_andm a w) ?_
  refine lv_if_ne (tgt := 12) hx hb dX7_isPartOf_5 (by decide) (fun c_1 => ?_) (fun c_1 => ?_)
  · have c_1 : ¬ ((sDf a w) = 0) := by have h9 : ¬ (((sDf a w : Nat) : Int) = (0 : Int)) := fun h => c_1 ((sJ_eq (a := ((sDf a w : Nat) : Int)) (b := (0 : Int)) (by omega) (by omega) (by omega) (by omega)).mpr h); omega
    refine lv_iconst (v := 0) hx hb dX7_isPartOf_12 (by decide) ?_
    exact (sx_iret (v := 0) () hx hb hr (by decide) hlk hP hD hS (sB_n (by omega)) dX7_isPartOf_13 rfl rfl)
  · have c_1 : (sDf a w) = 0 := by have h9 : ((sDf a w : Nat) : Int) = (0 : Int) := (sJ_eq (a := ((sDf a w : Nat) : Int)) (b := (0 : Int)) (by omega) (by omega) (by omega) (by omega)).mp c_1; omega
    refine lv_iconst (v := 1) hx hb dX7_isPartOf_8 (by decide) ?_
    refine lv_goto (tgt := 13) hx hb dX7_isPartOf_9 (by decide) ?_
    exact (sx_iret (v := 1) () hx hb hr (by decide) hlk hP hD hS (sB_p (by omega)) dX7_isPartOf_13 rfl rfl)
set_option maxHeartbeats 4000000 in
set_option maxRecDepth 100000 in
theorem m_X7_needIndex (l : Launch) (hfl : l.stackTraces = false) (G : sx_G) (sz : Nat) (i : Int) (cnt : Nat) (h_i : -2147483648 ≤ i ∧ i < 2147483648) (h_cnt : cnt < 2147483648) : sx_MetX l yX7_needIndex cX7_needIndex 2 none 6 82 1 6 G [.int (sJ i), .int (nI cnt)] [] sz (sx_Qv G (fun (u : Unit) => 0 ≤ i ∧ i < (cnt : Int)) (fun (u : Unit) => [])) (fun E => E = "java/lang/IndexOutOfBoundsException" ∧ ¬ (0 ≤ i ∧ i < (cnt : Int))) := by
  refine sx_startX (by decide) rfl (fun p e s m below meth c A ls F hr hlk hnm hex hP hD hS hl => ?_)
  obtain ⟨hx, hb, hml, hown, hts, hK, hE, hA⟩ := id F
  have hown : s.vm.findClass RX7 = some m.cls := hown
  generalize hHe : s.heap = H at hP
  have hS : va_S A s.heap H [] := by rw [← hHe]; exact va_S.rf
  have hl : lv_has ls 2 [(0, .int (sJ i)), (1, .int (nI cnt))] := hl
  refine lv_iload_n hx hb dX7_needIndex_0 rfl (lv_at hl 0 rfl) ?_
  refine lv_iload_n hx hb dX7_needIndex_1 rfl (lv_at hl 1 rfl) ?_
  have hcut : sx_cut [] [] [] [] [] := ⟨rfl, rfl, by decide, by decide, by decide⟩
  refine sx_ki (sx_runS (As := [.int (sJ i), .int (nI cnt)]) (rest := []) F (m_X7_isIndex l G H.size i cnt (show -2147483648 ≤ i ∧ i < 2147483648 from (by first | assumption | omega)) (show cnt < 2147483648 from (by first | assumption | omega))) mi_X7_isIndex q468 q467 ⟨⟨Nat.le_of_ble_eq_true rfl, Nat.le_of_ble_eq_true rfl⟩, Nat.le_of_ble_eq_true rfl, Nat.le_of_ble_eq_true rfl⟩ hcut hP hD hS rfl hl.1 rfl (Nat.le_of_ble_eq_true rfl) dX7_needIndex_2) hcut hP hD hS hA (fun r_3 u_1 H locs w_2 hP hD hS => ?_)
  have hP : va_P (sx_D G) vwCl [] H := hP
  have hD : va_D A [] := hD
  have w_2 : r_3 = sB (decide (0 ≤ i ∧ i < (cnt : Int))) := w_2
  subst w_2
  refine lv_if_ne (tgt := 18) hx hb dX7_needIndex_5 (by decide) (fun c_4 => ?_) (fun c_4 => ?_)
  · have c_4 := of_decide_eq_true (sB_1 c_4)
    exact vx_ret (sx_vret () hx hb hr hlk hP hD hS c_4 dX7_needIndex_18 rfl rfl)
  · have c_4 := of_decide_eq_false (sB_0 c_4)
    refine vx_throwS (cls := "java/lang/IndexOutOfBoundsException") (names := ["java/lang/RuntimeException", "java/lang/Exception"]) (A := A) hx hb hfl hown (by decide) (by decide) (hts _ q470) (hts _ q15) hE.1 (fun w h => hts w (ta_IndexOutOfBoundsException w h)) (by decide +kernel) hE.2.2.2.1 hE.2.2.2.2.1 hS (hl.1.trans hml.symm) dX7_needIndex_8 dX7_needIndex_11 dX7_needIndex_12 dX7_needIndex_14 dX7_needIndex_17 (fun x hx => (hex x hx).elim) (Nat.lt_of_lt_of_le (Nat.lt_succ_self _) (Nat.le_of_ble_eq_true rfl)) (Nat.le_of_ble_eq_true rfl) (Nat.le_of_ble_eq_true rfl) (Nat.le_of_ble_eq_true rfl) hlk (fun t hvm hz hk => ⟨(), trivial, ⟨rfl, c_4⟩, Nat.le_trans hS.1 hz, fun q h1 h2 => (hk q (Nat.lt_of_lt_of_le h1 hS.1)).trans (hS.2.1 q h1 h2)⟩) hS.2.2 (Nat.le_of_ble_eq_true rfl) (Nat.le_of_ble_eq_true rfl)
set_option maxHeartbeats 4000000 in
set_option maxRecDepth 100000 in
theorem m_X7_needArgument (l : Launch) (hfl : l.stackTraces = false) (G : sx_G) (sz : Nat) (b : Bool) : sx_MetX l yX7_needArgument cX7_needArgument 1 none 6 82 1 6 G [.int (sB b)] [] sz (sx_Qv G (fun (u : Unit) => b = true) (fun (u : Unit) => [])) (fun E => E = "java/lang/IllegalArgumentException" ∧ b = false) := by
  refine sx_startX (by decide) rfl (fun p e s m below meth c A ls F hr hlk hnm hex hP hD hS hl => ?_)
  obtain ⟨hx, hb, hml, hown, hts, hK, hE, hA⟩ := id F
  have hown : s.vm.findClass RX7 = some m.cls := hown
  generalize hHe : s.heap = H at hP
  have hS : va_S A s.heap H [] := by rw [← hHe]; exact va_S.rf
  have hl : lv_has ls 1 [(0, .int (sB b))] := hl
  refine lv_iload_n hx hb dX7_needArgument_0 rfl (lv_at hl 0 rfl) ?_
  refine lv_if_ne (tgt := 15) hx hb dX7_needArgument_1 (by decide) (fun c_1 => ?_) (fun c_1 => ?_)
  · have c_1 := sB_1 c_1
    exact vx_ret (sx_vret () hx hb hr hlk hP hD hS c_1 dX7_needArgument_15 rfl rfl)
  · have c_1 := sB_0 c_1
    refine vx_throwSW (cls := "java/lang/IllegalArgumentException") (names := ["java/lang/RuntimeException", "java/lang/Exception"]) (A := A) hx hb hfl hown (by decide) (by decide) (hts _ q346) (hts _ q12) hE.2.1 (fun w h => hts w (ta_IllegalArgumentException w h)) (by decide +kernel) hE.2.2.2.1 hE.2.2.2.2.1 hS (hl.1.trans hml.symm) dX7_needArgument_4 dX7_needArgument_7 dX7_needArgument_8 dX7_needArgument_11 dX7_needArgument_14 (fun x hx => (hex x hx).elim) (Nat.lt_of_lt_of_le (Nat.lt_succ_self _) (Nat.le_of_ble_eq_true rfl)) (Nat.le_of_ble_eq_true rfl) (Nat.le_of_ble_eq_true rfl) (Nat.le_of_ble_eq_true rfl) hlk (fun t hvm hz hk => ⟨(), trivial, ⟨rfl, c_1⟩, Nat.le_trans hS.1 hz, fun q h1 h2 => (hk q (Nat.lt_of_lt_of_le h1 hS.1)).trans (hS.2.1 q h1 h2)⟩) hS.2.2 (Nat.le_of_ble_eq_true rfl) (Nat.le_of_ble_eq_true rfl)
set_option maxHeartbeats 4000000 in
set_option maxRecDepth 100000 in
theorem m_X7_needState (l : Launch) (hfl : l.stackTraces = false) (G : sx_G) (sz : Nat) (b : Bool) : sx_MetX l yX7_needState cX7_needState 1 none 6 82 1 6 G [.int (sB b)] [] sz (sx_Qv G (fun (u : Unit) => b = true) (fun (u : Unit) => [])) (fun E => E = "java/lang/IllegalStateException" ∧ b = false) := by
  refine sx_startX (by decide) rfl (fun p e s m below meth c A ls F hr hlk hnm hex hP hD hS hl => ?_)
  obtain ⟨hx, hb, hml, hown, hts, hK, hE, hA⟩ := id F
  have hown : s.vm.findClass RX7 = some m.cls := hown
  generalize hHe : s.heap = H at hP
  have hS : va_S A s.heap H [] := by rw [← hHe]; exact va_S.rf
  have hl : lv_has ls 1 [(0, .int (sB b))] := hl
  refine lv_iload_n hx hb dX7_needState_0 rfl (lv_at hl 0 rfl) ?_
  refine lv_if_ne (tgt := 15) hx hb dX7_needState_1 (by decide) (fun c_1 => ?_) (fun c_1 => ?_)
  · have c_1 := sB_1 c_1
    exact vx_ret (sx_vret () hx hb hr hlk hP hD hS c_1 dX7_needState_15 rfl rfl)
  · have c_1 := sB_0 c_1
    refine vx_throwSW (cls := "java/lang/IllegalStateException") (names := ["java/lang/RuntimeException", "java/lang/Exception"]) (A := A) hx hb hfl hown (by decide) (by decide) (hts _ q417) (hts _ q13) hE.2.2.1 (fun w h => hts w (ta_IllegalStateException w h)) (by decide +kernel) hE.2.2.2.1 hE.2.2.2.2.1 hS (hl.1.trans hml.symm) dX7_needState_4 dX7_needState_7 dX7_needState_8 dX7_needState_11 dX7_needState_14 (fun x hx => (hex x hx).elim) (Nat.lt_of_lt_of_le (Nat.lt_succ_self _) (Nat.le_of_ble_eq_true rfl)) (Nat.le_of_ble_eq_true rfl) (Nat.le_of_ble_eq_true rfl) (Nat.le_of_ble_eq_true rfl) hlk (fun t hvm hz hk => ⟨(), trivial, ⟨rfl, c_1⟩, Nat.le_trans hS.1 hz, fun q h1 h2 => (hk q (Nat.lt_of_lt_of_le h1 hS.1)).trans (hS.2.1 q h1 h2)⟩) hS.2.2 (Nat.le_of_ble_eq_true rfl) (Nat.le_of_ble_eq_true rfl)
set_option maxHeartbeats 4000000 in
set_option maxRecDepth 100000 in
theorem m_X7_has (l : Launch) (G : sx_G) (sz : Nat) (S : Nat) (k : Nat) (h_S : S < 2 ^ 62) (h_k : k < 63) : sx_Met l yX7_has cX7_has 3 (some .boolean) 0 0 0 0 G [.long (lN S), .int (nI k)] [] sz (sx_Qi G (fun (r : Int32) (u : Unit) => r = sB (S.testBit k)) (fun (u : Unit) => [])) := by
  refine sx_start (by decide) rfl (fun p e s m below meth c A ls F hr hlk hnm hP hD hS hl => ?_)
  obtain ⟨hx, hb, hml, hown, hts, hK, hE, hA⟩ := id F
  have hown : s.vm.findClass RX7 = some m.cls := hown
  generalize hHe : s.heap = H at hP
  have hS : va_S A s.heap H [] := by rw [← hHe]; exact va_S.rf
  have hl : lv_has ls 3 [(0, .long (lN S)), (2, .int (nI k))] := hl
  refine lv_lload_n hx hb dX7_has_0 rfl (lv_at hl 0 rfl) ?_
  refine lv_iload_n hx hb dX7_has_1 rfl (lv_at hl 1 rfl) ?_
  refine lv_lshr (v := lN (S / 2 ^ k)) hx hb dX7_has_2 (sx_has (S := S) (k := k) (by omega) (by omega)) ?_
  refine lv_lconst (v := 1) hx hb dX7_has_3 (by decide) ?_
  refine lv_land hx hb dX7_has_4 ?_
  refine sx_topL (sx_andL (S / 2 ^ k) 1) ?_
  refine lv_lconst (v := 0) hx hb dX7_has_5 (by decide) ?_
  refine W.lcmp hx hb dX7_has_6 ?_
  refine sx_topI (sC_of (a := ((S / 2 ^ k) &&& 1)) (b := 0) (Nat.lt_of_le_of_lt Nat.and_le_right (by decide)) (by omega)) ?_
  refine lv_if_eq (tgt := 14) hx hb dX7_has_7 (by decide) (fun c_1 => ?_) (fun c_1 => ?_)
  · have c_1 := sC_0.mp c_1
    refine lv_iconst (v := 0) hx hb dX7_has_14 (by decide) ?_
    exact (sx_iret (v := 0) () hx hb hr (by decide) hlk hP hD hS (sB_f (sx_bit0 c_1)) dX7_has_15 rfl rfl)
  · have c_1 := fun h => c_1 (sC_0.mpr h)
    refine lv_iconst (v := 1) hx hb dX7_has_10 (by decide) ?_
    refine lv_goto (tgt := 15) hx hb dX7_has_11 (by decide) ?_
    exact (sx_iret (v := 1) () hx hb hr (by decide) hlk hP hD hS (sB_t (sx_bit1 c_1)) dX7_has_15 rfl rfl)
set_option maxHeartbeats 4000000 in
set_option maxRecDepth 100000 in
theorem m_weigh8 (l : Launch) (G : sx_G) (sz : Nat) (S : Nat) (ad : Nat) (w : Nat) (f : Nat → Int) (h_S : S < 1073741824) : sx_Met l yX7_weigh cX7_weigh 5 (some .int) 1 22 0 0 G [.int (nI S), .ref ad, .int (nI w)] [(ad, .inl (G.2.1, 8, .inl (fun k => sJ (f k))))] sz (sx_Qi G (fun (r : Int32) (u : Unit) => r = sJ (weighN S f w 8)) (fun (u : Unit) => [(ad, .inl (G.2.1, 8, .inl (fun k => sJ (f k))))])) := by
  refine sx_start (by decide) rfl (fun p e s m below meth c A ls F hr hlk hnm hP hD hS hl => ?_)
  obtain ⟨hx, hb, hml, hown, hts, hK, hE, hA⟩ := id F
  have hown : s.vm.findClass RX7 = some m.cls := hown
  generalize hHe : s.heap = H at hP
  have hS : va_S A s.heap H [] := by rw [← hHe]; exact va_S.rf
  have hl : lv_has ls 5 [(0, .int (nI S)), (1, .ref ad), (2, .int (nI w))] := hl
  refine lv_iconst (v := 0) hx hb dX7_weigh_0 (by decide) ?_
  refine lv_istore_n (lv' := [(3, .int 0), (0, .int (nI S)), (1, .ref ad), (2, .int (nI w))]) hx hb dX7_weigh_1 rfl hl (by decide) rfl (fun ls hl => ?_)
  refine lv_iconst (v := 0) hx hb dX7_weigh_2 (by decide) ?_
  refine lv_istore (lv' := [(4, .int 0), (3, .int 0), (0, .int (nI S)), (1, .ref ad), (2, .int (nI w))]) hx hb dX7_weigh_3 hl (by decide) rfl (fun ls hl => ?_)
  refine sx_loop (nL := 5) (fun i => [(ad, .inl (G.2.1, 8, .inl (fun k => sJ (f k))))]) (fun i => [(3, .int (sJ (weighN S f w i))), (4, .int (nI i)), (0, .int (nI S)), (1, .ref ad), (2, .int (nI w))]) (fun i => True) 8 trivial hP hD hS (lv_sub hl [1, 0, 2, 3, 4] rfl) (fun i_1 hi_i_1 hI_i_1 H locs ls hP hD hS hl ih_i_1 => ?_)
  have hP : va_P (sx_D G) vwCl [(ad, .inl (G.2.1, 8, .inl (fun k => sJ (f k))))] H := hP
  have hD : va_D A [(ad, .inl (G.2.1, 8, .inl (fun k => sJ (f k))))] := hD
  have hl : lv_has ls 5 [(3, .int (sJ (weighN S f w i_1))), (4, .int (nI i_1)), (0, .int (nI S)), (1, .ref ad), (2, .int (nI w))] := hl
  have hI_i_1 : True := hI_i_1
  refine lv_iload hx hb dX7_weigh_5 (lv_at hl 1 rfl) ?_
  refine lv_aload_n hx hb dX7_weigh_7 rfl (lv_at hl 3 rfl) ?_
  refine va_alen (D := sx_D G) (tys := sx_tys G) (v := 8) hx hb hK hP 0 0 rfl rfl rfl dX7_weigh_8 ?_
  refine lv_icmp_ge (tgt := 40) hx hb dX7_weigh_9 (by decide) (fun c_2 => ?_) (fun c_2 => ?_)
  · have c_2 : 8 ≤ i_1 := by have h9 : (8 : Int) ≤ ((i_1 : Nat) : Int) := (sJ_le (a := (8 : Int)) (b := ((i_1 : Nat) : Int)) (by omega) (by omega) (by omega) (by omega)).mp c_2; omega
    refine lv_iload_n hx hb dX7_weigh_40 rfl (lv_at hl 0 rfl) ?_
    exact (sx_iret (v := sJ (weighN S f w i_1)) () hx hb hr rfl hlk hP hD hS (congrArg (fun z => sJ (weighN S f w z)) (by omega)) dX7_weigh_41 rfl rfl)
  · have c_2 : ¬ (8 ≤ i_1) := by have h9 : ¬ ((8 : Int) ≤ ((i_1 : Nat) : Int)) := fun h => c_2 ((sJ_le (a := (8 : Int)) (b := ((i_1 : Nat) : Int)) (by omega) (by omega) (by omega) (by omega)).mpr h); omega
    refine lv_iload_n hx hb dX7_weigh_12 rfl (lv_at hl 2 rfl) ?_
    refine lv_i2l (v := lN S) hx hb dX7_weigh_13 (nI_l (n := S) (by omega)) ?_
    refine lv_iload hx hb dX7_weigh_14 (lv_at hl 1 rfl) ?_
    have hcut : sx_cut [(ad, .inl (G.2.1, 8, .inl (fun k => sJ (f k))))] [] [(ad, .inl (G.2.1, 8, .inl (fun k => sJ (f k))))] [] [0] := ⟨rfl, rfl, by decide, by decide, by decide⟩
    refine sx_ki (sx_runS (As := [.long (lN S), .int (nI i_1)]) (rest := []) F (m_X7_has l G H.size S i_1 (show S < 2 ^ 62 from (by first | assumption | omega)) (show i_1 < 63 from (by first | assumption | omega))) mi_X7_has q498 q497 ⟨⟨Nat.le_of_ble_eq_true rfl, Nat.le_of_ble_eq_true rfl⟩, Nat.le_of_ble_eq_true rfl, Nat.le_of_ble_eq_true rfl⟩ hcut hP hD hS rfl hl.1 rfl (Nat.le_of_ble_eq_true rfl) dX7_weigh_16) hcut hP hD hS hA (fun r_5 u_3 H locs w_4 hP hD hS => ?_)
    have hP : va_P (sx_D G) vwCl [(ad, .inl (G.2.1, 8, .inl (fun k => sJ (f k))))] H := hP
    have hD : va_D A [(ad, .inl (G.2.1, 8, .inl (fun k => sJ (f k))))] := hD
    have w_4 : r_5 = sB (S.testBit i_1) := w_4
    subst w_4
    refine lv_if_eq (tgt := 34) hx hb dX7_weigh_19 (by decide) (fun c_6 => ?_) (fun c_6 => ?_)
    · have c_6 := sB_0 c_6
      refine lv_iinc (v := nI (i_1 + 1)) (lv' := [(4, .int (nI (i_1 + 1))), (3, .int (sJ (weighN S f w i_1))), (0, .int (nI S)), (1, .ref ad), (2, .int (nI w))]) hx hb dX7_weigh_34 hl (k := 1) rfl ((congrArg (fun t => nI i_1 + t) (show Int32.ofInt 1 = nI 1 by decide +kernel)).trans (nI_add i_1 1)) (by decide) rfl (fun ls hl => ?_)
      refine lv_goto (tgt := 5) hx hb dX7_weigh_37 (by decide) ?_
      have e9_0 : weighN S f w (i_1 + 1) = (weighN S f w i_1) := (by rw [weighN_s, if_neg (by rw [c_6]; decide)]; omega)
      have hl : lv_has ls 5 [(3, .int (sJ (weighN S f w (i_1 + 1)))), (4, .int (nI (i_1 + 1))), (0, .int (nI S)), (1, .ref ad), (2, .int (nI w))] := by rw [e9_0]; exact lv_sub hl [1, 0, 2, 3, 4] rfl
      exact ih_i_1 _ _ _ (by omega) trivial hP hD hS hl
    · have c_6 := sB_1 c_6
      refine lv_iload_n hx hb dX7_weigh_22 rfl (lv_at hl 0 rfl) ?_
      refine lv_iload hx hb dX7_weigh_23 (lv_at hl 1 rfl) ?_
      refine lv_iload_n hx hb dX7_weigh_25 rfl (lv_at hl 4 rfl) ?_
      refine lv_iadd hx hb dX7_weigh_26 ?_
      refine sx_topI (nI_add i_1 w) ?_
      refine lv_aload_n hx hb dX7_weigh_27 rfl (lv_at hl 3 rfl) ?_
      refine lv_iload hx hb dX7_weigh_28 (lv_at hl 1 rfl) ?_
      refine sx_ild (X := i_1) hx hb hK hP 0 rfl (by omega) rfl dX7_weigh_30 ?_
      refine lv_imul hx hb dX7_weigh_31 ?_
      refine sx_topI (sJ_mul ((i_1 + w : Nat) : Int) (f i_1)) ?_
      refine lv_iadd hx hb dX7_weigh_32 ?_
      refine sx_topI (sJ_add (weighN S f w i_1) (((i_1 + w : Nat) : Int) * (f i_1))) ?_
      refine lv_istore_n (lv' := [(3, .int (sJ ((weighN S f w i_1) + (((i_1 + w : Nat) : Int) * (f i_1))))), (4, .int (nI i_1)), (0, .int (nI S)), (1, .ref ad), (2, .int (nI w))]) hx hb dX7_weigh_33 rfl hl (by decide) rfl (fun ls hl => ?_)
      refine lv_iinc (v := nI (i_1 + 1)) (lv' := [(4, .int (nI (i_1 + 1))), (3, .int (sJ ((weighN S f w i_1) + (((i_1 + w : Nat) : Int) * (f i_1))))), (0, .int (nI S)), (1, .ref ad), (2, .int (nI w))]) hx hb dX7_weigh_34 hl (k := 1) rfl ((congrArg (fun t => nI i_1 + t) (show Int32.ofInt 1 = nI 1 by decide +kernel)).trans (nI_add i_1 1)) (by decide) rfl (fun ls hl => ?_)
      refine lv_goto (tgt := 5) hx hb dX7_weigh_37 (by decide) ?_
      have e9_0 : weighN S f w (i_1 + 1) = ((weighN S f w i_1) + (((i_1 + w : Nat) : Int) * (f i_1))) := (by rw [weighN_s, if_pos c_6])
      have hl : lv_has ls 5 [(3, .int (sJ (weighN S f w (i_1 + 1)))), (4, .int (nI (i_1 + 1))), (0, .int (nI S)), (1, .ref ad), (2, .int (nI w))] := by rw [e9_0]; exact lv_sub hl [1, 0, 2, 3, 4] rfl
      exact ih_i_1 _ _ _ (by omega) trivial hP hD hS hl
set_option maxHeartbeats 4000000 in
set_option maxRecDepth 100000 in
theorem m_weigh14 (l : Launch) (G : sx_G) (sz : Nat) (S : Nat) (ad : Nat) (w : Nat) (f : Nat → Int) (h_S : S < 1073741824) : sx_Met l yX7_weigh cX7_weigh 5 (some .int) 1 22 0 0 G [.int (nI S), .ref ad, .int (nI w)] [(ad, .inl (G.2.1, 14, .inl (fun k => sJ (f k))))] sz (sx_Qi G (fun (r : Int32) (u : Unit) => r = sJ (weighN S f w 14)) (fun (u : Unit) => [(ad, .inl (G.2.1, 14, .inl (fun k => sJ (f k))))])) := by
  refine sx_start (by decide) rfl (fun p e s m below meth c A ls F hr hlk hnm hP hD hS hl => ?_)
  obtain ⟨hx, hb, hml, hown, hts, hK, hE, hA⟩ := id F
  have hown : s.vm.findClass RX7 = some m.cls := hown
  generalize hHe : s.heap = H at hP
  have hS : va_S A s.heap H [] := by rw [← hHe]; exact va_S.rf
  have hl : lv_has ls 5 [(0, .int (nI S)), (1, .ref ad), (2, .int (nI w))] := hl
  refine lv_iconst (v := 0) hx hb dX7_weigh_0 (by decide) ?_
  refine lv_istore_n (lv' := [(3, .int 0), (0, .int (nI S)), (1, .ref ad), (2, .int (nI w))]) hx hb dX7_weigh_1 rfl hl (by decide) rfl (fun ls hl => ?_)
  refine lv_iconst (v := 0) hx hb dX7_weigh_2 (by decide) ?_
  refine lv_istore (lv' := [(4, .int 0), (3, .int 0), (0, .int (nI S)), (1, .ref ad), (2, .int (nI w))]) hx hb dX7_weigh_3 hl (by decide) rfl (fun ls hl => ?_)
  refine sx_loop (nL := 5) (fun i => [(ad, .inl (G.2.1, 14, .inl (fun k => sJ (f k))))]) (fun i => [(3, .int (sJ (weighN S f w i))), (4, .int (nI i)), (0, .int (nI S)), (1, .ref ad), (2, .int (nI w))]) (fun i => True) 14 trivial hP hD hS (lv_sub hl [1, 0, 2, 3, 4] rfl) (fun i_1 hi_i_1 hI_i_1 H locs ls hP hD hS hl ih_i_1 => ?_)
  have hP : va_P (sx_D G) vwCl [(ad, .inl (G.2.1, 14, .inl (fun k => sJ (f k))))] H := hP
  have hD : va_D A [(ad, .inl (G.2.1, 14, .inl (fun k => sJ (f k))))] := hD
  have hl : lv_has ls 5 [(3, .int (sJ (weighN S f w i_1))), (4, .int (nI i_1)), (0, .int (nI S)), (1, .ref ad), (2, .int (nI w))] := hl
  have hI_i_1 : True := hI_i_1
  refine lv_iload hx hb dX7_weigh_5 (lv_at hl 1 rfl) ?_
  refine lv_aload_n hx hb dX7_weigh_7 rfl (lv_at hl 3 rfl) ?_
  refine va_alen (D := sx_D G) (tys := sx_tys G) (v := 14) hx hb hK hP 0 0 rfl rfl rfl dX7_weigh_8 ?_
  refine lv_icmp_ge (tgt := 40) hx hb dX7_weigh_9 (by decide) (fun c_2 => ?_) (fun c_2 => ?_)
  · have c_2 : 14 ≤ i_1 := by have h9 : (14 : Int) ≤ ((i_1 : Nat) : Int) := (sJ_le (a := (14 : Int)) (b := ((i_1 : Nat) : Int)) (by omega) (by omega) (by omega) (by omega)).mp c_2; omega
    refine lv_iload_n hx hb dX7_weigh_40 rfl (lv_at hl 0 rfl) ?_
    exact (sx_iret (v := sJ (weighN S f w i_1)) () hx hb hr rfl hlk hP hD hS (congrArg (fun z => sJ (weighN S f w z)) (by omega)) dX7_weigh_41 rfl rfl)
  · have c_2 : ¬ (14 ≤ i_1) := by have h9 : ¬ ((14 : Int) ≤ ((i_1 : Nat) : Int)) := fun h => c_2 ((sJ_le (a := (14 : Int)) (b := ((i_1 : Nat) : Int)) (by omega) (by omega) (by omega) (by omega)).mpr h); omega
    refine lv_iload_n hx hb dX7_weigh_12 rfl (lv_at hl 2 rfl) ?_
    refine lv_i2l (v := lN S) hx hb dX7_weigh_13 (nI_l (n := S) (by omega)) ?_
    refine lv_iload hx hb dX7_weigh_14 (lv_at hl 1 rfl) ?_
    have hcut : sx_cut [(ad, .inl (G.2.1, 14, .inl (fun k => sJ (f k))))] [] [(ad, .inl (G.2.1, 14, .inl (fun k => sJ (f k))))] [] [0] := ⟨rfl, rfl, by decide, by decide, by decide⟩
    refine sx_ki (sx_runS (As := [.long (lN S), .int (nI i_1)]) (rest := []) F (m_X7_has l G H.size S i_1 (show S < 2 ^ 62 from (by first | assumption | omega)) (show i_1 < 63 from (by first | assumption | omega))) mi_X7_has q498 q497 ⟨⟨Nat.le_of_ble_eq_true rfl, Nat.le_of_ble_eq_true rfl⟩, Nat.le_of_ble_eq_true rfl, Nat.le_of_ble_eq_true rfl⟩ hcut hP hD hS rfl hl.1 rfl (Nat.le_of_ble_eq_true rfl) dX7_weigh_16) hcut hP hD hS hA (fun r_5 u_3 H locs w_4 hP hD hS => ?_)
    have hP : va_P (sx_D G) vwCl [(ad, .inl (G.2.1, 14, .inl (fun k => sJ (f k))))] H := hP
    have hD : va_D A [(ad, .inl (G.2.1, 14, .inl (fun k => sJ (f k))))] := hD
    have w_4 : r_5 = sB (S.testBit i_1) := w_4
    subst w_4
    refine lv_if_eq (tgt := 34) hx hb dX7_weigh_19 (by decide) (fun c_6 => ?_) (fun c_6 => ?_)
    · have c_6 := sB_0 c_6
      refine lv_iinc (v := nI (i_1 + 1)) (lv' := [(4, .int (nI (i_1 + 1))), (3, .int (sJ (weighN S f w i_1))), (0, .int (nI S)), (1, .ref ad), (2, .int (nI w))]) hx hb dX7_weigh_34 hl (k := 1) rfl ((congrArg (fun t => nI i_1 + t) (show Int32.ofInt 1 = nI 1 by decide +kernel)).trans (nI_add i_1 1)) (by decide) rfl (fun ls hl => ?_)
      refine lv_goto (tgt := 5) hx hb dX7_weigh_37 (by decide) ?_
      have e9_0 : weighN S f w (i_1 + 1) = (weighN S f w i_1) := (by rw [weighN_s, if_neg (by rw [c_6]; decide)]; omega)
      have hl : lv_has ls 5 [(3, .int (sJ (weighN S f w (i_1 + 1)))), (4, .int (nI (i_1 + 1))), (0, .int (nI S)), (1, .ref ad), (2, .int (nI w))] := by rw [e9_0]; exact lv_sub hl [1, 0, 2, 3, 4] rfl
      exact ih_i_1 _ _ _ (by omega) trivial hP hD hS hl
    · have c_6 := sB_1 c_6
      refine lv_iload_n hx hb dX7_weigh_22 rfl (lv_at hl 0 rfl) ?_
      refine lv_iload hx hb dX7_weigh_23 (lv_at hl 1 rfl) ?_
      refine lv_iload_n hx hb dX7_weigh_25 rfl (lv_at hl 4 rfl) ?_
      refine lv_iadd hx hb dX7_weigh_26 ?_
      refine sx_topI (nI_add i_1 w) ?_
      refine lv_aload_n hx hb dX7_weigh_27 rfl (lv_at hl 3 rfl) ?_
      refine lv_iload hx hb dX7_weigh_28 (lv_at hl 1 rfl) ?_
      refine sx_ild (X := i_1) hx hb hK hP 0 rfl (by omega) rfl dX7_weigh_30 ?_
      refine lv_imul hx hb dX7_weigh_31 ?_
      refine sx_topI (sJ_mul ((i_1 + w : Nat) : Int) (f i_1)) ?_
      refine lv_iadd hx hb dX7_weigh_32 ?_
      refine sx_topI (sJ_add (weighN S f w i_1) (((i_1 + w : Nat) : Int) * (f i_1))) ?_
      refine lv_istore_n (lv' := [(3, .int (sJ ((weighN S f w i_1) + (((i_1 + w : Nat) : Int) * (f i_1))))), (4, .int (nI i_1)), (0, .int (nI S)), (1, .ref ad), (2, .int (nI w))]) hx hb dX7_weigh_33 rfl hl (by decide) rfl (fun ls hl => ?_)
      refine lv_iinc (v := nI (i_1 + 1)) (lv' := [(4, .int (nI (i_1 + 1))), (3, .int (sJ ((weighN S f w i_1) + (((i_1 + w : Nat) : Int) * (f i_1))))), (0, .int (nI S)), (1, .ref ad), (2, .int (nI w))]) hx hb dX7_weigh_34 hl (k := 1) rfl ((congrArg (fun t => nI i_1 + t) (show Int32.ofInt 1 = nI 1 by decide +kernel)).trans (nI_add i_1 1)) (by decide) rfl (fun ls hl => ?_)
      refine lv_goto (tgt := 5) hx hb dX7_weigh_37 (by decide) ?_
      have e9_0 : weighN S f w (i_1 + 1) = ((weighN S f w i_1) + (((i_1 + w : Nat) : Int) * (f i_1))) := (by rw [weighN_s, if_pos c_6])
      have hl : lv_has ls 5 [(3, .int (sJ (weighN S f w (i_1 + 1)))), (4, .int (nI (i_1 + 1))), (0, .int (nI S)), (1, .ref ad), (2, .int (nI w))] := by rw [e9_0]; exact lv_sub hl [1, 0, 2, 3, 4] rfl
      exact ih_i_1 _ _ _ (by omega) trivial hP hD hS hl
set_option maxHeartbeats 4000000 in
set_option maxRecDepth 100000 in
theorem m_weigh6 (l : Launch) (G : sx_G) (sz : Nat) (S : Nat) (ad : Nat) (w : Nat) (f : Nat → Int) (h_S : S < 1073741824) : sx_Met l yX7_weigh cX7_weigh 5 (some .int) 1 22 0 0 G [.int (nI S), .ref ad, .int (nI w)] [(ad, .inl (G.2.1, 6, .inl (fun k => sJ (f k))))] sz (sx_Qi G (fun (r : Int32) (u : Unit) => r = sJ (weighN S f w 6)) (fun (u : Unit) => [(ad, .inl (G.2.1, 6, .inl (fun k => sJ (f k))))])) := by
  refine sx_start (by decide) rfl (fun p e s m below meth c A ls F hr hlk hnm hP hD hS hl => ?_)
  obtain ⟨hx, hb, hml, hown, hts, hK, hE, hA⟩ := id F
  have hown : s.vm.findClass RX7 = some m.cls := hown
  generalize hHe : s.heap = H at hP
  have hS : va_S A s.heap H [] := by rw [← hHe]; exact va_S.rf
  have hl : lv_has ls 5 [(0, .int (nI S)), (1, .ref ad), (2, .int (nI w))] := hl
  refine lv_iconst (v := 0) hx hb dX7_weigh_0 (by decide) ?_
  refine lv_istore_n (lv' := [(3, .int 0), (0, .int (nI S)), (1, .ref ad), (2, .int (nI w))]) hx hb dX7_weigh_1 rfl hl (by decide) rfl (fun ls hl => ?_)
  refine lv_iconst (v := 0) hx hb dX7_weigh_2 (by decide) ?_
  refine lv_istore (lv' := [(4, .int 0), (3, .int 0), (0, .int (nI S)), (1, .ref ad), (2, .int (nI w))]) hx hb dX7_weigh_3 hl (by decide) rfl (fun ls hl => ?_)
  refine sx_loop (nL := 5) (fun i => [(ad, .inl (G.2.1, 6, .inl (fun k => sJ (f k))))]) (fun i => [(3, .int (sJ (weighN S f w i))), (4, .int (nI i)), (0, .int (nI S)), (1, .ref ad), (2, .int (nI w))]) (fun i => True) 6 trivial hP hD hS (lv_sub hl [1, 0, 2, 3, 4] rfl) (fun i_1 hi_i_1 hI_i_1 H locs ls hP hD hS hl ih_i_1 => ?_)
  have hP : va_P (sx_D G) vwCl [(ad, .inl (G.2.1, 6, .inl (fun k => sJ (f k))))] H := hP
  have hD : va_D A [(ad, .inl (G.2.1, 6, .inl (fun k => sJ (f k))))] := hD
  have hl : lv_has ls 5 [(3, .int (sJ (weighN S f w i_1))), (4, .int (nI i_1)), (0, .int (nI S)), (1, .ref ad), (2, .int (nI w))] := hl
  have hI_i_1 : True := hI_i_1
  refine lv_iload hx hb dX7_weigh_5 (lv_at hl 1 rfl) ?_
  refine lv_aload_n hx hb dX7_weigh_7 rfl (lv_at hl 3 rfl) ?_
  refine va_alen (D := sx_D G) (tys := sx_tys G) (v := 6) hx hb hK hP 0 0 rfl rfl rfl dX7_weigh_8 ?_
  refine lv_icmp_ge (tgt := 40) hx hb dX7_weigh_9 (by decide) (fun c_2 => ?_) (fun c_2 => ?_)
  · have c_2 : 6 ≤ i_1 := by have h9 : (6 : Int) ≤ ((i_1 : Nat) : Int) := (sJ_le (a := (6 : Int)) (b := ((i_1 : Nat) : Int)) (by omega) (by omega) (by omega) (by omega)).mp c_2; omega
    refine lv_iload_n hx hb dX7_weigh_40 rfl (lv_at hl 0 rfl) ?_
    exact (sx_iret (v := sJ (weighN S f w i_1)) () hx hb hr rfl hlk hP hD hS (congrArg (fun z => sJ (weighN S f w z)) (by omega)) dX7_weigh_41 rfl rfl)
  · have c_2 : ¬ (6 ≤ i_1) := by have h9 : ¬ ((6 : Int) ≤ ((i_1 : Nat) : Int)) := fun h => c_2 ((sJ_le (a := (6 : Int)) (b := ((i_1 : Nat) : Int)) (by omega) (by omega) (by omega) (by omega)).mpr h); omega
    refine lv_iload_n hx hb dX7_weigh_12 rfl (lv_at hl 2 rfl) ?_
    refine lv_i2l (v := lN S) hx hb dX7_weigh_13 (nI_l (n := S) (by omega)) ?_
    refine lv_iload hx hb dX7_weigh_14 (lv_at hl 1 rfl) ?_
    have hcut : sx_cut [(ad, .inl (G.2.1, 6, .inl (fun k => sJ (f k))))] [] [(ad, .inl (G.2.1, 6, .inl (fun k => sJ (f k))))] [] [0] := ⟨rfl, rfl, by decide, by decide, by decide⟩
    refine sx_ki (sx_runS (As := [.long (lN S), .int (nI i_1)]) (rest := []) F (m_X7_has l G H.size S i_1 (show S < 2 ^ 62 from (by first | assumption | omega)) (show i_1 < 63 from (by first | assumption | omega))) mi_X7_has q498 q497 ⟨⟨Nat.le_of_ble_eq_true rfl, Nat.le_of_ble_eq_true rfl⟩, Nat.le_of_ble_eq_true rfl, Nat.le_of_ble_eq_true rfl⟩ hcut hP hD hS rfl hl.1 rfl (Nat.le_of_ble_eq_true rfl) dX7_weigh_16) hcut hP hD hS hA (fun r_5 u_3 H locs w_4 hP hD hS => ?_)
    have hP : va_P (sx_D G) vwCl [(ad, .inl (G.2.1, 6, .inl (fun k => sJ (f k))))] H := hP
    have hD : va_D A [(ad, .inl (G.2.1, 6, .inl (fun k => sJ (f k))))] := hD
    have w_4 : r_5 = sB (S.testBit i_1) := w_4
    subst w_4
    refine lv_if_eq (tgt := 34) hx hb dX7_weigh_19 (by decide) (fun c_6 => ?_) (fun c_6 => ?_)
    · have c_6 := sB_0 c_6
      refine lv_iinc (v := nI (i_1 + 1)) (lv' := [(4, .int (nI (i_1 + 1))), (3, .int (sJ (weighN S f w i_1))), (0, .int (nI S)), (1, .ref ad), (2, .int (nI w))]) hx hb dX7_weigh_34 hl (k := 1) rfl ((congrArg (fun t => nI i_1 + t) (show Int32.ofInt 1 = nI 1 by decide +kernel)).trans (nI_add i_1 1)) (by decide) rfl (fun ls hl => ?_)
      refine lv_goto (tgt := 5) hx hb dX7_weigh_37 (by decide) ?_
      have e9_0 : weighN S f w (i_1 + 1) = (weighN S f w i_1) := (by rw [weighN_s, if_neg (by rw [c_6]; decide)]; omega)
      have hl : lv_has ls 5 [(3, .int (sJ (weighN S f w (i_1 + 1)))), (4, .int (nI (i_1 + 1))), (0, .int (nI S)), (1, .ref ad), (2, .int (nI w))] := by rw [e9_0]; exact lv_sub hl [1, 0, 2, 3, 4] rfl
      exact ih_i_1 _ _ _ (by omega) trivial hP hD hS hl
    · have c_6 := sB_1 c_6
      refine lv_iload_n hx hb dX7_weigh_22 rfl (lv_at hl 0 rfl) ?_
      refine lv_iload hx hb dX7_weigh_23 (lv_at hl 1 rfl) ?_
      refine lv_iload_n hx hb dX7_weigh_25 rfl (lv_at hl 4 rfl) ?_
      refine lv_iadd hx hb dX7_weigh_26 ?_
      refine sx_topI (nI_add i_1 w) ?_
      refine lv_aload_n hx hb dX7_weigh_27 rfl (lv_at hl 3 rfl) ?_
      refine lv_iload hx hb dX7_weigh_28 (lv_at hl 1 rfl) ?_
      refine sx_ild (X := i_1) hx hb hK hP 0 rfl (by omega) rfl dX7_weigh_30 ?_
      refine lv_imul hx hb dX7_weigh_31 ?_
      refine sx_topI (sJ_mul ((i_1 + w : Nat) : Int) (f i_1)) ?_
      refine lv_iadd hx hb dX7_weigh_32 ?_
      refine sx_topI (sJ_add (weighN S f w i_1) (((i_1 + w : Nat) : Int) * (f i_1))) ?_
      refine lv_istore_n (lv' := [(3, .int (sJ ((weighN S f w i_1) + (((i_1 + w : Nat) : Int) * (f i_1))))), (4, .int (nI i_1)), (0, .int (nI S)), (1, .ref ad), (2, .int (nI w))]) hx hb dX7_weigh_33 rfl hl (by decide) rfl (fun ls hl => ?_)
      refine lv_iinc (v := nI (i_1 + 1)) (lv' := [(4, .int (nI (i_1 + 1))), (3, .int (sJ ((weighN S f w i_1) + (((i_1 + w : Nat) : Int) * (f i_1))))), (0, .int (nI S)), (1, .ref ad), (2, .int (nI w))]) hx hb dX7_weigh_34 hl (k := 1) rfl ((congrArg (fun t => nI i_1 + t) (show Int32.ofInt 1 = nI 1 by decide +kernel)).trans (nI_add i_1 1)) (by decide) rfl (fun ls hl => ?_)
      refine lv_goto (tgt := 5) hx hb dX7_weigh_37 (by decide) ?_
      have e9_0 : weighN S f w (i_1 + 1) = ((weighN S f w i_1) + (((i_1 + w : Nat) : Int) * (f i_1))) := (by rw [weighN_s, if_pos c_6])
      have hl : lv_has ls 5 [(3, .int (sJ (weighN S f w (i_1 + 1)))), (4, .int (nI (i_1 + 1))), (0, .int (nI S)), (1, .ref ad), (2, .int (nI w))] := by rw [e9_0]; exact lv_sub hl [1, 0, 2, 3, 4] rfl
      exact ih_i_1 _ _ _ (by omega) trivial hP hD hS hl
