/-! pure words of the answers; the throws' words -/
def zb (b : Bool) : Int32 := if b then 1 else 0
def zw (lo hi n : Int32) : Bool := decide (lo ≤ n ∧ n ≤ hi)
def z1 (a : Bool) : Int32 := if a then 0 else 1
def z2 (a b : Bool) : Int32 := if a then (if b then 0 else 2) else 1
def ux (l : List Nat) (k : Nat) : Nat := l.getD k 0
theorem zw_f1 {lo hi n : Int32} (h : n < lo) : (0 : Int32) = zb (zw lo hi n) := by
  have : zw lo hi n = false := decide_eq_false (fun q => absurd h (Int32.not_lt.mpr q.1))
  rw [this]; rfl
theorem zw_f2 {lo hi n : Int32} (h : hi < n) : (0 : Int32) = zb (zw lo hi n) := by
  have : zw lo hi n = false := decide_eq_false (fun q => absurd h (Int32.not_lt.mpr q.2))
  rw [this]; rfl
theorem zw_t {lo hi n : Int32} (h1 : ¬ n < lo) (h2 : ¬ hi < n) : (1 : Int32) = zb (zw lo hi n) := by
  have : zw lo hi n = true := decide_eq_true ⟨Int32.not_lt.mp h1, Int32.not_lt.mp h2⟩
  rw [this]; rfl
theorem zb_t {r : Int32} {b : Bool} (h : r = zb b) (c : ¬ r = 0) : b = true := by
  cases b
  · exact absurd h c
  · rfl
theorem zb_f {r : Int32} {b : Bool} (h : r = zb b) (c : r = 0) : b = false := by
  cases b
  · rfl
  · rw [h] at c; exact absurd c (by decide)
theorem zb_nar (b : Bool) : narrow .boolean (.int (zb b)) = .int (zb b) := by cases b <;> rfl
theorem zb_narr {r : Int32} {b : Bool} (h : r = zb b) : narrow .boolean (.int r) = .int r := by rw [h]; exact zb_nar b
theorem zw_vin {hi i : Int32} {N : Nat} (h : zw 0 hi i = true) (hN : hi.toInt < N) : vp_in i N := by
  have h1 := of_decide_eq_true h
  have h2 := Int32.le_iff_toInt_le.mp h1.1
  have h3 := Int32.le_iff_toInt_le.mp h1.2
  have h4 : (0 : Int32).toInt = 0 := by decide
  exact vp_in_iff.mpr ⟨by omega, by omega⟩
theorem zw_none (i : Int32) : zw 0 (0 - 1) i = false := by
  refine decide_eq_false (fun h => ?_)
  have h2 := Int32.le_iff_toInt_le.mp h.1
  have h3 := Int32.le_iff_toInt_le.mp h.2
  have h4 : (0 : Int32).toInt = 0 := by decide
  have h5 : ((0 : Int32) - 1).toInt = -1 := by decide
  omega
theorem ta_IndexOutOfBoundsException : ∀ w ∈ vx_atS RX7 254 "java/lang/IndexOutOfBoundsException" ["java/lang/RuntimeException", "java/lang/Exception"], w ∈ lw_all := by
  have h1 : ∀ w ∈ vx_atS RX7 254 "java/lang/IndexOutOfBoundsException" ["java/lang/RuntimeException", "java/lang/Exception"], w ∈ lw_tbl := by decide +kernel
  have h2 : (vx_atS RX7 254 "java/lang/IndexOutOfBoundsException" ["java/lang/RuntimeException", "java/lang/Exception"]).all sx_pay = true := by decide +kernel
  exact fun w h => List.mem_filter.mpr ⟨h1 w h, List.all_eq_true.mp h2 w h⟩
theorem ta_IllegalArgumentException : ∀ w ∈ vx_atS RX7 261 "java/lang/IllegalArgumentException" ["java/lang/RuntimeException", "java/lang/Exception"], w ∈ lw_all := by
  have h1 : ∀ w ∈ vx_atS RX7 261 "java/lang/IllegalArgumentException" ["java/lang/RuntimeException", "java/lang/Exception"], w ∈ lw_tbl := by decide +kernel
  have h2 : (vx_atS RX7 261 "java/lang/IllegalArgumentException" ["java/lang/RuntimeException", "java/lang/Exception"]).all sx_pay = true := by decide +kernel
  exact fun w h => List.mem_filter.mpr ⟨h1 w h, List.all_eq_true.mp h2 w h⟩
theorem ta_IllegalStateException : ∀ w ∈ vx_atS RX7 266 "java/lang/IllegalStateException" ["java/lang/RuntimeException", "java/lang/Exception"], w ∈ lw_all := by
  have h1 : ∀ w ∈ vx_atS RX7 266 "java/lang/IllegalStateException" ["java/lang/RuntimeException", "java/lang/Exception"], w ∈ lw_tbl := by decide +kernel
  have h2 : (vx_atS RX7 266 "java/lang/IllegalStateException" ["java/lang/RuntimeException", "java/lang/Exception"]).all sx_pay = true := by decide +kernel
  exact fun w h => List.mem_filter.mpr ⟨h1 w h, List.all_eq_true.mp h2 w h⟩
set_option maxHeartbeats 4000000 in
set_option maxRecDepth 100000 in
theorem m_X7_isWithin (l : Launch) (G : sx_G) (sz : Nat) (n : Int32) (lo : Int32) (hi : Int32) : sx_Met l yX7_isWithin cX7_isWithin 3 (some .boolean) 0 0 0 0 G [.int n, .int lo, .int hi] [] sz (sx_Qi G (fun (r : Int32) (u : Unit) => r = zb (zw lo hi n)) (fun (u : Unit) => [])) := by
  refine sx_start (by decide) rfl (fun p e s m below meth c A ls F hr hlk hnm hP hD hS hl => ?_)
  obtain ⟨hx, hb, hml, hown, hts, hK, hE, hA⟩ := id F
  have hown : s.vm.findClass RX7 = some m.cls := hown
  generalize hHe : s.heap = H at hP
  have hS : va_S A s.heap H [] := by rw [← hHe]; exact va_S.rf
  have hl : lv_has ls 3 [(0, .int n), (1, .int lo), (2, .int hi)] := hl
  refine lv_iload_n hx hb dX7_isWithin_0 rfl (lv_at hl 0 rfl) ?_
  refine lv_iload_n hx hb dX7_isWithin_1 rfl (lv_at hl 1 rfl) ?_
  refine lv_icmp_lt (tgt := 14) hx hb dX7_isWithin_2 (by decide) (fun c_1 => ?_) (fun c_1 => ?_)
  · refine lv_iconst (v := 0) hx hb dX7_isWithin_14 (by decide) ?_
    exact (sx_iret (v := 0) () hx hb hr (by decide) hlk hP hD hS (zw_f1 c_1) dX7_isWithin_15 rfl rfl)
  · refine lv_iload_n hx hb dX7_isWithin_5 rfl (lv_at hl 0 rfl) ?_
    refine lv_iload_n hx hb dX7_isWithin_6 rfl (lv_at hl 2 rfl) ?_
    refine lv_icmp_gt (tgt := 14) hx hb dX7_isWithin_7 (by decide) (fun c_2 => ?_) (fun c_2 => ?_)
    · refine lv_iconst (v := 0) hx hb dX7_isWithin_14 (by decide) ?_
      exact (sx_iret (v := 0) () hx hb hr (by decide) hlk hP hD hS (zw_f2 c_2) dX7_isWithin_15 rfl rfl)
    · refine lv_iconst (v := 1) hx hb dX7_isWithin_10 (by decide) ?_
      refine lv_goto (tgt := 15) hx hb dX7_isWithin_11 (by decide) ?_
      exact (sx_iret (v := 1) () hx hb hr (by decide) hlk hP hD hS (zw_t c_1 c_2) dX7_isWithin_15 rfl rfl)
set_option maxHeartbeats 4000000 in
set_option maxRecDepth 100000 in
theorem m_X7_isIndex (l : Launch) (G : sx_G) (sz : Nat) (i : Int32) (cnt : Int32) : sx_Met l yX7_isIndex cX7_isIndex 2 (some .boolean) 1 22 0 0 G [.int i, .int cnt] [] sz (sx_Qi G (fun (r : Int32) (u : Unit) => r = zb (zw 0 (cnt - 1) i)) (fun (u : Unit) => [])) := by
  refine sx_start (by decide) rfl (fun p e s m below meth c A ls F hr hlk hnm hP hD hS hl => ?_)
  obtain ⟨hx, hb, hml, hown, hts, hK, hE, hA⟩ := id F
  have hown : s.vm.findClass RX7 = some m.cls := hown
  generalize hHe : s.heap = H at hP
  have hS : va_S A s.heap H [] := by rw [← hHe]; exact va_S.rf
  have hl : lv_has ls 2 [(0, .int i), (1, .int cnt)] := hl
  refine lv_iload_n hx hb dX7_isIndex_0 rfl (lv_at hl 0 rfl) ?_
  refine lv_iconst (v := 0) hx hb dX7_isIndex_1 (by decide) ?_
  refine lv_iload_n hx hb dX7_isIndex_2 rfl (lv_at hl 1 rfl) ?_
  refine lv_iconst (v := 1) hx hb dX7_isIndex_3 (by decide) ?_
  refine lv_isub hx hb dX7_isIndex_4 ?_
  refine lv_topi (fun x_1 ex_1 => ?_)
  have hcut : sx_cut [] [] [] [] [] := ⟨rfl, rfl, by decide, by decide, by decide⟩
  refine sx_ki (sx_runS (As := [.int i, .int 0, .int x_1]) (rest := []) F (m_X7_isWithin l G H.size i 0 x_1) mi_X7_isWithin q368 q367 ⟨⟨Nat.le_of_ble_eq_true rfl, Nat.le_of_ble_eq_true rfl⟩, Nat.le_of_ble_eq_true rfl, Nat.le_of_ble_eq_true rfl⟩ hcut hP hD hS rfl hl.1 rfl (Nat.le_of_ble_eq_true rfl) dX7_isIndex_5) hcut hP hD hS hA (fun r_4 u_2 H locs w_3 hP hD hS => ?_)
  have hP : va_P (sx_D G) vwCl [] H := hP
  have hD : va_D A [] := hD
  have w_3 : r_4 = zb (zw 0 x_1 i) := w_3
  exact (sx_iret (v := r_4) () hx hb hr (zb_narr w_3) hlk hP hD hS (by rw [w_3, ex_1]) dX7_isIndex_8 rfl rfl)
set_option maxHeartbeats 4000000 in
set_option maxRecDepth 100000 in
theorem m_X7_needIndex (l : Launch) (hfl : l.stackTraces = false) (G : sx_G) (sz : Nat) (i : Int32) (cnt : Int32) : sx_MetX l yX7_needIndex cX7_needIndex 2 none 6 82 1 6 G [.int i, .int cnt] [] sz (sx_Qv G (fun (u : Unit) => zw 0 (cnt - 1) i = true) (fun (u : Unit) => [])) (fun E => E = "java/lang/IndexOutOfBoundsException" ∧ zw 0 (cnt - 1) i = false) := by
  refine sx_startX (by decide) rfl (fun p e s m below meth c A ls F hr hlk hnm hex hP hD hS hl => ?_)
  obtain ⟨hx, hb, hml, hown, hts, hK, hE, hA⟩ := id F
  have hown : s.vm.findClass RX7 = some m.cls := hown
  generalize hHe : s.heap = H at hP
  have hS : va_S A s.heap H [] := by rw [← hHe]; exact va_S.rf
  have hl : lv_has ls 2 [(0, .int i), (1, .int cnt)] := hl
  refine lv_iload_n hx hb dX7_needIndex_0 rfl (lv_at hl 0 rfl) ?_
  refine lv_iload_n hx hb dX7_needIndex_1 rfl (lv_at hl 1 rfl) ?_
  have hcut : sx_cut [] [] [] [] [] := ⟨rfl, rfl, by decide, by decide, by decide⟩
  refine sx_ki (sx_runS (As := [.int i, .int cnt]) (rest := []) F (m_X7_isIndex l G H.size i cnt) mi_X7_isIndex q457 q456 ⟨⟨Nat.le_of_ble_eq_true rfl, Nat.le_of_ble_eq_true rfl⟩, Nat.le_of_ble_eq_true rfl, Nat.le_of_ble_eq_true rfl⟩ hcut hP hD hS rfl hl.1 rfl (Nat.le_of_ble_eq_true rfl) dX7_needIndex_2) hcut hP hD hS hA (fun r_3 u_1 H locs w_2 hP hD hS => ?_)
  have hP : va_P (sx_D G) vwCl [] H := hP
  have hD : va_D A [] := hD
  have w_2 : r_3 = zb (zw 0 (cnt - 1) i) := w_2
  refine lv_if_ne (tgt := 18) hx hb dX7_needIndex_5 (by decide) (fun c_4 => ?_) (fun c_4 => ?_)
  · exact vx_ret (sx_vret () hx hb hr hlk hP hD hS (zb_t w_2 c_4) dX7_needIndex_18 rfl rfl)
  · refine vx_throwS (cls := "java/lang/IndexOutOfBoundsException") (names := ["java/lang/RuntimeException", "java/lang/Exception"]) (A := A) hx hb hfl hown (by decide) (by decide) (hts _ q459) (hts _ q24) hE.1 (fun w h => hts w (ta_IndexOutOfBoundsException w h)) (by decide +kernel) hE.2.2.2.1 hE.2.2.2.2.1 hS (hl.1.trans hml.symm) dX7_needIndex_8 dX7_needIndex_11 dX7_needIndex_12 dX7_needIndex_14 dX7_needIndex_17 (fun x hx => (hex x hx).elim) (Nat.lt_of_lt_of_le (Nat.lt_succ_self _) (Nat.le_of_ble_eq_true rfl)) (Nat.le_of_ble_eq_true rfl) (Nat.le_of_ble_eq_true rfl) (Nat.le_of_ble_eq_true rfl) hlk (fun t hvm hz hk => ⟨(), trivial, ⟨rfl, zb_f w_2 c_4⟩, Nat.le_trans hS.1 hz, fun q h1 h2 => (hk q (Nat.lt_of_lt_of_le h1 hS.1)).trans (hS.2.1 q h1 h2)⟩) hS.2.2 (Nat.le_of_ble_eq_true rfl) (Nat.le_of_ble_eq_true rfl)
set_option maxHeartbeats 4000000 in
set_option maxRecDepth 100000 in
theorem m_X7_needArgument (l : Launch) (hfl : l.stackTraces = false) (G : sx_G) (sz : Nat) (b : Int32) : sx_MetX l yX7_needArgument cX7_needArgument 1 none 6 82 1 6 G [.int b] [] sz (sx_Qv G (fun (u : Unit) => ¬ b = 0) (fun (u : Unit) => [])) (fun E => E = "java/lang/IllegalArgumentException" ∧ b = 0) := by
  refine sx_startX (by decide) rfl (fun p e s m below meth c A ls F hr hlk hnm hex hP hD hS hl => ?_)
  obtain ⟨hx, hb, hml, hown, hts, hK, hE, hA⟩ := id F
  have hown : s.vm.findClass RX7 = some m.cls := hown
  generalize hHe : s.heap = H at hP
  have hS : va_S A s.heap H [] := by rw [← hHe]; exact va_S.rf
  have hl : lv_has ls 1 [(0, .int b)] := hl
  refine lv_iload_n hx hb dX7_needArgument_0 rfl (lv_at hl 0 rfl) ?_
  refine lv_if_ne (tgt := 15) hx hb dX7_needArgument_1 (by decide) (fun c_1 => ?_) (fun c_1 => ?_)
  · exact vx_ret (sx_vret () hx hb hr hlk hP hD hS c_1 dX7_needArgument_15 rfl rfl)
  · refine vx_throwSW (cls := "java/lang/IllegalArgumentException") (names := ["java/lang/RuntimeException", "java/lang/Exception"]) (A := A) hx hb hfl hown (by decide) (by decide) (hts _ q373) (hts _ q17) hE.2.1 (fun w h => hts w (ta_IllegalArgumentException w h)) (by decide +kernel) hE.2.2.2.1 hE.2.2.2.2.1 hS (hl.1.trans hml.symm) dX7_needArgument_4 dX7_needArgument_7 dX7_needArgument_8 dX7_needArgument_11 dX7_needArgument_14 (fun x hx => (hex x hx).elim) (Nat.lt_of_lt_of_le (Nat.lt_succ_self _) (Nat.le_of_ble_eq_true rfl)) (Nat.le_of_ble_eq_true rfl) (Nat.le_of_ble_eq_true rfl) (Nat.le_of_ble_eq_true rfl) hlk (fun t hvm hz hk => ⟨(), trivial, ⟨rfl, c_1⟩, Nat.le_trans hS.1 hz, fun q h1 h2 => (hk q (Nat.lt_of_lt_of_le h1 hS.1)).trans (hS.2.1 q h1 h2)⟩) hS.2.2 (Nat.le_of_ble_eq_true rfl) (Nat.le_of_ble_eq_true rfl)
set_option maxHeartbeats 4000000 in
set_option maxRecDepth 100000 in
theorem m_X7_needState (l : Launch) (hfl : l.stackTraces = false) (G : sx_G) (sz : Nat) (b : Int32) : sx_MetX l yX7_needState cX7_needState 1 none 6 82 1 6 G [.int b] [] sz (sx_Qv G (fun (u : Unit) => ¬ b = 0) (fun (u : Unit) => [])) (fun E => E = "java/lang/IllegalStateException" ∧ b = 0) := by
  refine sx_startX (by decide) rfl (fun p e s m below meth c A ls F hr hlk hnm hex hP hD hS hl => ?_)
  obtain ⟨hx, hb, hml, hown, hts, hK, hE, hA⟩ := id F
  have hown : s.vm.findClass RX7 = some m.cls := hown
  generalize hHe : s.heap = H at hP
  have hS : va_S A s.heap H [] := by rw [← hHe]; exact va_S.rf
  have hl : lv_has ls 1 [(0, .int b)] := hl
  refine lv_iload_n hx hb dX7_needState_0 rfl (lv_at hl 0 rfl) ?_
  refine lv_if_ne (tgt := 15) hx hb dX7_needState_1 (by decide) (fun c_1 => ?_) (fun c_1 => ?_)
  · exact vx_ret (sx_vret () hx hb hr hlk hP hD hS c_1 dX7_needState_15 rfl rfl)
  · refine vx_throwSW (cls := "java/lang/IllegalStateException") (names := ["java/lang/RuntimeException", "java/lang/Exception"]) (A := A) hx hb hfl hown (by decide) (by decide) (hts _ q678) (hts _ q18) hE.2.2.1 (fun w h => hts w (ta_IllegalStateException w h)) (by decide +kernel) hE.2.2.2.1 hE.2.2.2.2.1 hS (hl.1.trans hml.symm) dX7_needState_4 dX7_needState_7 dX7_needState_8 dX7_needState_11 dX7_needState_14 (fun x hx => (hex x hx).elim) (Nat.lt_of_lt_of_le (Nat.lt_succ_self _) (Nat.le_of_ble_eq_true rfl)) (Nat.le_of_ble_eq_true rfl) (Nat.le_of_ble_eq_true rfl) (Nat.le_of_ble_eq_true rfl) hlk (fun t hvm hz hk => ⟨(), trivial, ⟨rfl, c_1⟩, Nat.le_trans hS.1 hz, fun q h1 h2 => (hk q (Nat.lt_of_lt_of_le h1 hS.1)).trans (hS.2.1 q h1 h2)⟩) hS.2.2 (Nat.le_of_ble_eq_true rfl) (Nat.le_of_ble_eq_true rfl)
set_option maxHeartbeats 4000000 in
set_option maxRecDepth 100000 in
theorem m_X7_isPartOf (l : Launch) (G : sx_G) (sz : Nat) (a : Int32) (w : Int32) : sx_Met l yX7_isPartOf cX7_isPartOf 2 (some .boolean) 0 0 0 0 G [.int a, .int w] [] sz (sx_Qi G (fun (r : Int32) (u : Unit) => r = zb (decide (a &&& (w ^^^ (-1)) = 0))) (fun (u : Unit) => [])) := by
  refine sx_start (by decide) rfl (fun p e s m below meth c A ls F hr hlk hnm hP hD hS hl => ?_)
  obtain ⟨hx, hb, hml, hown, hts, hK, hE, hA⟩ := id F
  have hown : s.vm.findClass RX7 = some m.cls := hown
  generalize hHe : s.heap = H at hP
  have hS : va_S A s.heap H [] := by rw [← hHe]; exact va_S.rf
  have hl : lv_has ls 2 [(0, .int a), (1, .int w)] := hl
  refine lv_iload_n hx hb dX7_isPartOf_0 rfl (lv_at hl 0 rfl) ?_
  refine lv_iload_n hx hb dX7_isPartOf_1 rfl (lv_at hl 1 rfl) ?_
  refine lv_iconst (v := (-1)) hx hb dX7_isPartOf_2 (by decide) ?_
  refine lv_ixor hx hb dX7_isPartOf_3 ?_
  refine lv_topi (fun x_1 ex_1 => ?_)
  refine lv_iand hx hb dX7_isPartOf_4 ?_
  refine lv_topi (fun x_2 ex_2 => ?_)
  refine lv_if_ne (tgt := 12) hx hb dX7_isPartOf_5 (by decide) (fun c_3 => ?_) (fun c_3 => ?_)
  · refine lv_iconst (v := 0) hx hb dX7_isPartOf_12 (by decide) ?_
    exact (sx_iret (v := 0) () hx hb hr (by decide) hlk hP hD hS (by rw [ex_2, ex_1] at c_3; rw [decide_eq_false c_3]; rfl) dX7_isPartOf_13 rfl rfl)
  · refine lv_iconst (v := 1) hx hb dX7_isPartOf_8 (by decide) ?_
    refine lv_goto (tgt := 13) hx hb dX7_isPartOf_9 (by decide) ?_
    exact (sx_iret (v := 1) () hx hb hr (by decide) hlk hP hD hS (by rw [ex_2, ex_1] at c_3; rw [decide_eq_true c_3]; rfl) dX7_isPartOf_13 rfl rfl)
