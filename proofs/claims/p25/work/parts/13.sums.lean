/-! pure words of the cache's sums -/
def usedN (tm st sz : Nat → Nat) (o : Nat) : Nat → Nat
  | 0 => 0
  | n + 1 => usedN tm st sz o n + if tm n = o ∧ st n = 0 then sz n else 0
theorem usedN_s (tm st sz : Nat → Nat) (o n : Nat) : usedN tm st sz o (n + 1) = usedN tm st sz o n + if tm n = o ∧ st n = 0 then sz n else 0 := rfl
def keptN (tm st : Nat → Nat) (o : Nat) : Nat → Nat
  | 0 => 0
  | n + 1 => keptN tm st o n + if tm n = o ∧ st n = 0 then 1 else 0
theorem keptN_s (tm st : Nat → Nat) (o n : Nat) : keptN tm st o (n + 1) = keptN tm st o n + if tm n = o ∧ st n = 0 then 1 else 0 := rfl
def ktaN (st ac : Nat → Nat) (S : Nat) : Nat → Nat
  | 0 => 0
  | n + 1 => ktaN st ac S n + if st n = 0 ∧ S.testBit (ac n) = true then 1 else 0
theorem ktaN_s (st ac : Nat → Nat) (S n : Nat) : ktaN st ac S (n + 1) = ktaN st ac S n + if st n = 0 ∧ S.testBit (ac n) = true then 1 else 0 := rfl
def poiN (st wo : Nat → Nat) (w : Nat) : Nat → Nat
  | 0 => 0
  | n + 1 => poiN st wo w n + if st n = 2 ∧ wo n = w then 1 else 0
theorem poiN_s (st wo : Nat → Nat) (w n : Nat) : poiN st wo w (n + 1) = poiN st wo w n + if st n = 2 ∧ wo n = w then 1 else 0 := rfl
def insN (st : Nat → Nat) (w : Nat) : Nat → Nat
  | 0 => 0
  | n + 1 => insN st w n + if st n = w then 1 else 0
theorem insN_s (st : Nat → Nat) (w n : Nat) : insN st w (n + 1) = insN st w n + if st n = w then 1 else 0 := rfl
def sumN (f : Nat → Nat) : Nat → Nat
  | 0 => 0
  | n + 1 => sumN f n + f n
theorem sumN_s (f : Nat → Nat) (n : Nat) : sumN f (n + 1) = sumN f n + f n := rfl
def worN (co hi sz : Nat) : Nat := if sz < 1 then 0 else co * (hi + 1) * 10 / sz
theorem worN_b {a b : Nat} (h1 : a ≤ 50) (h2 : b + 1 ≤ 100001) : a * (b + 1) * 10 < 2 ^ 31 := by
  have := Nat.mul_le_mul h1 h2
  omega
set_option maxHeartbeats 4000000 in
set_option maxRecDepth 100000 in
theorem m_X1_isFull (l : Launch) (G : sx_G) (sz : Nat) (caq : Nat) (caN : Nat) (caW : Nat) (ca2 : Nat) (ca3 : Nat) (ca4 : Nat) (ca5 : Nat) (ca6 : Nat) (ca7 : Nat) (ca8 : Nat) (ca9 : Nat) (ca10 : Nat) (ca11 : Nat) (ca12 : Nat) (ca13 : Nat) (ca14 : Nat) (h_n : caN ≤ 60) : sx_Met l yX1_isFull cX1_isFull 1 (some .boolean) 0 0 0 0 G [.ref caq] [(caq, .inr (1, [.int (nI caN), .int (nI caW), .ref ca2, .ref ca3, .ref ca4, .ref ca5, .ref ca6, .ref ca7, .ref ca8, .ref ca9, .ref ca10, .ref ca11, .ref ca12, .ref ca13, .ref ca14]))] sz (sx_Qi G (fun (r : Int32) (u : Unit) => r = sB (decide (60 ≤ caN))) (fun (u : Unit) => [(caq, .inr (1, [.int (nI caN), .int (nI caW), .ref ca2, .ref ca3, .ref ca4, .ref ca5, .ref ca6, .ref ca7, .ref ca8, .ref ca9, .ref ca10, .ref ca11, .ref ca12, .ref ca13, .ref ca14]))])) := by
  refine sx_start (by decide) rfl (fun p e s m below meth c A ls F hr hlk hnm hP hD hS hl => ?_)
  obtain ⟨hx, hb, hml, hown, hts, hK, hE, hA⟩ := id F
  have hown : s.vm.findClass RX1 = some m.cls := hown
  generalize hHe : s.heap = H at hP
  have hS : va_S A s.heap H [] := by rw [← hHe]; exact va_S.rf
  have hl : lv_has ls 1 [(0, .ref caq)] := hl
  refine lv_aload_n hx hb dX1_isFull_0 rfl (lv_at hl 0 rfl) ?_
  refine va_get (D := sx_D G) (ci := 1) (v := .int (nI caN)) (C := RX1) (T := TX1) (N := 15) hx hb hts inX1 hown hK hP 0 rfl rfl 0 (by decide) (hts _ q163) (fun _ h9 => h9) rfl dX1_isFull_1 ?_
  refine lv_bipush (v := 60) hx hb dX1_isFull_4 (by decide) ?_
  refine lv_icmp_lt (tgt := 13) hx hb dX1_isFull_6 (by decide) (fun c_1 => ?_) (fun c_1 => ?_)
  · have c_1 : caN < 60 := by have h9 : ((caN : Nat) : Int) < (60 : Int) := (sJ_lt (a := ((caN : Nat) : Int)) (b := (60 : Int)) (by omega) (by omega) (by omega) (by omega)).mp c_1; omega
    refine lv_iconst (v := 0) hx hb dX1_isFull_13 (by decide) ?_
    exact (sx_iret (v := 0) () hx hb hr (by decide) hlk hP hD hS (sB_n (by omega)) dX1_isFull_14 rfl rfl)
  · have c_1 : ¬ (caN < 60) := by have h9 : ¬ (((caN : Nat) : Int) < (60 : Int)) := fun h => c_1 ((sJ_lt (a := ((caN : Nat) : Int)) (b := (60 : Int)) (by omega) (by omega) (by omega) (by omega)).mpr h); omega
    refine lv_iconst (v := 1) hx hb dX1_isFull_9 (by decide) ?_
    refine lv_goto (tgt := 14) hx hb dX1_isFull_10 (by decide) ?_
    exact (sx_iret (v := 1) () hx hb hr (by decide) hlk hP hD hS (sB_p (by omega)) dX1_isFull_14 rfl rfl)
set_option maxHeartbeats 4000000 in
set_option maxRecDepth 100000 in
theorem m_X1_isKeptBy (l : Launch) (G : sx_G) (sz : Nat) (caq : Nat) (caN : Nat) (caW : Nat) (ca2 : Nat) (ca3 : Nat) (ca4 : Nat) (ca5 : Nat) (ca6 : Nat) (ca7 : Nat) (ca8 : Nat) (ca9 : Nat) (ca10 : Nat) (ca11 : Nat) (ca12 : Nat) (ca13 : Nat) (ca14 : Nat) (xTm : Nat → Nat) (xSt : Nat → Nat) (ei : Nat) (ow : Nat) (h_tm : ∀ k, xTm k < 4) (h_st : ∀ k, xSt k ≤ 2) (h_e : ei < 60) (h_o : ow < 4) : sx_Met l yX1_isKeptBy cX1_isKeptBy 3 (some .boolean) 0 0 0 0 G [.ref caq, .int (nI ei), .int (nI ow)] [(caq, .inr (1, [.int (nI caN), .int (nI caW), .ref ca2, .ref ca3, .ref ca4, .ref ca5, .ref ca6, .ref ca7, .ref ca8, .ref ca9, .ref ca10, .ref ca11, .ref ca12, .ref ca13, .ref ca14])), (ca4, .inl (G.2.1, 60, .inl (fun k => nI (xTm k)))), (ca7, .inl (G.2.1, 60, .inl (fun k => nI (xSt k))))] sz (sx_Qi G (fun (r : Int32) (u : Unit) => r = sB (decide (xTm ei = ow ∧ xSt ei = 0))) (fun (u : Unit) => [(caq, .inr (1, [.int (nI caN), .int (nI caW), .ref ca2, .ref ca3, .ref ca4, .ref ca5, .ref ca6, .ref ca7, .ref ca8, .ref ca9, .ref ca10, .ref ca11, .ref ca12, .ref ca13, .ref ca14])), (ca4, .inl (G.2.1, 60, .inl (fun k => nI (xTm k)))), (ca7, .inl (G.2.1, 60, .inl (fun k => nI (xSt k))))])) := by
  refine sx_start (by decide) rfl (fun p e s m below meth c A ls F hr hlk hnm hP hD hS hl => ?_)
  obtain ⟨hx, hb, hml, hown, hts, hK, hE, hA⟩ := id F
  have hown : s.vm.findClass RX1 = some m.cls := hown
  generalize hHe : s.heap = H at hP
  have hS : va_S A s.heap H [] := by rw [← hHe]; exact va_S.rf
  have hl : lv_has ls 3 [(0, .ref caq), (1, .int (nI ei)), (2, .int (nI ow))] := hl
  refine lv_aload_n hx hb dX1_isKeptBy_0 rfl (lv_at hl 0 rfl) ?_
  refine va_get (D := sx_D G) (ci := 1) (v := .ref ca4) (C := RX1) (T := TX1) (N := 15) hx hb hts inX1 hown hK hP 0 rfl rfl 4 (by decide) (hts _ q175) (fun _ h9 => h9) rfl dX1_isKeptBy_1 ?_
  refine lv_iload_n hx hb dX1_isKeptBy_4 rfl (lv_at hl 1 rfl) ?_
  refine sx_ild (X := ei) hx hb hK hP 1 rfl (by omega) rfl dX1_isKeptBy_5 ?_
  have b_1 := h_tm ei
  refine lv_iload_n hx hb dX1_isKeptBy_6 rfl (lv_at hl 2 rfl) ?_
  refine lv_icmp_ne (tgt := 23) hx hb dX1_isKeptBy_7 (by decide) (fun c_2 => ?_) (fun c_2 => ?_)
  · have c_2 : ¬ ((xTm ei) = ow) := by have h9 : ¬ (((xTm ei : Nat) : Int) = ((ow : Nat) : Int)) := fun h => c_2 ((sJ_eq (a := ((xTm ei : Nat) : Int)) (b := ((ow : Nat) : Int)) (by omega) (by omega) (by omega) (by omega)).mpr h); omega
    refine lv_iconst (v := 0) hx hb dX1_isKeptBy_23 (by decide) ?_
    exact (sx_iret (v := 0) () hx hb hr (by decide) hlk hP hD hS (sB_n (by omega)) dX1_isKeptBy_24 rfl rfl)
  · have c_2 : (xTm ei) = ow := by have h9 : ((xTm ei : Nat) : Int) = ((ow : Nat) : Int) := (sJ_eq (a := ((xTm ei : Nat) : Int)) (b := ((ow : Nat) : Int)) (by omega) (by omega) (by omega) (by omega)).mp c_2; omega
    refine lv_aload_n hx hb dX1_isKeptBy_10 rfl (lv_at hl 0 rfl) ?_
    refine va_get (D := sx_D G) (ci := 1) (v := .ref ca7) (C := RX1) (T := TX1) (N := 15) hx hb hts inX1 hown hK hP 0 rfl rfl 7 (by decide) (hts _ q185) (fun _ h9 => h9) rfl dX1_isKeptBy_11 ?_
    refine lv_iload_n hx hb dX1_isKeptBy_14 rfl (lv_at hl 1 rfl) ?_
    refine sx_ild (X := ei) hx hb hK hP 2 rfl (by omega) rfl dX1_isKeptBy_15 ?_
    have b_3 := h_st ei
    refine lv_if_ne (tgt := 23) hx hb dX1_isKeptBy_16 (by decide) (fun c_4 => ?_) (fun c_4 => ?_)
    · have c_4 : ¬ ((xSt ei) = 0) := by have h9 : ¬ (((xSt ei : Nat) : Int) = (0 : Int)) := fun h => c_4 ((sJ_eq (a := ((xSt ei : Nat) : Int)) (b := (0 : Int)) (by omega) (by omega) (by omega) (by omega)).mpr h); omega
      refine lv_iconst (v := 0) hx hb dX1_isKeptBy_23 (by decide) ?_
      exact (sx_iret (v := 0) () hx hb hr (by decide) hlk hP hD hS (sB_n (by omega)) dX1_isKeptBy_24 rfl rfl)
    · have c_4 : (xSt ei) = 0 := by have h9 : ((xSt ei : Nat) : Int) = (0 : Int) := (sJ_eq (a := ((xSt ei : Nat) : Int)) (b := (0 : Int)) (by omega) (by omega) (by omega) (by omega)).mp c_4; omega
      refine lv_iconst (v := 1) hx hb dX1_isKeptBy_19 (by decide) ?_
      refine lv_goto (tgt := 24) hx hb dX1_isKeptBy_20 (by decide) ?_
      exact (sx_iret (v := 1) () hx hb hr (by decide) hlk hP hD hS (sB_p (by omega)) dX1_isKeptBy_24 rfl rfl)
set_option maxHeartbeats 4000000 in
set_option maxRecDepth 100000 in
theorem m_X1_usedBy (l : Launch) (G : sx_G) (sz : Nat) (caq : Nat) (caN : Nat) (caW : Nat) (ca2 : Nat) (ca3 : Nat) (ca4 : Nat) (ca5 : Nat) (ca6 : Nat) (ca7 : Nat) (ca8 : Nat) (ca9 : Nat) (ca10 : Nat) (ca11 : Nat) (ca12 : Nat) (ca13 : Nat) (ca14 : Nat) (xTm : Nat → Nat) (xSt : Nat → Nat) (xSz : Nat → Nat) (ow : Nat) (h_n : caN ≤ 60) (h_tm : ∀ k, xTm k < 4) (h_st : ∀ k, xSt k ≤ 2) (h_o : ow < 4) : sx_Met l yX1_usedBy cX1_usedBy 4 (some .int) 1 22 0 0 G [.ref caq, .int (nI ow)] [(caq, .inr (1, [.int (nI caN), .int (nI caW), .ref ca2, .ref ca3, .ref ca4, .ref ca5, .ref ca6, .ref ca7, .ref ca8, .ref ca9, .ref ca10, .ref ca11, .ref ca12, .ref ca13, .ref ca14])), (ca4, .inl (G.2.1, 60, .inl (fun k => nI (xTm k)))), (ca7, .inl (G.2.1, 60, .inl (fun k => nI (xSt k)))), (ca9, .inl (G.2.1, 60, .inl (fun k => nI (xSz k))))] sz (sx_Qi G (fun (r : Int32) (u : Unit) => r = nI (usedN xTm xSt xSz ow caN)) (fun (u : Unit) => [(caq, .inr (1, [.int (nI caN), .int (nI caW), .ref ca2, .ref ca3, .ref ca4, .ref ca5, .ref ca6, .ref ca7, .ref ca8, .ref ca9, .ref ca10, .ref ca11, .ref ca12, .ref ca13, .ref ca14])), (ca4, .inl (G.2.1, 60, .inl (fun k => nI (xTm k)))), (ca7, .inl (G.2.1, 60, .inl (fun k => nI (xSt k)))), (ca9, .inl (G.2.1, 60, .inl (fun k => nI (xSz k))))])) := by
  refine sx_start (by decide) rfl (fun p e s m below meth c A ls F hr hlk hnm hP hD hS hl => ?_)
  obtain ⟨hx, hb, hml, hown, hts, hK, hE, hA⟩ := id F
  have hown : s.vm.findClass RX1 = some m.cls := hown
  generalize hHe : s.heap = H at hP
  have hS : va_S A s.heap H [] := by rw [← hHe]; exact va_S.rf
  have hl : lv_has ls 4 [(0, .ref caq), (1, .int (nI ow))] := hl
  refine lv_iconst (v := 0) hx hb dX1_usedBy_0 (by decide) ?_
  refine lv_istore_n (lv' := [(2, .int 0), (0, .ref caq), (1, .int (nI ow))]) hx hb dX1_usedBy_1 rfl hl (by decide) rfl (fun ls hl => ?_)
  refine lv_iconst (v := 0) hx hb dX1_usedBy_2 (by decide) ?_
  refine lv_istore_n (lv' := [(3, .int 0), (2, .int 0), (0, .ref caq), (1, .int (nI ow))]) hx hb dX1_usedBy_3 rfl hl (by decide) rfl (fun ls hl => ?_)
  refine sx_loop (nL := 4) (fun i => [(caq, .inr (1, [.int (nI caN), .int (nI caW), .ref ca2, .ref ca3, .ref ca4, .ref ca5, .ref ca6, .ref ca7, .ref ca8, .ref ca9, .ref ca10, .ref ca11, .ref ca12, .ref ca13, .ref ca14])), (ca4, .inl (G.2.1, 60, .inl (fun k => nI (xTm k)))), (ca7, .inl (G.2.1, 60, .inl (fun k => nI (xSt k)))), (ca9, .inl (G.2.1, 60, .inl (fun k => nI (xSz k))))]) (fun i => [(2, .int (nI (usedN xTm xSt xSz ow i))), (3, .int (nI i)), (0, .ref caq), (1, .int (nI ow))]) (fun i => True) caN trivial hP hD hS (lv_sub hl [1, 0, 2, 3] rfl) (fun i_1 hi_i_1 hI_i_1 H locs ls hP hD hS hl ih_i_1 => ?_)
  have hP : va_P (sx_D G) vwCl [(caq, .inr (1, [.int (nI caN), .int (nI caW), .ref ca2, .ref ca3, .ref ca4, .ref ca5, .ref ca6, .ref ca7, .ref ca8, .ref ca9, .ref ca10, .ref ca11, .ref ca12, .ref ca13, .ref ca14])), (ca4, .inl (G.2.1, 60, .inl (fun k => nI (xTm k)))), (ca7, .inl (G.2.1, 60, .inl (fun k => nI (xSt k)))), (ca9, .inl (G.2.1, 60, .inl (fun k => nI (xSz k))))] H := hP
  have hD : va_D A [(caq, .inr (1, [.int (nI caN), .int (nI caW), .ref ca2, .ref ca3, .ref ca4, .ref ca5, .ref ca6, .ref ca7, .ref ca8, .ref ca9, .ref ca10, .ref ca11, .ref ca12, .ref ca13, .ref ca14])), (ca4, .inl (G.2.1, 60, .inl (fun k => nI (xTm k)))), (ca7, .inl (G.2.1, 60, .inl (fun k => nI (xSt k)))), (ca9, .inl (G.2.1, 60, .inl (fun k => nI (xSz k))))] := hD
  have hl : lv_has ls 4 [(2, .int (nI (usedN xTm xSt xSz ow i_1))), (3, .int (nI i_1)), (0, .ref caq), (1, .int (nI ow))] := hl
  have hI_i_1 : True := hI_i_1
  refine lv_iload_n hx hb dX1_usedBy_4 rfl (lv_at hl 1 rfl) ?_
  refine lv_aload_n hx hb dX1_usedBy_5 rfl (lv_at hl 2 rfl) ?_
  refine va_get (D := sx_D G) (ci := 1) (v := .int (nI caN)) (C := RX1) (T := TX1) (N := 15) hx hb hts inX1 hown hK hP 0 rfl rfl 0 (by decide) (hts _ q163) (fun _ h9 => h9) rfl dX1_usedBy_6 ?_
  refine lv_icmp_ge (tgt := 40) hx hb dX1_usedBy_9 (by decide) (fun c_2 => ?_) (fun c_2 => ?_)
  · have c_2 : caN ≤ i_1 := by have h9 : ((caN : Nat) : Int) ≤ ((i_1 : Nat) : Int) := (sJ_le (a := ((caN : Nat) : Int)) (b := ((i_1 : Nat) : Int)) (by omega) (by omega) (by omega) (by omega)).mp c_2; omega
    refine lv_iload_n hx hb dX1_usedBy_40 rfl (lv_at hl 0 rfl) ?_
    exact (sx_iret (v := nI (usedN xTm xSt xSz ow i_1)) () hx hb hr rfl hlk hP hD hS (congrArg (fun z => nI (usedN xTm xSt xSz ow z)) (by omega)) dX1_usedBy_41 rfl rfl)
  · have c_2 : ¬ (caN ≤ i_1) := by have h9 : ¬ (((caN : Nat) : Int) ≤ ((i_1 : Nat) : Int)) := fun h => c_2 ((sJ_le (a := ((caN : Nat) : Int)) (b := ((i_1 : Nat) : Int)) (by omega) (by omega) (by omega) (by omega)).mpr h); omega
    refine lv_iload_n hx hb dX1_usedBy_12 rfl (lv_at hl 0 rfl) ?_
    refine lv_aload_n hx hb dX1_usedBy_13 rfl (lv_at hl 2 rfl) ?_
    refine lv_iload_n hx hb dX1_usedBy_14 rfl (lv_at hl 1 rfl) ?_
    refine lv_iload_n hx hb dX1_usedBy_15 rfl (lv_at hl 3 rfl) ?_
    have hcut : sx_cut [(caq, .inr (1, [.int (nI caN), .int (nI caW), .ref ca2, .ref ca3, .ref ca4, .ref ca5, .ref ca6, .ref ca7, .ref ca8, .ref ca9, .ref ca10, .ref ca11, .ref ca12, .ref ca13, .ref ca14])), (ca4, .inl (G.2.1, 60, .inl (fun k => nI (xTm k)))), (ca7, .inl (G.2.1, 60, .inl (fun k => nI (xSt k)))), (ca9, .inl (G.2.1, 60, .inl (fun k => nI (xSz k))))] [(caq, .inr (1, [.int (nI caN), .int (nI caW), .ref ca2, .ref ca3, .ref ca4, .ref ca5, .ref ca6, .ref ca7, .ref ca8, .ref ca9, .ref ca10, .ref ca11, .ref ca12, .ref ca13, .ref ca14])), (ca4, .inl (G.2.1, 60, .inl (fun k => nI (xTm k)))), (ca7, .inl (G.2.1, 60, .inl (fun k => nI (xSt k))))] [(ca9, .inl (G.2.1, 60, .inl (fun k => nI (xSz k))))] [0, 1, 2] [3] := ⟨rfl, rfl, by decide, by decide, by decide⟩
    refine sx_ki (sx_runV (As := [.int (nI i_1), .int (nI ow)]) (rest := [.int (nI (usedN xTm xSt xSz ow i_1))]) F (m_X1_isKeptBy l G H.size caq caN caW ca2 ca3 ca4 ca5 ca6 ca7 ca8 ca9 ca10 ca11 ca12 ca13 ca14 xTm xSt i_1 ow (show ∀ k, xTm k < 4 from (by first | assumption | omega)) (show ∀ k, xSt k ≤ 2 from (by first | assumption | omega)) (show i_1 < 60 from (by first | assumption | omega)) (show ow < 4 from (by first | assumption | omega))) mi_X1_isKeptBy q523 qs_X1_isKeptBy q521 ⟨⟨Nat.le_of_ble_eq_true rfl, Nat.le_of_ble_eq_true rfl⟩, Nat.le_of_ble_eq_true rfl, Nat.le_of_ble_eq_true rfl⟩ hcut hP hD hS 0 1 rfl rfl rfl hl.1 rfl (Nat.le_of_ble_eq_true rfl) dX1_usedBy_16) hcut hP hD hS hA (fun r_5 u_3 H locs w_4 hP hD hS => ?_)
    have hP : va_P (sx_D G) vwCl [(ca9, .inl (G.2.1, 60, .inl (fun k => nI (xSz k)))), (caq, .inr (1, [.int (nI caN), .int (nI caW), .ref ca2, .ref ca3, .ref ca4, .ref ca5, .ref ca6, .ref ca7, .ref ca8, .ref ca9, .ref ca10, .ref ca11, .ref ca12, .ref ca13, .ref ca14])), (ca4, .inl (G.2.1, 60, .inl (fun k => nI (xTm k)))), (ca7, .inl (G.2.1, 60, .inl (fun k => nI (xSt k))))] H := hP
    have hD : va_D A [(ca9, .inl (G.2.1, 60, .inl (fun k => nI (xSz k)))), (caq, .inr (1, [.int (nI caN), .int (nI caW), .ref ca2, .ref ca3, .ref ca4, .ref ca5, .ref ca6, .ref ca7, .ref ca8, .ref ca9, .ref ca10, .ref ca11, .ref ca12, .ref ca13, .ref ca14])), (ca4, .inl (G.2.1, 60, .inl (fun k => nI (xTm k)))), (ca7, .inl (G.2.1, 60, .inl (fun k => nI (xSt k))))] := hD
    have w_4 : r_5 = sB (decide (xTm i_1 = ow ∧ xSt i_1 = 0)) := w_4
    subst w_4
    refine lv_if_eq (tgt := 31) hx hb dX1_usedBy_19 (by decide) (fun c_6 => ?_) (fun c_6 => ?_)
    · have c_6 := of_decide_eq_false (sB_0 c_6)
      refine lv_iconst (v := 0) hx hb dX1_usedBy_31 (by decide) ?_
      refine lv_iadd hx hb dX1_usedBy_32 ?_
      refine sx_topI (nI_add (usedN xTm xSt xSz ow i_1) 0) ?_
      refine lv_istore_n (lv' := [(2, .int (nI ((usedN xTm xSt xSz ow i_1) + 0))), (3, .int (nI i_1)), (0, .ref caq), (1, .int (nI ow))]) hx hb dX1_usedBy_33 rfl hl (by decide) rfl (fun ls hl => ?_)
      refine lv_iinc (v := nI (i_1 + 1)) (lv' := [(3, .int (nI (i_1 + 1))), (2, .int (nI ((usedN xTm xSt xSz ow i_1) + 0))), (0, .ref caq), (1, .int (nI ow))]) hx hb dX1_usedBy_34 hl (k := 1) rfl ((congrArg (fun t => nI i_1 + t) (show Int32.ofInt 1 = nI 1 by decide +kernel)).trans (nI_add i_1 1)) (by decide) rfl (fun ls hl => ?_)
      refine lv_goto (tgt := 4) hx hb dX1_usedBy_37 (by decide) ?_
      have hP := hP.sub (ws' := [(caq, .inr (1, [.int (nI caN), .int (nI caW), .ref ca2, .ref ca3, .ref ca4, .ref ca5, .ref ca6, .ref ca7, .ref ca8, .ref ca9, .ref ca10, .ref ca11, .ref ca12, .ref ca13, .ref ca14])), (ca4, .inl (G.2.1, 60, .inl (fun k => nI (xTm k)))), (ca7, .inl (G.2.1, 60, .inl (fun k => nI (xSt k)))), (ca9, .inl (G.2.1, 60, .inl (fun k => nI (xSz k))))]) [1, 2, 3, 0] rfl
      have hD := hD.sub (ws' := [(caq, .inr (1, [.int (nI caN), .int (nI caW), .ref ca2, .ref ca3, .ref ca4, .ref ca5, .ref ca6, .ref ca7, .ref ca8, .ref ca9, .ref ca10, .ref ca11, .ref ca12, .ref ca13, .ref ca14])), (ca4, .inl (G.2.1, 60, .inl (fun k => nI (xTm k)))), (ca7, .inl (G.2.1, 60, .inl (fun k => nI (xSt k)))), (ca9, .inl (G.2.1, 60, .inl (fun k => nI (xSz k))))]) [1, 2, 3, 0] (by decide) rfl
      have e9_0 : usedN xTm xSt xSz ow (i_1 + 1) = ((usedN xTm xSt xSz ow i_1) + 0) := (by rw [usedN_s]; simp [c_6])
      have hl : lv_has ls 4 [(2, .int (nI (usedN xTm xSt xSz ow (i_1 + 1)))), (3, .int (nI (i_1 + 1))), (0, .ref caq), (1, .int (nI ow))] := by rw [e9_0]; exact lv_sub hl [1, 0, 2, 3] rfl
      exact ih_i_1 _ _ _ (by omega) trivial hP hD hS hl
    · have c_6 := of_decide_eq_true (sB_1 c_6)
      refine lv_aload_n hx hb dX1_usedBy_22 rfl (lv_at hl 2 rfl) ?_
      refine va_get (D := sx_D G) (ci := 1) (v := .ref ca9) (C := RX1) (T := TX1) (N := 15) hx hb hts inX1 hown hK hP 1 rfl rfl 9 (by decide) (hts _ q190) (fun _ h9 => h9) rfl dX1_usedBy_23 ?_
      refine lv_iload_n hx hb dX1_usedBy_26 rfl (lv_at hl 1 rfl) ?_
      refine sx_ild (X := i_1) hx hb hK hP 0 rfl (by omega) rfl dX1_usedBy_27 ?_
      refine lv_goto (tgt := 32) hx hb dX1_usedBy_28 (by decide) ?_
      refine lv_iadd hx hb dX1_usedBy_32 ?_
      refine sx_topI (nI_add (usedN xTm xSt xSz ow i_1) (xSz i_1)) ?_
      refine lv_istore_n (lv' := [(2, .int (nI ((usedN xTm xSt xSz ow i_1) + (xSz i_1)))), (3, .int (nI i_1)), (0, .ref caq), (1, .int (nI ow))]) hx hb dX1_usedBy_33 rfl hl (by decide) rfl (fun ls hl => ?_)
      refine lv_iinc (v := nI (i_1 + 1)) (lv' := [(3, .int (nI (i_1 + 1))), (2, .int (nI ((usedN xTm xSt xSz ow i_1) + (xSz i_1)))), (0, .ref caq), (1, .int (nI ow))]) hx hb dX1_usedBy_34 hl (k := 1) rfl ((congrArg (fun t => nI i_1 + t) (show Int32.ofInt 1 = nI 1 by decide +kernel)).trans (nI_add i_1 1)) (by decide) rfl (fun ls hl => ?_)
      refine lv_goto (tgt := 4) hx hb dX1_usedBy_37 (by decide) ?_
      have hP := hP.sub (ws' := [(caq, .inr (1, [.int (nI caN), .int (nI caW), .ref ca2, .ref ca3, .ref ca4, .ref ca5, .ref ca6, .ref ca7, .ref ca8, .ref ca9, .ref ca10, .ref ca11, .ref ca12, .ref ca13, .ref ca14])), (ca4, .inl (G.2.1, 60, .inl (fun k => nI (xTm k)))), (ca7, .inl (G.2.1, 60, .inl (fun k => nI (xSt k)))), (ca9, .inl (G.2.1, 60, .inl (fun k => nI (xSz k))))]) [1, 2, 3, 0] rfl
      have hD := hD.sub (ws' := [(caq, .inr (1, [.int (nI caN), .int (nI caW), .ref ca2, .ref ca3, .ref ca4, .ref ca5, .ref ca6, .ref ca7, .ref ca8, .ref ca9, .ref ca10, .ref ca11, .ref ca12, .ref ca13, .ref ca14])), (ca4, .inl (G.2.1, 60, .inl (fun k => nI (xTm k)))), (ca7, .inl (G.2.1, 60, .inl (fun k => nI (xSt k)))), (ca9, .inl (G.2.1, 60, .inl (fun k => nI (xSz k))))]) [1, 2, 3, 0] (by decide) rfl
      have e9_0 : usedN xTm xSt xSz ow (i_1 + 1) = ((usedN xTm xSt xSz ow i_1) + (xSz i_1)) := (by rw [usedN_s]; simp [c_6])
      have hl : lv_has ls 4 [(2, .int (nI (usedN xTm xSt xSz ow (i_1 + 1)))), (3, .int (nI (i_1 + 1))), (0, .ref caq), (1, .int (nI ow))] := by rw [e9_0]; exact lv_sub hl [1, 0, 2, 3] rfl
      exact ih_i_1 _ _ _ (by omega) trivial hP hD hS hl
set_option maxHeartbeats 4000000 in
set_option maxRecDepth 100000 in
theorem m_X1_keptOfTeam (l : Launch) (G : sx_G) (sz : Nat) (caq : Nat) (caN : Nat) (caW : Nat) (ca2 : Nat) (ca3 : Nat) (ca4 : Nat) (ca5 : Nat) (ca6 : Nat) (ca7 : Nat) (ca8 : Nat) (ca9 : Nat) (ca10 : Nat) (ca11 : Nat) (ca12 : Nat) (ca13 : Nat) (ca14 : Nat) (xTm : Nat → Nat) (xSt : Nat → Nat) (ow : Nat) (h_n : caN ≤ 60) (h_tm : ∀ k, xTm k < 4) (h_st : ∀ k, xSt k ≤ 2) (h_o : ow < 4) : sx_Met l yX1_keptOfTeam cX1_keptOfTeam 4 (some .int) 1 22 0 0 G [.ref caq, .int (nI ow)] [(caq, .inr (1, [.int (nI caN), .int (nI caW), .ref ca2, .ref ca3, .ref ca4, .ref ca5, .ref ca6, .ref ca7, .ref ca8, .ref ca9, .ref ca10, .ref ca11, .ref ca12, .ref ca13, .ref ca14])), (ca4, .inl (G.2.1, 60, .inl (fun k => nI (xTm k)))), (ca7, .inl (G.2.1, 60, .inl (fun k => nI (xSt k))))] sz (sx_Qi G (fun (r : Int32) (u : Unit) => r = nI (keptN xTm xSt ow caN)) (fun (u : Unit) => [(caq, .inr (1, [.int (nI caN), .int (nI caW), .ref ca2, .ref ca3, .ref ca4, .ref ca5, .ref ca6, .ref ca7, .ref ca8, .ref ca9, .ref ca10, .ref ca11, .ref ca12, .ref ca13, .ref ca14])), (ca4, .inl (G.2.1, 60, .inl (fun k => nI (xTm k)))), (ca7, .inl (G.2.1, 60, .inl (fun k => nI (xSt k))))])) := by
  refine sx_start (by decide) rfl (fun p e s m below meth c A ls F hr hlk hnm hP hD hS hl => ?_)
  obtain ⟨hx, hb, hml, hown, hts, hK, hE, hA⟩ := id F
  have hown : s.vm.findClass RX1 = some m.cls := hown
  generalize hHe : s.heap = H at hP
  have hS : va_S A s.heap H [] := by rw [← hHe]; exact va_S.rf
  have hl : lv_has ls 4 [(0, .ref caq), (1, .int (nI ow))] := hl
  refine lv_iconst (v := 0) hx hb dX1_keptOfTeam_0 (by decide) ?_
  refine lv_istore_n (lv' := [(2, .int 0), (0, .ref caq), (1, .int (nI ow))]) hx hb dX1_keptOfTeam_1 rfl hl (by decide) rfl (fun ls hl => ?_)
  refine lv_iconst (v := 0) hx hb dX1_keptOfTeam_2 (by decide) ?_
  refine lv_istore_n (lv' := [(3, .int 0), (2, .int 0), (0, .ref caq), (1, .int (nI ow))]) hx hb dX1_keptOfTeam_3 rfl hl (by decide) rfl (fun ls hl => ?_)
  refine sx_loop (nL := 4) (fun i => [(caq, .inr (1, [.int (nI caN), .int (nI caW), .ref ca2, .ref ca3, .ref ca4, .ref ca5, .ref ca6, .ref ca7, .ref ca8, .ref ca9, .ref ca10, .ref ca11, .ref ca12, .ref ca13, .ref ca14])), (ca4, .inl (G.2.1, 60, .inl (fun k => nI (xTm k)))), (ca7, .inl (G.2.1, 60, .inl (fun k => nI (xSt k))))]) (fun i => [(2, .int (nI (keptN xTm xSt ow i))), (3, .int (nI i)), (0, .ref caq), (1, .int (nI ow))]) (fun i => True) caN trivial hP hD hS (lv_sub hl [1, 0, 2, 3] rfl) (fun i_1 hi_i_1 hI_i_1 H locs ls hP hD hS hl ih_i_1 => ?_)
  have hP : va_P (sx_D G) vwCl [(caq, .inr (1, [.int (nI caN), .int (nI caW), .ref ca2, .ref ca3, .ref ca4, .ref ca5, .ref ca6, .ref ca7, .ref ca8, .ref ca9, .ref ca10, .ref ca11, .ref ca12, .ref ca13, .ref ca14])), (ca4, .inl (G.2.1, 60, .inl (fun k => nI (xTm k)))), (ca7, .inl (G.2.1, 60, .inl (fun k => nI (xSt k))))] H := hP
  have hD : va_D A [(caq, .inr (1, [.int (nI caN), .int (nI caW), .ref ca2, .ref ca3, .ref ca4, .ref ca5, .ref ca6, .ref ca7, .ref ca8, .ref ca9, .ref ca10, .ref ca11, .ref ca12, .ref ca13, .ref ca14])), (ca4, .inl (G.2.1, 60, .inl (fun k => nI (xTm k)))), (ca7, .inl (G.2.1, 60, .inl (fun k => nI (xSt k))))] := hD
  have hl : lv_has ls 4 [(2, .int (nI (keptN xTm xSt ow i_1))), (3, .int (nI i_1)), (0, .ref caq), (1, .int (nI ow))] := hl
  have hI_i_1 : True := hI_i_1
  refine lv_iload_n hx hb dX1_keptOfTeam_4 rfl (lv_at hl 1 rfl) ?_
  refine lv_aload_n hx hb dX1_keptOfTeam_5 rfl (lv_at hl 2 rfl) ?_
  refine va_get (D := sx_D G) (ci := 1) (v := .int (nI caN)) (C := RX1) (T := TX1) (N := 15) hx hb hts inX1 hown hK hP 0 rfl rfl 0 (by decide) (hts _ q163) (fun _ h9 => h9) rfl dX1_keptOfTeam_6 ?_
  refine lv_icmp_ge (tgt := 35) hx hb dX1_keptOfTeam_9 (by decide) (fun c_2 => ?_) (fun c_2 => ?_)
  · have c_2 : caN ≤ i_1 := by have h9 : ((caN : Nat) : Int) ≤ ((i_1 : Nat) : Int) := (sJ_le (a := ((caN : Nat) : Int)) (b := ((i_1 : Nat) : Int)) (by omega) (by omega) (by omega) (by omega)).mp c_2; omega
    refine lv_iload_n hx hb dX1_keptOfTeam_35 rfl (lv_at hl 0 rfl) ?_
    exact (sx_iret (v := nI (keptN xTm xSt ow i_1)) () hx hb hr rfl hlk hP hD hS (congrArg (fun z => nI (keptN xTm xSt ow z)) (by omega)) dX1_keptOfTeam_36 rfl rfl)
  · have c_2 : ¬ (caN ≤ i_1) := by have h9 : ¬ (((caN : Nat) : Int) ≤ ((i_1 : Nat) : Int)) := fun h => c_2 ((sJ_le (a := ((caN : Nat) : Int)) (b := ((i_1 : Nat) : Int)) (by omega) (by omega) (by omega) (by omega)).mpr h); omega
    refine lv_iload_n hx hb dX1_keptOfTeam_12 rfl (lv_at hl 0 rfl) ?_
    refine lv_aload_n hx hb dX1_keptOfTeam_13 rfl (lv_at hl 2 rfl) ?_
    refine lv_iload_n hx hb dX1_keptOfTeam_14 rfl (lv_at hl 1 rfl) ?_
    refine lv_iload_n hx hb dX1_keptOfTeam_15 rfl (lv_at hl 3 rfl) ?_
    have hcut : sx_cut [(caq, .inr (1, [.int (nI caN), .int (nI caW), .ref ca2, .ref ca3, .ref ca4, .ref ca5, .ref ca6, .ref ca7, .ref ca8, .ref ca9, .ref ca10, .ref ca11, .ref ca12, .ref ca13, .ref ca14])), (ca4, .inl (G.2.1, 60, .inl (fun k => nI (xTm k)))), (ca7, .inl (G.2.1, 60, .inl (fun k => nI (xSt k))))] [(caq, .inr (1, [.int (nI caN), .int (nI caW), .ref ca2, .ref ca3, .ref ca4, .ref ca5, .ref ca6, .ref ca7, .ref ca8, .ref ca9, .ref ca10, .ref ca11, .ref ca12, .ref ca13, .ref ca14])), (ca4, .inl (G.2.1, 60, .inl (fun k => nI (xTm k)))), (ca7, .inl (G.2.1, 60, .inl (fun k => nI (xSt k))))] [] [0, 1, 2] [] := ⟨rfl, rfl, by decide, by decide, by decide⟩
    refine sx_ki (sx_runV (As := [.int (nI i_1), .int (nI ow)]) (rest := [.int (nI (keptN xTm xSt ow i_1))]) F (m_X1_isKeptBy l G H.size caq caN caW ca2 ca3 ca4 ca5 ca6 ca7 ca8 ca9 ca10 ca11 ca12 ca13 ca14 xTm xSt i_1 ow (show ∀ k, xTm k < 4 from (by first | assumption | omega)) (show ∀ k, xSt k ≤ 2 from (by first | assumption | omega)) (show i_1 < 60 from (by first | assumption | omega)) (show ow < 4 from (by first | assumption | omega))) mi_X1_isKeptBy q523 qs_X1_isKeptBy q521 ⟨⟨Nat.le_of_ble_eq_true rfl, Nat.le_of_ble_eq_true rfl⟩, Nat.le_of_ble_eq_true rfl, Nat.le_of_ble_eq_true rfl⟩ hcut hP hD hS 0 1 rfl rfl rfl hl.1 rfl (Nat.le_of_ble_eq_true rfl) dX1_keptOfTeam_16) hcut hP hD hS hA (fun r_5 u_3 H locs w_4 hP hD hS => ?_)
    have hP : va_P (sx_D G) vwCl [(caq, .inr (1, [.int (nI caN), .int (nI caW), .ref ca2, .ref ca3, .ref ca4, .ref ca5, .ref ca6, .ref ca7, .ref ca8, .ref ca9, .ref ca10, .ref ca11, .ref ca12, .ref ca13, .ref ca14])), (ca4, .inl (G.2.1, 60, .inl (fun k => nI (xTm k)))), (ca7, .inl (G.2.1, 60, .inl (fun k => nI (xSt k))))] H := hP
    have hD : va_D A [(caq, .inr (1, [.int (nI caN), .int (nI caW), .ref ca2, .ref ca3, .ref ca4, .ref ca5, .ref ca6, .ref ca7, .ref ca8, .ref ca9, .ref ca10, .ref ca11, .ref ca12, .ref ca13, .ref ca14])), (ca4, .inl (G.2.1, 60, .inl (fun k => nI (xTm k)))), (ca7, .inl (G.2.1, 60, .inl (fun k => nI (xSt k))))] := hD
    have w_4 : r_5 = sB (decide (xTm i_1 = ow ∧ xSt i_1 = 0)) := w_4
    subst w_4
    refine lv_if_eq (tgt := 26) hx hb dX1_keptOfTeam_19 (by decide) (fun c_6 => ?_) (fun c_6 => ?_)
    · have c_6 := of_decide_eq_false (sB_0 c_6)
      refine lv_iconst (v := 0) hx hb dX1_keptOfTeam_26 (by decide) ?_
      refine lv_iadd hx hb dX1_keptOfTeam_27 ?_
      refine sx_topI (nI_add (keptN xTm xSt ow i_1) 0) ?_
      refine lv_istore_n (lv' := [(2, .int (nI ((keptN xTm xSt ow i_1) + 0))), (3, .int (nI i_1)), (0, .ref caq), (1, .int (nI ow))]) hx hb dX1_keptOfTeam_28 rfl hl (by decide) rfl (fun ls hl => ?_)
      refine lv_iinc (v := nI (i_1 + 1)) (lv' := [(3, .int (nI (i_1 + 1))), (2, .int (nI ((keptN xTm xSt ow i_1) + 0))), (0, .ref caq), (1, .int (nI ow))]) hx hb dX1_keptOfTeam_29 hl (k := 1) rfl ((congrArg (fun t => nI i_1 + t) (show Int32.ofInt 1 = nI 1 by decide +kernel)).trans (nI_add i_1 1)) (by decide) rfl (fun ls hl => ?_)
      refine lv_goto (tgt := 4) hx hb dX1_keptOfTeam_32 (by decide) ?_
      have e9_0 : keptN xTm xSt ow (i_1 + 1) = ((keptN xTm xSt ow i_1) + 0) := (by rw [keptN_s]; simp [c_6])
      have hl : lv_has ls 4 [(2, .int (nI (keptN xTm xSt ow (i_1 + 1)))), (3, .int (nI (i_1 + 1))), (0, .ref caq), (1, .int (nI ow))] := by rw [e9_0]; exact lv_sub hl [1, 0, 2, 3] rfl
      exact ih_i_1 _ _ _ (by omega) trivial hP hD hS hl
    · have c_6 := of_decide_eq_true (sB_1 c_6)
      refine lv_iconst (v := 1) hx hb dX1_keptOfTeam_22 (by decide) ?_
      refine lv_goto (tgt := 27) hx hb dX1_keptOfTeam_23 (by decide) ?_
      refine lv_iadd hx hb dX1_keptOfTeam_27 ?_
      refine sx_topI (nI_add (keptN xTm xSt ow i_1) 1) ?_
      refine lv_istore_n (lv' := [(2, .int (nI ((keptN xTm xSt ow i_1) + 1))), (3, .int (nI i_1)), (0, .ref caq), (1, .int (nI ow))]) hx hb dX1_keptOfTeam_28 rfl hl (by decide) rfl (fun ls hl => ?_)
      refine lv_iinc (v := nI (i_1 + 1)) (lv' := [(3, .int (nI (i_1 + 1))), (2, .int (nI ((keptN xTm xSt ow i_1) + 1))), (0, .ref caq), (1, .int (nI ow))]) hx hb dX1_keptOfTeam_29 hl (k := 1) rfl ((congrArg (fun t => nI i_1 + t) (show Int32.ofInt 1 = nI 1 by decide +kernel)).trans (nI_add i_1 1)) (by decide) rfl (fun ls hl => ?_)
      refine lv_goto (tgt := 4) hx hb dX1_keptOfTeam_32 (by decide) ?_
      have e9_0 : keptN xTm xSt ow (i_1 + 1) = ((keptN xTm xSt ow i_1) + 1) := (by rw [keptN_s]; simp [c_6])
      have hl : lv_has ls 4 [(2, .int (nI (keptN xTm xSt ow (i_1 + 1)))), (3, .int (nI (i_1 + 1))), (0, .ref caq), (1, .int (nI ow))] := by rw [e9_0]; exact lv_sub hl [1, 0, 2, 3] rfl
      exact ih_i_1 _ _ _ (by omega) trivial hP hD hS hl
set_option maxHeartbeats 4000000 in
set_option maxRecDepth 100000 in
theorem m_X1_keptOfActions (l : Launch) (G : sx_G) (sz : Nat) (caq : Nat) (caN : Nat) (caW : Nat) (ca2 : Nat) (ca3 : Nat) (ca4 : Nat) (ca5 : Nat) (ca6 : Nat) (ca7 : Nat) (ca8 : Nat) (ca9 : Nat) (ca10 : Nat) (ca11 : Nat) (ca12 : Nat) (ca13 : Nat) (ca14 : Nat) (xSt : Nat → Nat) (xAc : Nat → Nat) (S : Nat) (h_n : caN ≤ 60) (h_st : ∀ k, xSt k ≤ 2) (h_ac : ∀ k, xAc k < 14) (h_S : S < 1073741824) : sx_Met l yX1_keptOfActions cX1_keptOfActions 4 (some .int) 1 22 0 0 G [.ref caq, .int (nI S)] [(caq, .inr (1, [.int (nI caN), .int (nI caW), .ref ca2, .ref ca3, .ref ca4, .ref ca5, .ref ca6, .ref ca7, .ref ca8, .ref ca9, .ref ca10, .ref ca11, .ref ca12, .ref ca13, .ref ca14])), (ca7, .inl (G.2.1, 60, .inl (fun k => nI (xSt k)))), (ca2, .inl (G.2.1, 60, .inl (fun k => nI (xAc k))))] sz (sx_Qi G (fun (r : Int32) (u : Unit) => r = nI (ktaN xSt xAc S caN)) (fun (u : Unit) => [(caq, .inr (1, [.int (nI caN), .int (nI caW), .ref ca2, .ref ca3, .ref ca4, .ref ca5, .ref ca6, .ref ca7, .ref ca8, .ref ca9, .ref ca10, .ref ca11, .ref ca12, .ref ca13, .ref ca14])), (ca7, .inl (G.2.1, 60, .inl (fun k => nI (xSt k)))), (ca2, .inl (G.2.1, 60, .inl (fun k => nI (xAc k))))])) := by
  refine sx_start (by decide) rfl (fun p e s m below meth c A ls F hr hlk hnm hP hD hS hl => ?_)
  obtain ⟨hx, hb, hml, hown, hts, hK, hE, hA⟩ := id F
  have hown : s.vm.findClass RX1 = some m.cls := hown
  generalize hHe : s.heap = H at hP
  have hS : va_S A s.heap H [] := by rw [← hHe]; exact va_S.rf
  have hl : lv_has ls 4 [(0, .ref caq), (1, .int (nI S))] := hl
  refine lv_iconst (v := 0) hx hb dX1_keptOfActions_0 (by decide) ?_
  refine lv_istore_n (lv' := [(2, .int 0), (0, .ref caq), (1, .int (nI S))]) hx hb dX1_keptOfActions_1 rfl hl (by decide) rfl (fun ls hl => ?_)
  refine lv_iconst (v := 0) hx hb dX1_keptOfActions_2 (by decide) ?_
  refine lv_istore_n (lv' := [(3, .int 0), (2, .int 0), (0, .ref caq), (1, .int (nI S))]) hx hb dX1_keptOfActions_3 rfl hl (by decide) rfl (fun ls hl => ?_)
  refine sx_loop (nL := 4) (fun i => [(caq, .inr (1, [.int (nI caN), .int (nI caW), .ref ca2, .ref ca3, .ref ca4, .ref ca5, .ref ca6, .ref ca7, .ref ca8, .ref ca9, .ref ca10, .ref ca11, .ref ca12, .ref ca13, .ref ca14])), (ca7, .inl (G.2.1, 60, .inl (fun k => nI (xSt k)))), (ca2, .inl (G.2.1, 60, .inl (fun k => nI (xAc k))))]) (fun i => [(2, .int (nI (ktaN xSt xAc S i))), (3, .int (nI i)), (0, .ref caq), (1, .int (nI S))]) (fun i => True) caN trivial hP hD hS (lv_sub hl [1, 0, 2, 3] rfl) (fun i_1 hi_i_1 hI_i_1 H locs ls hP hD hS hl ih_i_1 => ?_)
  have hP : va_P (sx_D G) vwCl [(caq, .inr (1, [.int (nI caN), .int (nI caW), .ref ca2, .ref ca3, .ref ca4, .ref ca5, .ref ca6, .ref ca7, .ref ca8, .ref ca9, .ref ca10, .ref ca11, .ref ca12, .ref ca13, .ref ca14])), (ca7, .inl (G.2.1, 60, .inl (fun k => nI (xSt k)))), (ca2, .inl (G.2.1, 60, .inl (fun k => nI (xAc k))))] H := hP
  have hD : va_D A [(caq, .inr (1, [.int (nI caN), .int (nI caW), .ref ca2, .ref ca3, .ref ca4, .ref ca5, .ref ca6, .ref ca7, .ref ca8, .ref ca9, .ref ca10, .ref ca11, .ref ca12, .ref ca13, .ref ca14])), (ca7, .inl (G.2.1, 60, .inl (fun k => nI (xSt k)))), (ca2, .inl (G.2.1, 60, .inl (fun k => nI (xAc k))))] := hD
  have hl : lv_has ls 4 [(2, .int (nI (ktaN xSt xAc S i_1))), (3, .int (nI i_1)), (0, .ref caq), (1, .int (nI S))] := hl
  have hI_i_1 : True := hI_i_1
  refine lv_iload_n hx hb dX1_keptOfActions_4 rfl (lv_at hl 1 rfl) ?_
  refine lv_aload_n hx hb dX1_keptOfActions_5 rfl (lv_at hl 2 rfl) ?_
  refine va_get (D := sx_D G) (ci := 1) (v := .int (nI caN)) (C := RX1) (T := TX1) (N := 15) hx hb hts inX1 hown hK hP 0 rfl rfl 0 (by decide) (hts _ q163) (fun _ h9 => h9) rfl dX1_keptOfActions_6 ?_
  refine lv_icmp_ge (tgt := 49) hx hb dX1_keptOfActions_9 (by decide) (fun c_2 => ?_) (fun c_2 => ?_)
  · have c_2 : caN ≤ i_1 := by have h9 : ((caN : Nat) : Int) ≤ ((i_1 : Nat) : Int) := (sJ_le (a := ((caN : Nat) : Int)) (b := ((i_1 : Nat) : Int)) (by omega) (by omega) (by omega) (by omega)).mp c_2; omega
    refine lv_iload_n hx hb dX1_keptOfActions_49 rfl (lv_at hl 0 rfl) ?_
    exact (sx_iret (v := nI (ktaN xSt xAc S i_1)) () hx hb hr rfl hlk hP hD hS (congrArg (fun z => nI (ktaN xSt xAc S z)) (by omega)) dX1_keptOfActions_50 rfl rfl)
  · have c_2 : ¬ (caN ≤ i_1) := by have h9 : ¬ (((caN : Nat) : Int) ≤ ((i_1 : Nat) : Int)) := fun h => c_2 ((sJ_le (a := ((caN : Nat) : Int)) (b := ((i_1 : Nat) : Int)) (by omega) (by omega) (by omega) (by omega)).mpr h); omega
    refine lv_iload_n hx hb dX1_keptOfActions_12 rfl (lv_at hl 0 rfl) ?_
    refine lv_aload_n hx hb dX1_keptOfActions_13 rfl (lv_at hl 2 rfl) ?_
    refine va_get (D := sx_D G) (ci := 1) (v := .ref ca7) (C := RX1) (T := TX1) (N := 15) hx hb hts inX1 hown hK hP 0 rfl rfl 7 (by decide) (hts _ q185) (fun _ h9 => h9) rfl dX1_keptOfActions_14 ?_
    refine lv_iload_n hx hb dX1_keptOfActions_17 rfl (lv_at hl 1 rfl) ?_
    refine sx_ild (X := i_1) hx hb hK hP 1 rfl (by omega) rfl dX1_keptOfActions_18 ?_
    have b_3 := h_st i_1
    refine lv_if_ne (tgt := 40) hx hb dX1_keptOfActions_19 (by decide) (fun c_4 => ?_) (fun c_4 => ?_)
    · have c_4 : ¬ ((xSt i_1) = 0) := by have h9 : ¬ (((xSt i_1 : Nat) : Int) = (0 : Int)) := fun h => c_4 ((sJ_eq (a := ((xSt i_1 : Nat) : Int)) (b := (0 : Int)) (by omega) (by omega) (by omega) (by omega)).mpr h); omega
      refine lv_iconst (v := 0) hx hb dX1_keptOfActions_40 (by decide) ?_
      refine lv_iadd hx hb dX1_keptOfActions_41 ?_
      refine sx_topI (nI_add (ktaN xSt xAc S i_1) 0) ?_
      refine lv_istore_n (lv' := [(2, .int (nI ((ktaN xSt xAc S i_1) + 0))), (3, .int (nI i_1)), (0, .ref caq), (1, .int (nI S))]) hx hb dX1_keptOfActions_42 rfl hl (by decide) rfl (fun ls hl => ?_)
      refine lv_iinc (v := nI (i_1 + 1)) (lv' := [(3, .int (nI (i_1 + 1))), (2, .int (nI ((ktaN xSt xAc S i_1) + 0))), (0, .ref caq), (1, .int (nI S))]) hx hb dX1_keptOfActions_43 hl (k := 1) rfl ((congrArg (fun t => nI i_1 + t) (show Int32.ofInt 1 = nI 1 by decide +kernel)).trans (nI_add i_1 1)) (by decide) rfl (fun ls hl => ?_)
      refine lv_goto (tgt := 4) hx hb dX1_keptOfActions_46 (by decide) ?_
      have e9_0 : ktaN xSt xAc S (i_1 + 1) = ((ktaN xSt xAc S i_1) + 0) := (by rw [ktaN_s]; simp [c_4])
      have hl : lv_has ls 4 [(2, .int (nI (ktaN xSt xAc S (i_1 + 1)))), (3, .int (nI (i_1 + 1))), (0, .ref caq), (1, .int (nI S))] := by rw [e9_0]; exact lv_sub hl [1, 0, 2, 3] rfl
      exact ih_i_1 _ _ _ (by omega) trivial hP hD hS hl
    · have c_4 : (xSt i_1) = 0 := by have h9 : ((xSt i_1 : Nat) : Int) = (0 : Int) := (sJ_eq (a := ((xSt i_1 : Nat) : Int)) (b := (0 : Int)) (by omega) (by omega) (by omega) (by omega)).mp c_4; omega
      refine lv_iload_n hx hb dX1_keptOfActions_22 rfl (lv_at hl 3 rfl) ?_
      refine lv_i2l (v := lN S) hx hb dX1_keptOfActions_23 (nI_l (n := S) (by omega)) ?_
      refine lv_aload_n hx hb dX1_keptOfActions_24 rfl (lv_at hl 2 rfl) ?_
      refine va_get (D := sx_D G) (ci := 1) (v := .ref ca2) (C := RX1) (T := TX1) (N := 15) hx hb hts inX1 hown hK hP 0 rfl rfl 2 (by decide) (hts _ q169) (fun _ h9 => h9) rfl dX1_keptOfActions_25 ?_
      refine lv_iload_n hx hb dX1_keptOfActions_28 rfl (lv_at hl 1 rfl) ?_
      refine sx_ild (X := i_1) hx hb hK hP 2 rfl (by omega) rfl dX1_keptOfActions_29 ?_
      have b_5 := h_ac i_1
      have hcut : sx_cut [(caq, .inr (1, [.int (nI caN), .int (nI caW), .ref ca2, .ref ca3, .ref ca4, .ref ca5, .ref ca6, .ref ca7, .ref ca8, .ref ca9, .ref ca10, .ref ca11, .ref ca12, .ref ca13, .ref ca14])), (ca7, .inl (G.2.1, 60, .inl (fun k => nI (xSt k)))), (ca2, .inl (G.2.1, 60, .inl (fun k => nI (xAc k))))] [] [(caq, .inr (1, [.int (nI caN), .int (nI caW), .ref ca2, .ref ca3, .ref ca4, .ref ca5, .ref ca6, .ref ca7, .ref ca8, .ref ca9, .ref ca10, .ref ca11, .ref ca12, .ref ca13, .ref ca14])), (ca7, .inl (G.2.1, 60, .inl (fun k => nI (xSt k)))), (ca2, .inl (G.2.1, 60, .inl (fun k => nI (xAc k))))] [] [0, 1, 2] := ⟨rfl, rfl, by decide, by decide, by decide⟩
      refine sx_ki (sx_runSN (As := [.long (lN S), .int (nI (xAc i_1))]) (rest := [.int (nI (ktaN xSt xAc S i_1))]) F (m_X7_has l G H.size S (xAc i_1) (show S < 2 ^ 62 from (by first | assumption | omega)) (show (xAc i_1) < 63 from (by first | assumption | omega))) mi_X7_has q498 q504 ⟨⟨Nat.le_of_ble_eq_true rfl, Nat.le_of_ble_eq_true rfl⟩, Nat.le_of_ble_eq_true rfl, Nat.le_of_ble_eq_true rfl⟩ hcut hP hD hS rfl hl.1 rfl (Nat.le_of_ble_eq_true rfl) dX1_keptOfActions_30) hcut hP hD hS hA (fun r_8 u_6 H locs w_7 hP hD hS => ?_)
      have hP : va_P (sx_D G) vwCl [(caq, .inr (1, [.int (nI caN), .int (nI caW), .ref ca2, .ref ca3, .ref ca4, .ref ca5, .ref ca6, .ref ca7, .ref ca8, .ref ca9, .ref ca10, .ref ca11, .ref ca12, .ref ca13, .ref ca14])), (ca7, .inl (G.2.1, 60, .inl (fun k => nI (xSt k)))), (ca2, .inl (G.2.1, 60, .inl (fun k => nI (xAc k))))] H := hP
      have hD : va_D A [(caq, .inr (1, [.int (nI caN), .int (nI caW), .ref ca2, .ref ca3, .ref ca4, .ref ca5, .ref ca6, .ref ca7, .ref ca8, .ref ca9, .ref ca10, .ref ca11, .ref ca12, .ref ca13, .ref ca14])), (ca7, .inl (G.2.1, 60, .inl (fun k => nI (xSt k)))), (ca2, .inl (G.2.1, 60, .inl (fun k => nI (xAc k))))] := hD
      have w_7 : r_8 = sB (S.testBit (xAc i_1)) := w_7
      subst w_7
      refine lv_if_eq (tgt := 40) hx hb dX1_keptOfActions_33 (by decide) (fun c_9 => ?_) (fun c_9 => ?_)
      · have c_9 := sB_0 c_9
        refine lv_iconst (v := 0) hx hb dX1_keptOfActions_40 (by decide) ?_
        refine lv_iadd hx hb dX1_keptOfActions_41 ?_
        refine sx_topI (nI_add (ktaN xSt xAc S i_1) 0) ?_
        refine lv_istore_n (lv' := [(2, .int (nI ((ktaN xSt xAc S i_1) + 0))), (3, .int (nI i_1)), (0, .ref caq), (1, .int (nI S))]) hx hb dX1_keptOfActions_42 rfl hl (by decide) rfl (fun ls hl => ?_)
        refine lv_iinc (v := nI (i_1 + 1)) (lv' := [(3, .int (nI (i_1 + 1))), (2, .int (nI ((ktaN xSt xAc S i_1) + 0))), (0, .ref caq), (1, .int (nI S))]) hx hb dX1_keptOfActions_43 hl (k := 1) rfl ((congrArg (fun t => nI i_1 + t) (show Int32.ofInt 1 = nI 1 by decide +kernel)).trans (nI_add i_1 1)) (by decide) rfl (fun ls hl => ?_)
        refine lv_goto (tgt := 4) hx hb dX1_keptOfActions_46 (by decide) ?_
        have e9_0 : ktaN xSt xAc S (i_1 + 1) = ((ktaN xSt xAc S i_1) + 0) := (by rw [ktaN_s]; simp [c_4, c_9])
        have hl : lv_has ls 4 [(2, .int (nI (ktaN xSt xAc S (i_1 + 1)))), (3, .int (nI (i_1 + 1))), (0, .ref caq), (1, .int (nI S))] := by rw [e9_0]; exact lv_sub hl [1, 0, 2, 3] rfl
        exact ih_i_1 _ _ _ (by omega) trivial hP hD hS hl
      · have c_9 := sB_1 c_9
        refine lv_iconst (v := 1) hx hb dX1_keptOfActions_36 (by decide) ?_
        refine lv_goto (tgt := 41) hx hb dX1_keptOfActions_37 (by decide) ?_
        refine lv_iadd hx hb dX1_keptOfActions_41 ?_
        refine sx_topI (nI_add (ktaN xSt xAc S i_1) 1) ?_
        refine lv_istore_n (lv' := [(2, .int (nI ((ktaN xSt xAc S i_1) + 1))), (3, .int (nI i_1)), (0, .ref caq), (1, .int (nI S))]) hx hb dX1_keptOfActions_42 rfl hl (by decide) rfl (fun ls hl => ?_)
        refine lv_iinc (v := nI (i_1 + 1)) (lv' := [(3, .int (nI (i_1 + 1))), (2, .int (nI ((ktaN xSt xAc S i_1) + 1))), (0, .ref caq), (1, .int (nI S))]) hx hb dX1_keptOfActions_43 hl (k := 1) rfl ((congrArg (fun t => nI i_1 + t) (show Int32.ofInt 1 = nI 1 by decide +kernel)).trans (nI_add i_1 1)) (by decide) rfl (fun ls hl => ?_)
        refine lv_goto (tgt := 4) hx hb dX1_keptOfActions_46 (by decide) ?_
        have e9_0 : ktaN xSt xAc S (i_1 + 1) = ((ktaN xSt xAc S i_1) + 1) := (by rw [ktaN_s]; simp [c_4, c_9])
        have hl : lv_has ls 4 [(2, .int (nI (ktaN xSt xAc S (i_1 + 1)))), (3, .int (nI (i_1 + 1))), (0, .ref caq), (1, .int (nI S))] := by rw [e9_0]; exact lv_sub hl [1, 0, 2, 3] rfl
        exact ih_i_1 _ _ _ (by omega) trivial hP hD hS hl
set_option maxHeartbeats 4000000 in
set_option maxRecDepth 100000 in
theorem m_X1_poisonedOfWorker (l : Launch) (G : sx_G) (sz : Nat) (caq : Nat) (caN : Nat) (caW : Nat) (ca2 : Nat) (ca3 : Nat) (ca4 : Nat) (ca5 : Nat) (ca6 : Nat) (ca7 : Nat) (ca8 : Nat) (ca9 : Nat) (ca10 : Nat) (ca11 : Nat) (ca12 : Nat) (ca13 : Nat) (ca14 : Nat) (xSt : Nat → Nat) (xWo : Nat → Nat) (ow : Nat) (h_n : caN ≤ 60) (h_st : ∀ k, xSt k ≤ 2) (h_wo : ∀ k, xWo k < 4) (h_o : ow < 4) : sx_Met l yX1_poisonedOfWorker cX1_poisonedOfWorker 4 (some .int) 0 0 0 0 G [.ref caq, .int (nI ow)] [(caq, .inr (1, [.int (nI caN), .int (nI caW), .ref ca2, .ref ca3, .ref ca4, .ref ca5, .ref ca6, .ref ca7, .ref ca8, .ref ca9, .ref ca10, .ref ca11, .ref ca12, .ref ca13, .ref ca14])), (ca7, .inl (G.2.1, 60, .inl (fun k => nI (xSt k)))), (ca3, .inl (G.2.1, 60, .inl (fun k => nI (xWo k))))] sz (sx_Qi G (fun (r : Int32) (u : Unit) => r = nI (poiN xSt xWo ow caN)) (fun (u : Unit) => [(caq, .inr (1, [.int (nI caN), .int (nI caW), .ref ca2, .ref ca3, .ref ca4, .ref ca5, .ref ca6, .ref ca7, .ref ca8, .ref ca9, .ref ca10, .ref ca11, .ref ca12, .ref ca13, .ref ca14])), (ca7, .inl (G.2.1, 60, .inl (fun k => nI (xSt k)))), (ca3, .inl (G.2.1, 60, .inl (fun k => nI (xWo k))))])) := by
  refine sx_start (by decide) rfl (fun p e s m below meth c A ls F hr hlk hnm hP hD hS hl => ?_)
  obtain ⟨hx, hb, hml, hown, hts, hK, hE, hA⟩ := id F
  have hown : s.vm.findClass RX1 = some m.cls := hown
  generalize hHe : s.heap = H at hP
  have hS : va_S A s.heap H [] := by rw [← hHe]; exact va_S.rf
  have hl : lv_has ls 4 [(0, .ref caq), (1, .int (nI ow))] := hl
  refine lv_iconst (v := 0) hx hb dX1_poisonedOfWorker_0 (by decide) ?_
  refine lv_istore_n (lv' := [(2, .int 0), (0, .ref caq), (1, .int (nI ow))]) hx hb dX1_poisonedOfWorker_1 rfl hl (by decide) rfl (fun ls hl => ?_)
  refine lv_iconst (v := 0) hx hb dX1_poisonedOfWorker_2 (by decide) ?_
  refine lv_istore_n (lv' := [(3, .int 0), (2, .int 0), (0, .ref caq), (1, .int (nI ow))]) hx hb dX1_poisonedOfWorker_3 rfl hl (by decide) rfl (fun ls hl => ?_)
  refine sx_loop (nL := 4) (fun i => [(caq, .inr (1, [.int (nI caN), .int (nI caW), .ref ca2, .ref ca3, .ref ca4, .ref ca5, .ref ca6, .ref ca7, .ref ca8, .ref ca9, .ref ca10, .ref ca11, .ref ca12, .ref ca13, .ref ca14])), (ca7, .inl (G.2.1, 60, .inl (fun k => nI (xSt k)))), (ca3, .inl (G.2.1, 60, .inl (fun k => nI (xWo k))))]) (fun i => [(2, .int (nI (poiN xSt xWo ow i))), (3, .int (nI i)), (0, .ref caq), (1, .int (nI ow))]) (fun i => True) caN trivial hP hD hS (lv_sub hl [1, 0, 2, 3] rfl) (fun i_1 hi_i_1 hI_i_1 H locs ls hP hD hS hl ih_i_1 => ?_)
  have hP : va_P (sx_D G) vwCl [(caq, .inr (1, [.int (nI caN), .int (nI caW), .ref ca2, .ref ca3, .ref ca4, .ref ca5, .ref ca6, .ref ca7, .ref ca8, .ref ca9, .ref ca10, .ref ca11, .ref ca12, .ref ca13, .ref ca14])), (ca7, .inl (G.2.1, 60, .inl (fun k => nI (xSt k)))), (ca3, .inl (G.2.1, 60, .inl (fun k => nI (xWo k))))] H := hP
  have hD : va_D A [(caq, .inr (1, [.int (nI caN), .int (nI caW), .ref ca2, .ref ca3, .ref ca4, .ref ca5, .ref ca6, .ref ca7, .ref ca8, .ref ca9, .ref ca10, .ref ca11, .ref ca12, .ref ca13, .ref ca14])), (ca7, .inl (G.2.1, 60, .inl (fun k => nI (xSt k)))), (ca3, .inl (G.2.1, 60, .inl (fun k => nI (xWo k))))] := hD
  have hl : lv_has ls 4 [(2, .int (nI (poiN xSt xWo ow i_1))), (3, .int (nI i_1)), (0, .ref caq), (1, .int (nI ow))] := hl
  have hI_i_1 : True := hI_i_1
  refine lv_iload_n hx hb dX1_poisonedOfWorker_4 rfl (lv_at hl 1 rfl) ?_
  refine lv_aload_n hx hb dX1_poisonedOfWorker_5 rfl (lv_at hl 2 rfl) ?_
  refine va_get (D := sx_D G) (ci := 1) (v := .int (nI caN)) (C := RX1) (T := TX1) (N := 15) hx hb hts inX1 hown hK hP 0 rfl rfl 0 (by decide) (hts _ q163) (fun _ h9 => h9) rfl dX1_poisonedOfWorker_6 ?_
  refine lv_icmp_ge (tgt := 46) hx hb dX1_poisonedOfWorker_9 (by decide) (fun c_2 => ?_) (fun c_2 => ?_)
  · have c_2 : caN ≤ i_1 := by have h9 : ((caN : Nat) : Int) ≤ ((i_1 : Nat) : Int) := (sJ_le (a := ((caN : Nat) : Int)) (b := ((i_1 : Nat) : Int)) (by omega) (by omega) (by omega) (by omega)).mp c_2; omega
    refine lv_iload_n hx hb dX1_poisonedOfWorker_46 rfl (lv_at hl 0 rfl) ?_
    exact (sx_iret (v := nI (poiN xSt xWo ow i_1)) () hx hb hr rfl hlk hP hD hS (congrArg (fun z => nI (poiN xSt xWo ow z)) (by omega)) dX1_poisonedOfWorker_47 rfl rfl)
  · have c_2 : ¬ (caN ≤ i_1) := by have h9 : ¬ (((caN : Nat) : Int) ≤ ((i_1 : Nat) : Int)) := fun h => c_2 ((sJ_le (a := ((caN : Nat) : Int)) (b := ((i_1 : Nat) : Int)) (by omega) (by omega) (by omega) (by omega)).mpr h); omega
    refine lv_iload_n hx hb dX1_poisonedOfWorker_12 rfl (lv_at hl 0 rfl) ?_
    refine lv_aload_n hx hb dX1_poisonedOfWorker_13 rfl (lv_at hl 2 rfl) ?_
    refine va_get (D := sx_D G) (ci := 1) (v := .ref ca7) (C := RX1) (T := TX1) (N := 15) hx hb hts inX1 hown hK hP 0 rfl rfl 7 (by decide) (hts _ q185) (fun _ h9 => h9) rfl dX1_poisonedOfWorker_14 ?_
    refine lv_iload_n hx hb dX1_poisonedOfWorker_17 rfl (lv_at hl 1 rfl) ?_
    refine sx_ild (X := i_1) hx hb hK hP 1 rfl (by omega) rfl dX1_poisonedOfWorker_18 ?_
    have b_3 := h_st i_1
    refine lv_iconst (v := 2) hx hb dX1_poisonedOfWorker_19 (by decide) ?_
    refine lv_icmp_ne (tgt := 37) hx hb dX1_poisonedOfWorker_20 (by decide) (fun c_4 => ?_) (fun c_4 => ?_)
    · have c_4 : ¬ ((xSt i_1) = 2) := by have h9 : ¬ (((xSt i_1 : Nat) : Int) = (2 : Int)) := fun h => c_4 ((sJ_eq (a := ((xSt i_1 : Nat) : Int)) (b := (2 : Int)) (by omega) (by omega) (by omega) (by omega)).mpr h); omega
      refine lv_iconst (v := 0) hx hb dX1_poisonedOfWorker_37 (by decide) ?_
      refine lv_iadd hx hb dX1_poisonedOfWorker_38 ?_
      refine sx_topI (nI_add (poiN xSt xWo ow i_1) 0) ?_
      refine lv_istore_n (lv' := [(2, .int (nI ((poiN xSt xWo ow i_1) + 0))), (3, .int (nI i_1)), (0, .ref caq), (1, .int (nI ow))]) hx hb dX1_poisonedOfWorker_39 rfl hl (by decide) rfl (fun ls hl => ?_)
      refine lv_iinc (v := nI (i_1 + 1)) (lv' := [(3, .int (nI (i_1 + 1))), (2, .int (nI ((poiN xSt xWo ow i_1) + 0))), (0, .ref caq), (1, .int (nI ow))]) hx hb dX1_poisonedOfWorker_40 hl (k := 1) rfl ((congrArg (fun t => nI i_1 + t) (show Int32.ofInt 1 = nI 1 by decide +kernel)).trans (nI_add i_1 1)) (by decide) rfl (fun ls hl => ?_)
      refine lv_goto (tgt := 4) hx hb dX1_poisonedOfWorker_43 (by decide) ?_
      have e9_0 : poiN xSt xWo ow (i_1 + 1) = ((poiN xSt xWo ow i_1) + 0) := (by rw [poiN_s]; simp [c_4])
      have hl : lv_has ls 4 [(2, .int (nI (poiN xSt xWo ow (i_1 + 1)))), (3, .int (nI (i_1 + 1))), (0, .ref caq), (1, .int (nI ow))] := by rw [e9_0]; exact lv_sub hl [1, 0, 2, 3] rfl
      exact ih_i_1 _ _ _ (by omega) trivial hP hD hS hl
    · have c_4 : (xSt i_1) = 2 := by have h9 : ((xSt i_1 : Nat) : Int) = (2 : Int) := (sJ_eq (a := ((xSt i_1 : Nat) : Int)) (b := (2 : Int)) (by omega) (by omega) (by omega) (by omega)).mp c_4; omega
      refine lv_aload_n hx hb dX1_poisonedOfWorker_23 rfl (lv_at hl 2 rfl) ?_
      refine va_get (D := sx_D G) (ci := 1) (v := .ref ca3) (C := RX1) (T := TX1) (N := 15) hx hb hts inX1 hown hK hP 0 rfl rfl 3 (by decide) (hts _ q172) (fun _ h9 => h9) rfl dX1_poisonedOfWorker_24 ?_
      refine lv_iload_n hx hb dX1_poisonedOfWorker_27 rfl (lv_at hl 1 rfl) ?_
      refine sx_ild (X := i_1) hx hb hK hP 2 rfl (by omega) rfl dX1_poisonedOfWorker_28 ?_
      have b_5 := h_wo i_1
      refine lv_iload_n hx hb dX1_poisonedOfWorker_29 rfl (lv_at hl 3 rfl) ?_
      refine lv_icmp_ne (tgt := 37) hx hb dX1_poisonedOfWorker_30 (by decide) (fun c_6 => ?_) (fun c_6 => ?_)
      · have c_6 : ¬ ((xWo i_1) = ow) := by have h9 : ¬ (((xWo i_1 : Nat) : Int) = ((ow : Nat) : Int)) := fun h => c_6 ((sJ_eq (a := ((xWo i_1 : Nat) : Int)) (b := ((ow : Nat) : Int)) (by omega) (by omega) (by omega) (by omega)).mpr h); omega
        refine lv_iconst (v := 0) hx hb dX1_poisonedOfWorker_37 (by decide) ?_
        refine lv_iadd hx hb dX1_poisonedOfWorker_38 ?_
        refine sx_topI (nI_add (poiN xSt xWo ow i_1) 0) ?_
        refine lv_istore_n (lv' := [(2, .int (nI ((poiN xSt xWo ow i_1) + 0))), (3, .int (nI i_1)), (0, .ref caq), (1, .int (nI ow))]) hx hb dX1_poisonedOfWorker_39 rfl hl (by decide) rfl (fun ls hl => ?_)
        refine lv_iinc (v := nI (i_1 + 1)) (lv' := [(3, .int (nI (i_1 + 1))), (2, .int (nI ((poiN xSt xWo ow i_1) + 0))), (0, .ref caq), (1, .int (nI ow))]) hx hb dX1_poisonedOfWorker_40 hl (k := 1) rfl ((congrArg (fun t => nI i_1 + t) (show Int32.ofInt 1 = nI 1 by decide +kernel)).trans (nI_add i_1 1)) (by decide) rfl (fun ls hl => ?_)
        refine lv_goto (tgt := 4) hx hb dX1_poisonedOfWorker_43 (by decide) ?_
        have e9_0 : poiN xSt xWo ow (i_1 + 1) = ((poiN xSt xWo ow i_1) + 0) := (by rw [poiN_s]; simp [c_4, c_6])
        have hl : lv_has ls 4 [(2, .int (nI (poiN xSt xWo ow (i_1 + 1)))), (3, .int (nI (i_1 + 1))), (0, .ref caq), (1, .int (nI ow))] := by rw [e9_0]; exact lv_sub hl [1, 0, 2, 3] rfl
        exact ih_i_1 _ _ _ (by omega) trivial hP hD hS hl
      · have c_6 : (xWo i_1) = ow := by have h9 : ((xWo i_1 : Nat) : Int) = ((ow : Nat) : Int) := (sJ_eq (a := ((xWo i_1 : Nat) : Int)) (b := ((ow : Nat) : Int)) (by omega) (by omega) (by omega) (by omega)).mp c_6; omega
        refine lv_iconst (v := 1) hx hb dX1_poisonedOfWorker_33 (by decide) ?_
        refine lv_goto (tgt := 38) hx hb dX1_poisonedOfWorker_34 (by decide) ?_
        refine lv_iadd hx hb dX1_poisonedOfWorker_38 ?_
        refine sx_topI (nI_add (poiN xSt xWo ow i_1) 1) ?_
        refine lv_istore_n (lv' := [(2, .int (nI ((poiN xSt xWo ow i_1) + 1))), (3, .int (nI i_1)), (0, .ref caq), (1, .int (nI ow))]) hx hb dX1_poisonedOfWorker_39 rfl hl (by decide) rfl (fun ls hl => ?_)
        refine lv_iinc (v := nI (i_1 + 1)) (lv' := [(3, .int (nI (i_1 + 1))), (2, .int (nI ((poiN xSt xWo ow i_1) + 1))), (0, .ref caq), (1, .int (nI ow))]) hx hb dX1_poisonedOfWorker_40 hl (k := 1) rfl ((congrArg (fun t => nI i_1 + t) (show Int32.ofInt 1 = nI 1 by decide +kernel)).trans (nI_add i_1 1)) (by decide) rfl (fun ls hl => ?_)
        refine lv_goto (tgt := 4) hx hb dX1_poisonedOfWorker_43 (by decide) ?_
        have e9_0 : poiN xSt xWo ow (i_1 + 1) = ((poiN xSt xWo ow i_1) + 1) := (by rw [poiN_s]; simp [c_4, c_6])
        have hl : lv_has ls 4 [(2, .int (nI (poiN xSt xWo ow (i_1 + 1)))), (3, .int (nI (i_1 + 1))), (0, .ref caq), (1, .int (nI ow))] := by rw [e9_0]; exact lv_sub hl [1, 0, 2, 3] rfl
        exact ih_i_1 _ _ _ (by omega) trivial hP hD hS hl
set_option maxHeartbeats 4000000 in
set_option maxRecDepth 100000 in
theorem m_X1_inState (l : Launch) (G : sx_G) (sz : Nat) (caq : Nat) (caN : Nat) (caW : Nat) (ca2 : Nat) (ca3 : Nat) (ca4 : Nat) (ca5 : Nat) (ca6 : Nat) (ca7 : Nat) (ca8 : Nat) (ca9 : Nat) (ca10 : Nat) (ca11 : Nat) (ca12 : Nat) (ca13 : Nat) (ca14 : Nat) (xSt : Nat → Nat) (ow : Nat) (h_n : caN ≤ 60) (h_st : ∀ k, xSt k ≤ 2) (h_o : ow < 4) : sx_Met l yX1_inState cX1_inState 4 (some .int) 0 0 0 0 G [.ref caq, .int (nI ow)] [(caq, .inr (1, [.int (nI caN), .int (nI caW), .ref ca2, .ref ca3, .ref ca4, .ref ca5, .ref ca6, .ref ca7, .ref ca8, .ref ca9, .ref ca10, .ref ca11, .ref ca12, .ref ca13, .ref ca14])), (ca7, .inl (G.2.1, 60, .inl (fun k => nI (xSt k))))] sz (sx_Qi G (fun (r : Int32) (u : Unit) => r = nI (insN xSt ow caN)) (fun (u : Unit) => [(caq, .inr (1, [.int (nI caN), .int (nI caW), .ref ca2, .ref ca3, .ref ca4, .ref ca5, .ref ca6, .ref ca7, .ref ca8, .ref ca9, .ref ca10, .ref ca11, .ref ca12, .ref ca13, .ref ca14])), (ca7, .inl (G.2.1, 60, .inl (fun k => nI (xSt k))))])) := by
  refine sx_start (by decide) rfl (fun p e s m below meth c A ls F hr hlk hnm hP hD hS hl => ?_)
  obtain ⟨hx, hb, hml, hown, hts, hK, hE, hA⟩ := id F
  have hown : s.vm.findClass RX1 = some m.cls := hown
  generalize hHe : s.heap = H at hP
  have hS : va_S A s.heap H [] := by rw [← hHe]; exact va_S.rf
  have hl : lv_has ls 4 [(0, .ref caq), (1, .int (nI ow))] := hl
  refine lv_iconst (v := 0) hx hb dX1_inState_0 (by decide) ?_
  refine lv_istore_n (lv' := [(2, .int 0), (0, .ref caq), (1, .int (nI ow))]) hx hb dX1_inState_1 rfl hl (by decide) rfl (fun ls hl => ?_)
  refine lv_iconst (v := 0) hx hb dX1_inState_2 (by decide) ?_
  refine lv_istore_n (lv' := [(3, .int 0), (2, .int 0), (0, .ref caq), (1, .int (nI ow))]) hx hb dX1_inState_3 rfl hl (by decide) rfl (fun ls hl => ?_)
  refine sx_loop (nL := 4) (fun i => [(caq, .inr (1, [.int (nI caN), .int (nI caW), .ref ca2, .ref ca3, .ref ca4, .ref ca5, .ref ca6, .ref ca7, .ref ca8, .ref ca9, .ref ca10, .ref ca11, .ref ca12, .ref ca13, .ref ca14])), (ca7, .inl (G.2.1, 60, .inl (fun k => nI (xSt k))))]) (fun i => [(2, .int (nI (insN xSt ow i))), (3, .int (nI i)), (0, .ref caq), (1, .int (nI ow))]) (fun i => True) caN trivial hP hD hS (lv_sub hl [1, 0, 2, 3] rfl) (fun i_1 hi_i_1 hI_i_1 H locs ls hP hD hS hl ih_i_1 => ?_)
  have hP : va_P (sx_D G) vwCl [(caq, .inr (1, [.int (nI caN), .int (nI caW), .ref ca2, .ref ca3, .ref ca4, .ref ca5, .ref ca6, .ref ca7, .ref ca8, .ref ca9, .ref ca10, .ref ca11, .ref ca12, .ref ca13, .ref ca14])), (ca7, .inl (G.2.1, 60, .inl (fun k => nI (xSt k))))] H := hP
  have hD : va_D A [(caq, .inr (1, [.int (nI caN), .int (nI caW), .ref ca2, .ref ca3, .ref ca4, .ref ca5, .ref ca6, .ref ca7, .ref ca8, .ref ca9, .ref ca10, .ref ca11, .ref ca12, .ref ca13, .ref ca14])), (ca7, .inl (G.2.1, 60, .inl (fun k => nI (xSt k))))] := hD
  have hl : lv_has ls 4 [(2, .int (nI (insN xSt ow i_1))), (3, .int (nI i_1)), (0, .ref caq), (1, .int (nI ow))] := hl
  have hI_i_1 : True := hI_i_1
  refine lv_iload_n hx hb dX1_inState_4 rfl (lv_at hl 1 rfl) ?_
  refine lv_aload_n hx hb dX1_inState_5 rfl (lv_at hl 2 rfl) ?_
  refine va_get (D := sx_D G) (ci := 1) (v := .int (nI caN)) (C := RX1) (T := TX1) (N := 15) hx hb hts inX1 hown hK hP 0 rfl rfl 0 (by decide) (hts _ q163) (fun _ h9 => h9) rfl dX1_inState_6 ?_
  refine lv_icmp_ge (tgt := 36) hx hb dX1_inState_9 (by decide) (fun c_2 => ?_) (fun c_2 => ?_)
  · have c_2 : caN ≤ i_1 := by have h9 : ((caN : Nat) : Int) ≤ ((i_1 : Nat) : Int) := (sJ_le (a := ((caN : Nat) : Int)) (b := ((i_1 : Nat) : Int)) (by omega) (by omega) (by omega) (by omega)).mp c_2; omega
    refine lv_iload_n hx hb dX1_inState_36 rfl (lv_at hl 0 rfl) ?_
    exact (sx_iret (v := nI (insN xSt ow i_1)) () hx hb hr rfl hlk hP hD hS (congrArg (fun z => nI (insN xSt ow z)) (by omega)) dX1_inState_37 rfl rfl)
  · have c_2 : ¬ (caN ≤ i_1) := by have h9 : ¬ (((caN : Nat) : Int) ≤ ((i_1 : Nat) : Int)) := fun h => c_2 ((sJ_le (a := ((caN : Nat) : Int)) (b := ((i_1 : Nat) : Int)) (by omega) (by omega) (by omega) (by omega)).mpr h); omega
    refine lv_iload_n hx hb dX1_inState_12 rfl (lv_at hl 0 rfl) ?_
    refine lv_aload_n hx hb dX1_inState_13 rfl (lv_at hl 2 rfl) ?_
    refine va_get (D := sx_D G) (ci := 1) (v := .ref ca7) (C := RX1) (T := TX1) (N := 15) hx hb hts inX1 hown hK hP 0 rfl rfl 7 (by decide) (hts _ q185) (fun _ h9 => h9) rfl dX1_inState_14 ?_
    refine lv_iload_n hx hb dX1_inState_17 rfl (lv_at hl 1 rfl) ?_
    refine sx_ild (X := i_1) hx hb hK hP 1 rfl (by omega) rfl dX1_inState_18 ?_
    have b_3 := h_st i_1
    refine lv_iload_n hx hb dX1_inState_19 rfl (lv_at hl 3 rfl) ?_
    refine lv_icmp_ne (tgt := 27) hx hb dX1_inState_20 (by decide) (fun c_4 => ?_) (fun c_4 => ?_)
    · have c_4 : ¬ ((xSt i_1) = ow) := by have h9 : ¬ (((xSt i_1 : Nat) : Int) = ((ow : Nat) : Int)) := fun h => c_4 ((sJ_eq (a := ((xSt i_1 : Nat) : Int)) (b := ((ow : Nat) : Int)) (by omega) (by omega) (by omega) (by omega)).mpr h); omega
      refine lv_iconst (v := 0) hx hb dX1_inState_27 (by decide) ?_
      refine lv_iadd hx hb dX1_inState_28 ?_
      refine sx_topI (nI_add (insN xSt ow i_1) 0) ?_
      refine lv_istore_n (lv' := [(2, .int (nI ((insN xSt ow i_1) + 0))), (3, .int (nI i_1)), (0, .ref caq), (1, .int (nI ow))]) hx hb dX1_inState_29 rfl hl (by decide) rfl (fun ls hl => ?_)
      refine lv_iinc (v := nI (i_1 + 1)) (lv' := [(3, .int (nI (i_1 + 1))), (2, .int (nI ((insN xSt ow i_1) + 0))), (0, .ref caq), (1, .int (nI ow))]) hx hb dX1_inState_30 hl (k := 1) rfl ((congrArg (fun t => nI i_1 + t) (show Int32.ofInt 1 = nI 1 by decide +kernel)).trans (nI_add i_1 1)) (by decide) rfl (fun ls hl => ?_)
      refine lv_goto (tgt := 4) hx hb dX1_inState_33 (by decide) ?_
      have e9_0 : insN xSt ow (i_1 + 1) = ((insN xSt ow i_1) + 0) := (by rw [insN_s]; simp [c_4])
      have hl : lv_has ls 4 [(2, .int (nI (insN xSt ow (i_1 + 1)))), (3, .int (nI (i_1 + 1))), (0, .ref caq), (1, .int (nI ow))] := by rw [e9_0]; exact lv_sub hl [1, 0, 2, 3] rfl
      exact ih_i_1 _ _ _ (by omega) trivial hP hD hS hl
    · have c_4 : (xSt i_1) = ow := by have h9 : ((xSt i_1 : Nat) : Int) = ((ow : Nat) : Int) := (sJ_eq (a := ((xSt i_1 : Nat) : Int)) (b := ((ow : Nat) : Int)) (by omega) (by omega) (by omega) (by omega)).mp c_4; omega
      refine lv_iconst (v := 1) hx hb dX1_inState_23 (by decide) ?_
      refine lv_goto (tgt := 28) hx hb dX1_inState_24 (by decide) ?_
      refine lv_iadd hx hb dX1_inState_28 ?_
      refine sx_topI (nI_add (insN xSt ow i_1) 1) ?_
      refine lv_istore_n (lv' := [(2, .int (nI ((insN xSt ow i_1) + 1))), (3, .int (nI i_1)), (0, .ref caq), (1, .int (nI ow))]) hx hb dX1_inState_29 rfl hl (by decide) rfl (fun ls hl => ?_)
      refine lv_iinc (v := nI (i_1 + 1)) (lv' := [(3, .int (nI (i_1 + 1))), (2, .int (nI ((insN xSt ow i_1) + 1))), (0, .ref caq), (1, .int (nI ow))]) hx hb dX1_inState_30 hl (k := 1) rfl ((congrArg (fun t => nI i_1 + t) (show Int32.ofInt 1 = nI 1 by decide +kernel)).trans (nI_add i_1 1)) (by decide) rfl (fun ls hl => ?_)
      refine lv_goto (tgt := 4) hx hb dX1_inState_33 (by decide) ?_
      have e9_0 : insN xSt ow (i_1 + 1) = ((insN xSt ow i_1) + 1) := (by rw [insN_s]; simp [c_4])
      have hl : lv_has ls 4 [(2, .int (nI (insN xSt ow (i_1 + 1)))), (3, .int (nI (i_1 + 1))), (0, .ref caq), (1, .int (nI ow))] := by rw [e9_0]; exact lv_sub hl [1, 0, 2, 3] rfl
      exact ih_i_1 _ _ _ (by omega) trivial hP hD hS hl
set_option maxHeartbeats 4000000 in
set_option maxRecDepth 100000 in
theorem m_X1_allHits (l : Launch) (G : sx_G) (sz : Nat) (caq : Nat) (caN : Nat) (caW : Nat) (ca2 : Nat) (ca3 : Nat) (ca4 : Nat) (ca5 : Nat) (ca6 : Nat) (ca7 : Nat) (ca8 : Nat) (ca9 : Nat) (ca10 : Nat) (ca11 : Nat) (ca12 : Nat) (ca13 : Nat) (ca14 : Nat) (xHi : Nat → Nat) (h_n : caN ≤ 60) : sx_Met l yX1_allHits cX1_allHits 3 (some .int) 0 0 0 0 G [.ref caq] [(caq, .inr (1, [.int (nI caN), .int (nI caW), .ref ca2, .ref ca3, .ref ca4, .ref ca5, .ref ca6, .ref ca7, .ref ca8, .ref ca9, .ref ca10, .ref ca11, .ref ca12, .ref ca13, .ref ca14])), (ca6, .inl (G.2.1, 60, .inl (fun k => nI (xHi k))))] sz (sx_Qi G (fun (r : Int32) (u : Unit) => r = nI (sumN xHi caN)) (fun (u : Unit) => [(caq, .inr (1, [.int (nI caN), .int (nI caW), .ref ca2, .ref ca3, .ref ca4, .ref ca5, .ref ca6, .ref ca7, .ref ca8, .ref ca9, .ref ca10, .ref ca11, .ref ca12, .ref ca13, .ref ca14])), (ca6, .inl (G.2.1, 60, .inl (fun k => nI (xHi k))))])) := by
  refine sx_start (by decide) rfl (fun p e s m below meth c A ls F hr hlk hnm hP hD hS hl => ?_)
  obtain ⟨hx, hb, hml, hown, hts, hK, hE, hA⟩ := id F
  have hown : s.vm.findClass RX1 = some m.cls := hown
  generalize hHe : s.heap = H at hP
  have hS : va_S A s.heap H [] := by rw [← hHe]; exact va_S.rf
  have hl : lv_has ls 3 [(0, .ref caq)] := hl
  refine lv_iconst (v := 0) hx hb dX1_allHits_0 (by decide) ?_
  refine lv_istore_n (lv' := [(1, .int 0), (0, .ref caq)]) hx hb dX1_allHits_1 rfl hl (by decide) rfl (fun ls hl => ?_)
  refine lv_iconst (v := 0) hx hb dX1_allHits_2 (by decide) ?_
  refine lv_istore_n (lv' := [(2, .int 0), (1, .int 0), (0, .ref caq)]) hx hb dX1_allHits_3 rfl hl (by decide) rfl (fun ls hl => ?_)
  refine sx_loop (nL := 3) (fun i => [(caq, .inr (1, [.int (nI caN), .int (nI caW), .ref ca2, .ref ca3, .ref ca4, .ref ca5, .ref ca6, .ref ca7, .ref ca8, .ref ca9, .ref ca10, .ref ca11, .ref ca12, .ref ca13, .ref ca14])), (ca6, .inl (G.2.1, 60, .inl (fun k => nI (xHi k))))]) (fun i => [(1, .int (nI (sumN xHi i))), (2, .int (nI i)), (0, .ref caq)]) (fun i => True) caN trivial hP hD hS (lv_sub hl [1, 0, 2] rfl) (fun i_1 hi_i_1 hI_i_1 H locs ls hP hD hS hl ih_i_1 => ?_)
  have hP : va_P (sx_D G) vwCl [(caq, .inr (1, [.int (nI caN), .int (nI caW), .ref ca2, .ref ca3, .ref ca4, .ref ca5, .ref ca6, .ref ca7, .ref ca8, .ref ca9, .ref ca10, .ref ca11, .ref ca12, .ref ca13, .ref ca14])), (ca6, .inl (G.2.1, 60, .inl (fun k => nI (xHi k))))] H := hP
  have hD : va_D A [(caq, .inr (1, [.int (nI caN), .int (nI caW), .ref ca2, .ref ca3, .ref ca4, .ref ca5, .ref ca6, .ref ca7, .ref ca8, .ref ca9, .ref ca10, .ref ca11, .ref ca12, .ref ca13, .ref ca14])), (ca6, .inl (G.2.1, 60, .inl (fun k => nI (xHi k))))] := hD
  have hl : lv_has ls 3 [(1, .int (nI (sumN xHi i_1))), (2, .int (nI i_1)), (0, .ref caq)] := hl
  have hI_i_1 : True := hI_i_1
  refine lv_iload_n hx hb dX1_allHits_4 rfl (lv_at hl 1 rfl) ?_
  refine lv_aload_n hx hb dX1_allHits_5 rfl (lv_at hl 2 rfl) ?_
  refine va_get (D := sx_D G) (ci := 1) (v := .int (nI caN)) (C := RX1) (T := TX1) (N := 15) hx hb hts inX1 hown hK hP 0 rfl rfl 0 (by decide) (hts _ q163) (fun _ h9 => h9) rfl dX1_allHits_6 ?_
  refine lv_icmp_ge (tgt := 27) hx hb dX1_allHits_9 (by decide) (fun c_2 => ?_) (fun c_2 => ?_)
  · have c_2 : caN ≤ i_1 := by have h9 : ((caN : Nat) : Int) ≤ ((i_1 : Nat) : Int) := (sJ_le (a := ((caN : Nat) : Int)) (b := ((i_1 : Nat) : Int)) (by omega) (by omega) (by omega) (by omega)).mp c_2; omega
    refine lv_iload_n hx hb dX1_allHits_27 rfl (lv_at hl 0 rfl) ?_
    exact (sx_iret (v := nI (sumN xHi i_1)) () hx hb hr rfl hlk hP hD hS (congrArg (fun z => nI (sumN xHi z)) (by omega)) dX1_allHits_28 rfl rfl)
  · have c_2 : ¬ (caN ≤ i_1) := by have h9 : ¬ (((caN : Nat) : Int) ≤ ((i_1 : Nat) : Int)) := fun h => c_2 ((sJ_le (a := ((caN : Nat) : Int)) (b := ((i_1 : Nat) : Int)) (by omega) (by omega) (by omega) (by omega)).mpr h); omega
    refine lv_iload_n hx hb dX1_allHits_12 rfl (lv_at hl 0 rfl) ?_
    refine lv_aload_n hx hb dX1_allHits_13 rfl (lv_at hl 2 rfl) ?_
    refine va_get (D := sx_D G) (ci := 1) (v := .ref ca6) (C := RX1) (T := TX1) (N := 15) hx hb hts inX1 hown hK hP 0 rfl rfl 6 (by decide) (hts _ q181) (fun _ h9 => h9) rfl dX1_allHits_14 ?_
    refine lv_iload_n hx hb dX1_allHits_17 rfl (lv_at hl 1 rfl) ?_
    refine sx_ild (X := i_1) hx hb hK hP 1 rfl (by omega) rfl dX1_allHits_18 ?_
    refine lv_iadd hx hb dX1_allHits_19 ?_
    refine sx_topI (nI_add (sumN xHi i_1) (xHi i_1)) ?_
    refine lv_istore_n (lv' := [(1, .int (nI ((sumN xHi i_1) + (xHi i_1)))), (2, .int (nI i_1)), (0, .ref caq)]) hx hb dX1_allHits_20 rfl hl (by decide) rfl (fun ls hl => ?_)
    refine lv_iinc (v := nI (i_1 + 1)) (lv' := [(2, .int (nI (i_1 + 1))), (1, .int (nI ((sumN xHi i_1) + (xHi i_1)))), (0, .ref caq)]) hx hb dX1_allHits_21 hl (k := 1) rfl ((congrArg (fun t => nI i_1 + t) (show Int32.ofInt 1 = nI 1 by decide +kernel)).trans (nI_add i_1 1)) (by decide) rfl (fun ls hl => ?_)
    refine lv_goto (tgt := 4) hx hb dX1_allHits_24 (by decide) ?_
    have e9_0 : sumN xHi (i_1 + 1) = ((sumN xHi i_1) + (xHi i_1)) := (by rw [sumN_s])
    have hl : lv_has ls 3 [(1, .int (nI (sumN xHi (i_1 + 1)))), (2, .int (nI (i_1 + 1))), (0, .ref caq)] := by rw [e9_0]; exact lv_sub hl [1, 0, 2] rfl
    exact ih_i_1 _ _ _ (by omega) trivial hP hD hS hl
set_option maxHeartbeats 4000000 in
set_option maxRecDepth 100000 in
theorem m_X1_worth (l : Launch) (G : sx_G) (sz : Nat) (caq : Nat) (caN : Nat) (caW : Nat) (ca2 : Nat) (ca3 : Nat) (ca4 : Nat) (ca5 : Nat) (ca6 : Nat) (ca7 : Nat) (ca8 : Nat) (ca9 : Nat) (ca10 : Nat) (ca11 : Nat) (ca12 : Nat) (ca13 : Nat) (ca14 : Nat) (xSz : Nat → Nat) (xCo : Nat → Nat) (xHi : Nat → Nat) (ei : Nat) (h_sz : ∀ k, xSz k ≤ 20) (h_co : ∀ k, xCo k ≤ 50) (h_hi : ∀ k, xHi k ≤ 100000) (h_e : ei < 60) : sx_Met l yX1_worth cX1_worth 2 (some .int) 0 0 0 0 G [.ref caq, .int (nI ei)] [(caq, .inr (1, [.int (nI caN), .int (nI caW), .ref ca2, .ref ca3, .ref ca4, .ref ca5, .ref ca6, .ref ca7, .ref ca8, .ref ca9, .ref ca10, .ref ca11, .ref ca12, .ref ca13, .ref ca14])), (ca9, .inl (G.2.1, 60, .inl (fun k => nI (xSz k)))), (ca8, .inl (G.2.1, 60, .inl (fun k => nI (xCo k)))), (ca6, .inl (G.2.1, 60, .inl (fun k => nI (xHi k))))] sz (sx_Qi G (fun (r : Int32) (u : Unit) => r = nI (worN (xCo ei) (xHi ei) (xSz ei))) (fun (u : Unit) => [(caq, .inr (1, [.int (nI caN), .int (nI caW), .ref ca2, .ref ca3, .ref ca4, .ref ca5, .ref ca6, .ref ca7, .ref ca8, .ref ca9, .ref ca10, .ref ca11, .ref ca12, .ref ca13, .ref ca14])), (ca9, .inl (G.2.1, 60, .inl (fun k => nI (xSz k)))), (ca8, .inl (G.2.1, 60, .inl (fun k => nI (xCo k)))), (ca6, .inl (G.2.1, 60, .inl (fun k => nI (xHi k))))])) := by
  refine sx_start (by decide) rfl (fun p e s m below meth c A ls F hr hlk hnm hP hD hS hl => ?_)
  obtain ⟨hx, hb, hml, hown, hts, hK, hE, hA⟩ := id F
  have hown : s.vm.findClass RX1 = some m.cls := hown
  generalize hHe : s.heap = H at hP
  have hS : va_S A s.heap H [] := by rw [← hHe]; exact va_S.rf
  have hl : lv_has ls 2 [(0, .ref caq), (1, .int (nI ei))] := hl
  refine lv_aload_n hx hb dX1_worth_0 rfl (lv_at hl 0 rfl) ?_
  refine va_get (D := sx_D G) (ci := 1) (v := .ref ca9) (C := RX1) (T := TX1) (N := 15) hx hb hts inX1 hown hK hP 0 rfl rfl 9 (by decide) (hts _ q190) (fun _ h9 => h9) rfl dX1_worth_1 ?_
  refine lv_iload_n hx hb dX1_worth_4 rfl (lv_at hl 1 rfl) ?_
  refine sx_ild (X := ei) hx hb hK hP 1 rfl (by omega) rfl dX1_worth_5 ?_
  have b_1 := h_sz ei
  refine lv_iconst (v := 1) hx hb dX1_worth_6 (by decide) ?_
  refine lv_icmp_ge (tgt := 14) hx hb dX1_worth_7 (by decide) (fun c_2 => ?_) (fun c_2 => ?_)
  · have c_2 : 1 ≤ (xSz ei) := by have h9 : (1 : Int) ≤ ((xSz ei : Nat) : Int) := (sJ_le (a := (1 : Int)) (b := ((xSz ei : Nat) : Int)) (by omega) (by omega) (by omega) (by omega)).mp c_2; omega
    refine lv_aload_n hx hb dX1_worth_14 rfl (lv_at hl 0 rfl) ?_
    refine va_get (D := sx_D G) (ci := 1) (v := .ref ca8) (C := RX1) (T := TX1) (N := 15) hx hb hts inX1 hown hK hP 0 rfl rfl 8 (by decide) (hts _ q189) (fun _ h9 => h9) rfl dX1_worth_15 ?_
    refine lv_iload_n hx hb dX1_worth_18 rfl (lv_at hl 1 rfl) ?_
    refine sx_ild (X := ei) hx hb hK hP 2 rfl (by omega) rfl dX1_worth_19 ?_
    have b_3 := h_co ei
    refine lv_aload_n hx hb dX1_worth_20 rfl (lv_at hl 0 rfl) ?_
    refine va_get (D := sx_D G) (ci := 1) (v := .ref ca6) (C := RX1) (T := TX1) (N := 15) hx hb hts inX1 hown hK hP 0 rfl rfl 6 (by decide) (hts _ q181) (fun _ h9 => h9) rfl dX1_worth_21 ?_
    refine lv_iload_n hx hb dX1_worth_24 rfl (lv_at hl 1 rfl) ?_
    refine sx_ild (X := ei) hx hb hK hP 3 rfl (by omega) rfl dX1_worth_25 ?_
    have b_4 := h_hi ei
    refine lv_iconst (v := 1) hx hb dX1_worth_26 (by decide) ?_
    refine lv_iadd hx hb dX1_worth_27 ?_
    refine sx_topI (nI_add (xHi ei) 1) ?_
    refine lv_imul hx hb dX1_worth_28 ?_
    refine sx_topI (pk_mul (xCo ei) ((xHi ei) + 1)) ?_
    refine lv_bipush (v := 10) hx hb dX1_worth_29 (by decide) ?_
    refine lv_imul hx hb dX1_worth_31 ?_
    refine sx_topI (pk_mul ((xCo ei) * ((xHi ei) + 1)) 10) ?_
    refine lv_aload_n hx hb dX1_worth_32 rfl (lv_at hl 0 rfl) ?_
    refine va_get (D := sx_D G) (ci := 1) (v := .ref ca9) (C := RX1) (T := TX1) (N := 15) hx hb hts inX1 hown hK hP 0 rfl rfl 9 (by decide) (hts _ q190) (fun _ h9 => h9) rfl dX1_worth_33 ?_
    refine lv_iload_n hx hb dX1_worth_36 rfl (lv_at hl 1 rfl) ?_
    refine sx_ild (X := ei) hx hb hK hP 1 rfl (by omega) rfl dX1_worth_37 ?_
    have b_5 := h_sz ei
    refine lv_idiv hx hb dX1_worth_38 (nI_ne0 (by omega) (by omega)) ?_
    refine sx_topI (pk_div (a := (((xCo ei) * ((xHi ei) + 1)) * 10)) (d := (xSz ei)) (worN_b (h_co ei) (Nat.succ_le_succ (h_hi ei))) (by omega) (by omega)) ?_
    exact (sx_iret (v := nI ((((xCo ei) * ((xHi ei) + 1)) * 10) / (xSz ei))) () hx hb hr rfl hlk hP hD hS (congrArg nI (if_neg (by omega)).symm) dX1_worth_39 rfl rfl)
  · have c_2 : ¬ (1 ≤ (xSz ei)) := by have h9 : ¬ ((1 : Int) ≤ ((xSz ei : Nat) : Int)) := fun h => c_2 ((sJ_le (a := (1 : Int)) (b := ((xSz ei : Nat) : Int)) (by omega) (by omega) (by omega) (by omega)).mpr h); omega
    refine lv_iconst (v := 0) hx hb dX1_worth_10 (by decide) ?_
    refine lv_goto (tgt := 39) hx hb dX1_worth_11 (by decide) ?_
    exact (sx_iret (v := 0) () hx hb hr rfl hlk hP hD hS (congrArg nI (if_pos (by omega)).symm) dX1_worth_39 rfl rfl)
set_option maxHeartbeats 4000000 in
set_option maxRecDepth 100000 in
theorem m_X2_allRuns (l : Launch) (G : sx_G) (sz : Nat) (crq : Nat) (crN : Nat) (cr1 : Nat) (cr2 : Nat) (cr3 : Nat) (cr4 : Nat) (cr5 : Nat) (yRu : Nat → Nat) (h_n : crN ≤ 4) : sx_Met l yX2_allRuns cX2_allRuns 3 (some .int) 0 0 0 0 G [.ref crq] [(crq, .inr (2, [.int (nI crN), .ref cr1, .ref cr2, .ref cr3, .ref cr4, .ref cr5])), (cr3, .inl (G.2.1, 4, .inl (fun k => nI (yRu k))))] sz (sx_Qi G (fun (r : Int32) (u : Unit) => r = nI (sumN yRu crN)) (fun (u : Unit) => [(crq, .inr (2, [.int (nI crN), .ref cr1, .ref cr2, .ref cr3, .ref cr4, .ref cr5])), (cr3, .inl (G.2.1, 4, .inl (fun k => nI (yRu k))))])) := by
  refine sx_start (by decide) rfl (fun p e s m below meth c A ls F hr hlk hnm hP hD hS hl => ?_)
  obtain ⟨hx, hb, hml, hown, hts, hK, hE, hA⟩ := id F
  have hown : s.vm.findClass RX2 = some m.cls := hown
  generalize hHe : s.heap = H at hP
  have hS : va_S A s.heap H [] := by rw [← hHe]; exact va_S.rf
  have hl : lv_has ls 3 [(0, .ref crq)] := hl
  refine lv_iconst (v := 0) hx hb dX2_allRuns_0 (by decide) ?_
  refine lv_istore_n (lv' := [(1, .int 0), (0, .ref crq)]) hx hb dX2_allRuns_1 rfl hl (by decide) rfl (fun ls hl => ?_)
  refine lv_iconst (v := 0) hx hb dX2_allRuns_2 (by decide) ?_
  refine lv_istore_n (lv' := [(2, .int 0), (1, .int 0), (0, .ref crq)]) hx hb dX2_allRuns_3 rfl hl (by decide) rfl (fun ls hl => ?_)
  refine sx_loop (nL := 3) (fun i => [(crq, .inr (2, [.int (nI crN), .ref cr1, .ref cr2, .ref cr3, .ref cr4, .ref cr5])), (cr3, .inl (G.2.1, 4, .inl (fun k => nI (yRu k))))]) (fun i => [(1, .int (nI (sumN yRu i))), (2, .int (nI i)), (0, .ref crq)]) (fun i => True) crN trivial hP hD hS (lv_sub hl [1, 0, 2] rfl) (fun i_1 hi_i_1 hI_i_1 H locs ls hP hD hS hl ih_i_1 => ?_)
  have hP : va_P (sx_D G) vwCl [(crq, .inr (2, [.int (nI crN), .ref cr1, .ref cr2, .ref cr3, .ref cr4, .ref cr5])), (cr3, .inl (G.2.1, 4, .inl (fun k => nI (yRu k))))] H := hP
  have hD : va_D A [(crq, .inr (2, [.int (nI crN), .ref cr1, .ref cr2, .ref cr3, .ref cr4, .ref cr5])), (cr3, .inl (G.2.1, 4, .inl (fun k => nI (yRu k))))] := hD
  have hl : lv_has ls 3 [(1, .int (nI (sumN yRu i_1))), (2, .int (nI i_1)), (0, .ref crq)] := hl
  have hI_i_1 : True := hI_i_1
  refine lv_iload_n hx hb dX2_allRuns_4 rfl (lv_at hl 1 rfl) ?_
  refine lv_aload_n hx hb dX2_allRuns_5 rfl (lv_at hl 2 rfl) ?_
  refine va_get (D := sx_D G) (ci := 2) (v := .int (nI crN)) (C := RX2) (T := TX2) (N := 6) hx hb hts inX2 hown hK hP 0 rfl rfl 0 (by decide) (hts _ q100) (fun _ h9 => h9) rfl dX2_allRuns_6 ?_
  refine lv_icmp_ge (tgt := 27) hx hb dX2_allRuns_9 (by decide) (fun c_2 => ?_) (fun c_2 => ?_)
  · have c_2 : crN ≤ i_1 := by have h9 : ((crN : Nat) : Int) ≤ ((i_1 : Nat) : Int) := (sJ_le (a := ((crN : Nat) : Int)) (b := ((i_1 : Nat) : Int)) (by omega) (by omega) (by omega) (by omega)).mp c_2; omega
    refine lv_iload_n hx hb dX2_allRuns_27 rfl (lv_at hl 0 rfl) ?_
    exact (sx_iret (v := nI (sumN yRu i_1)) () hx hb hr rfl hlk hP hD hS (congrArg (fun z => nI (sumN yRu z)) (by omega)) dX2_allRuns_28 rfl rfl)
  · have c_2 : ¬ (crN ≤ i_1) := by have h9 : ¬ (((crN : Nat) : Int) ≤ ((i_1 : Nat) : Int)) := fun h => c_2 ((sJ_le (a := ((crN : Nat) : Int)) (b := ((i_1 : Nat) : Int)) (by omega) (by omega) (by omega) (by omega)).mpr h); omega
    refine lv_iload_n hx hb dX2_allRuns_12 rfl (lv_at hl 0 rfl) ?_
    refine lv_aload_n hx hb dX2_allRuns_13 rfl (lv_at hl 2 rfl) ?_
    refine va_get (D := sx_D G) (ci := 2) (v := .ref cr3) (C := RX2) (T := TX2) (N := 6) hx hb hts inX2 hown hK hP 0 rfl rfl 3 (by decide) (hts _ q107) (fun _ h9 => h9) rfl dX2_allRuns_14 ?_
    refine lv_iload_n hx hb dX2_allRuns_17 rfl (lv_at hl 1 rfl) ?_
    refine sx_ild (X := i_1) hx hb hK hP 1 rfl (by omega) rfl dX2_allRuns_18 ?_
    refine lv_iadd hx hb dX2_allRuns_19 ?_
    refine sx_topI (nI_add (sumN yRu i_1) (yRu i_1)) ?_
    refine lv_istore_n (lv' := [(1, .int (nI ((sumN yRu i_1) + (yRu i_1)))), (2, .int (nI i_1)), (0, .ref crq)]) hx hb dX2_allRuns_20 rfl hl (by decide) rfl (fun ls hl => ?_)
    refine lv_iinc (v := nI (i_1 + 1)) (lv' := [(2, .int (nI (i_1 + 1))), (1, .int (nI ((sumN yRu i_1) + (yRu i_1)))), (0, .ref crq)]) hx hb dX2_allRuns_21 hl (k := 1) rfl ((congrArg (fun t => nI i_1 + t) (show Int32.ofInt 1 = nI 1 by decide +kernel)).trans (nI_add i_1 1)) (by decide) rfl (fun ls hl => ?_)
    refine lv_goto (tgt := 4) hx hb dX2_allRuns_24 (by decide) ?_
    have e9_0 : sumN yRu (i_1 + 1) = ((sumN yRu i_1) + (yRu i_1)) := (by rw [sumN_s])
    have hl : lv_has ls 3 [(1, .int (nI (sumN yRu (i_1 + 1)))), (2, .int (nI (i_1 + 1))), (0, .ref crq)] := by rw [e9_0]; exact lv_sub hl [1, 0, 2] rfl
    exact ih_i_1 _ _ _ (by omega) trivial hP hD hS hl
