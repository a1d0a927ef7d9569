/-! what is asked rightly throws nothing -/
set_option maxHeartbeats 4000000 in
set_option maxRecDepth 100000 in
theorem m_needIndexZ (l : Launch) (G : sx_G) (sz : Nat) (i : Int) (cnt : Nat) (h_i : -2147483648 ≤ i ∧ i < 2147483648) (h_cnt : cnt < 2147483648) (h_in : 0 ≤ i ∧ i < (cnt : Int)) : sx_Met l yX7_needIndex cX7_needIndex 2 none 2 43 0 0 G [.int (sJ i), .int (nI cnt)] [] sz (sx_Qv G (fun (u : Unit) => True) (fun (u : Unit) => [])) := by
  refine sx_start (by decide) rfl (fun p e s m below meth c A ls F hr hlk hnm hP hD hS hl => ?_)
  obtain ⟨hx, hb, hml, hown, hts, hK, hE, hA⟩ := id F
  have hown : s.vm.findClass RX7 = some m.cls := hown
  generalize hHe : s.heap = H at hP
  have hS : va_S A s.heap H [] := by rw [← hHe]; exact va_S.rf
  have hl : lv_has ls 2 [(0, .int (sJ i)), (1, .int (nI cnt))] := hl
  refine lv_iload_n hx hb dX7_needIndex_0 rfl (lv_at hl 0 rfl) ?_
  refine lv_iload_n hx hb dX7_needIndex_1 rfl (lv_at hl 1 rfl) ?_
  have hcut : sx_cut [] [] [] [] [] := ⟨rfl, rfl, by decide, by decide, by decide⟩
  refine sx_ki (sx_runS (As := [.int (sJ i), .int (nI cnt)]) (rest := []) F (m_X7_isIndex l G H.size i cnt (show -2147483648 ≤ i ∧ i < 2147483648 from (by first | assumption | omega)) (show cnt < 2147483648 from (by first | assumption | omega))) mi_X7_isIndex q468 q467 ⟨⟨Nat.le_of_ble_eq_true rfl, Nat.le_of_ble_eq_true rfl⟩, Nat.le_of_ble_eq_true rfl, Nat.le_of_ble_eq_true rfl⟩ hcut hP hD hS rfl hl.1 rfl (Nat.le_of_ble_eq_true rfl) dX7_needIndex_2) hcut hP hD hS hA (fun r_3 u_1 H locs w_2 hP hD hS => ?_)
  have hP : va_P (sx_D G) vwCl [] H := hP
  have hD : va_D A [] := hD
  have w_2 : r_3 = sB (decide (0 ≤ i ∧ i < (cnt : Int))) := w_2
  subst w_2
  refine lv_if_ne (tgt := 18) hx hb dX7_needIndex_5 (by decide) (fun c_4 => ?_) (fun c_4 => absurd h_in (of_decide_eq_false (sB_0 c_4)))
  exact (sx_vret () hx hb hr hlk hP hD hS trivial dX7_needIndex_18 rfl rfl)
set_option maxHeartbeats 4000000 in
set_option maxRecDepth 100000 in
theorem m_needArgumentZ (l : Launch) (G : sx_G) (sz : Nat) (b : Bool) (h_b : b = true) : sx_Met l yX7_needArgument cX7_needArgument 1 none 0 0 0 0 G [.int (sB b)] [] sz (sx_Qv G (fun (u : Unit) => True) (fun (u : Unit) => [])) := by
  refine sx_start (by decide) rfl (fun p e s m below meth c A ls F hr hlk hnm hP hD hS hl => ?_)
  obtain ⟨hx, hb, hml, hown, hts, hK, hE, hA⟩ := id F
  have hown : s.vm.findClass RX7 = some m.cls := hown
  generalize hHe : s.heap = H at hP
  have hS : va_S A s.heap H [] := by rw [← hHe]; exact va_S.rf
  have hl : lv_has ls 1 [(0, .int (sB b))] := hl
  refine lv_iload_n hx hb dX7_needArgument_0 rfl (lv_at hl 0 rfl) ?_
  refine lv_if_ne (tgt := 15) hx hb dX7_needArgument_1 (by decide) (fun c_1 => ?_) (fun c_1 => absurd (h_b.symm.trans (sB_0 c_1)) (by decide))
  exact (sx_vret () hx hb hr hlk hP hD hS trivial dX7_needArgument_15 rfl rfl)
set_option maxHeartbeats 4000000 in
set_option maxRecDepth 100000 in
theorem m_needStateZ (l : Launch) (G : sx_G) (sz : Nat) (b : Bool) (h_b : b = true) : sx_Met l yX7_needState cX7_needState 1 none 0 0 0 0 G [.int (sB b)] [] sz (sx_Qv G (fun (u : Unit) => True) (fun (u : Unit) => [])) := by
  refine sx_start (by decide) rfl (fun p e s m below meth c A ls F hr hlk hnm hP hD hS hl => ?_)
  obtain ⟨hx, hb, hml, hown, hts, hK, hE, hA⟩ := id F
  have hown : s.vm.findClass RX7 = some m.cls := hown
  generalize hHe : s.heap = H at hP
  have hS : va_S A s.heap H [] := by rw [← hHe]; exact va_S.rf
  have hl : lv_has ls 1 [(0, .int (sB b))] := hl
  refine lv_iload_n hx hb dX7_needState_0 rfl (lv_at hl 0 rfl) ?_
  refine lv_if_ne (tgt := 15) hx hb dX7_needState_1 (by decide) (fun c_1 => ?_) (fun c_1 => absurd (h_b.symm.trans (sB_0 c_1)) (by decide))
  exact (sx_vret () hx hb hr hlk hP hD hS trivial dX7_needState_15 rfl rfl)
