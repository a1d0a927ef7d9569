set_option maxHeartbeats 4000000 in
set_option maxRecDepth 100000 in
theorem m_X4_allActions (l : Launch) (G : sx_G) (sz : Nat) (pl : Nat) (a0 : Nat) (a1 : Nat) (a3 : Nat) (a4 : Nat) (a5 : Nat) (a6 : Nat) (a7 : Nat) (a8 : Nat) (a9 : Nat) : sx_Met l yX4_allActions cX4_allActions 1 (some .int) 0 0 0 0 G [.ref pl] [(pl, .inr (6, [.ref a0, .ref a1, .int 0, .ref a3, .ref a4, .ref a5, .ref a6, .ref a7, .ref a8, .ref a9]))] sz (sx_Qi G (fun (r : Int32) (u : Unit) => r = 0) (fun (u : Unit) => [(pl, .inr (6, [.ref a0, .ref a1, .int 0, .ref a3, .ref a4, .ref a5, .ref a6, .ref a7, .ref a8, .ref a9]))])) := by
  refine sx_start (by decide) rfl (fun p e s m below meth c A ls F hr hlk hnm hP hD hS hl => ?_)
  obtain ⟨hx, hb, hml, hown, hts, hK, hE, hA⟩ := id F
  have hown : s.vm.findClass RX4 = some m.cls := hown
  generalize hHe : s.heap = H at hP
  have hS : va_S A s.heap H [] := by rw [← hHe]; exact va_S.rf
  have hl : lv_has ls 1 [(0, .ref pl)] := hl
  refine lv_iconst (v := 1) hx hb dX4_allActions_0 (by decide) ?_
  refine lv_aload_n hx hb dX4_allActions_1 rfl (lv_at hl 0 rfl) ?_
  refine va_get (D := sx_D G) (ci := 6) (v := .int 0) (C := RX4) (T := TX4) (N := 10) hx hb hts inX4 hown hK hP 0 rfl rfl 2 (by decide) (hts _ q59) (fun _ h9 => h9) rfl dX4_allActions_2 ?_
  refine lv_ishl hx hb dX4_allActions_5 ?_
  refine lv_topi (fun x_1 ex_1 => ?_)
  have ex_1 : x_1 = (1 : Int32) := ex_1.trans (by decide)
  subst ex_1
  refine lv_iconst (v := 1) hx hb dX4_allActions_6 (by decide) ?_
  refine lv_isub hx hb dX4_allActions_7 ?_
  refine lv_topi (fun x_2 ex_2 => ?_)
  have ex_2 : x_2 = (0 : Int32) := ex_2.trans (by decide)
  subst ex_2
  exact (sx_iret (v := 0) () hx hb hr rfl hlk hP hD hS rfl dX4_allActions_8 rfl rfl)
set_option maxHeartbeats 4000000 in
set_option maxRecDepth 100000 in
theorem m_X7_action (l : Launch) (hfl : l.stackTraces = false) (G : sx_G) (sz : Nat) (h : Nat) (b : Nat) (pl : Nat) (cr : Nat) (te : Nat) (ca : Nat) (a0 : Nat) (a1 : Nat) (a3 : Nat) (a4 : Nat) (a5 : Nat) (a6 : Nat) (a7 : Nat) (a8 : Nat) (a9 : Nat) (p0 : Int32) (p1 : Int32) (p2 : Int32) (p3 : Int32) (p4 : Int32) (p5 : Int32) : sx_MetX l yX7_action cX7_action 8 (some .int) 7 102 7 42 G [.ref h, .int p0, .int p1, .int p2, .int p3, .int p4, .int p5] [(h, .inr (9, [.ref b, .ref pl, .ref cr, .ref te, .ref ca])), (pl, .inr (6, [.ref a0, .ref a1, .int 0, .ref a3, .ref a4, .ref a5, .ref a6, .ref a7, .ref a8, .ref a9])), (a3, .inl (G.2.1, 14, .inl (fun _ => 0))), (a4, .inl (G.2.1, 14, .inl (fun _ => 0))), (a5, .inl (G.2.1, 14, .inl (fun _ => 0))), (a6, .inl (G.2.1, 14, .inl (fun _ => 0))), (a7, .inl (G.2.1, 14, .inl (fun _ => 0))), (a8, .inl (G.2.1, 14, .inl (fun _ => 0)))] sz (sx_Qi G (fun (r : Int32) (u : Unit) => r = 0 ∧ z_action p0 p1 p2 p3 p4 p5 = 0) (fun (u : Unit) => [])) (fun E => E = "java/lang/IllegalArgumentException" ∧ z_action p0 p1 p2 p3 p4 p5 = 1) := by
  refine sx_startX (by decide) rfl (fun p e s m below meth c A ls F hr hlk hnm hex hP hD hS hl => ?_)
  obtain ⟨hx, hb, hml, hown, hts, hK, hE, hA⟩ := id F
  have hown : s.vm.findClass RX7 = some m.cls := hown
  generalize hHe : s.heap = H at hP
  have hS : va_S A s.heap H [] := by rw [← hHe]; exact va_S.rf
  have hl : lv_has ls 8 [(0, .ref h), (1, .int p0), (2, .int p1), (3, .int p2), (4, .int p3), (5, .int p4), (6, .int p5)] := hl
  refine lv_iload_n hx hb dX7_action_0 rfl (lv_at hl 1 rfl) ?_
  refine lv_iconst (v := 0) hx hb dX7_action_1 (by decide) ?_
  refine lv_sipush (v := 255) hx hb dX7_action_2 (by decide) ?_
  have hcut : sx_cut [(h, .inr (9, [.ref b, .ref pl, .ref cr, .ref te, .ref ca])), (pl, .inr (6, [.ref a0, .ref a1, .int 0, .ref a3, .ref a4, .ref a5, .ref a6, .ref a7, .ref a8, .ref a9])), (a3, .inl (G.2.1, 14, .inl (fun _ => 0))), (a4, .inl (G.2.1, 14, .inl (fun _ => 0))), (a5, .inl (G.2.1, 14, .inl (fun _ => 0))), (a6, .inl (G.2.1, 14, .inl (fun _ => 0))), (a7, .inl (G.2.1, 14, .inl (fun _ => 0))), (a8, .inl (G.2.1, 14, .inl (fun _ => 0)))] [] [(h, .inr (9, [.ref b, .ref pl, .ref cr, .ref te, .ref ca])), (pl, .inr (6, [.ref a0, .ref a1, .int 0, .ref a3, .ref a4, .ref a5, .ref a6, .ref a7, .ref a8, .ref a9])), (a3, .inl (G.2.1, 14, .inl (fun _ => 0))), (a4, .inl (G.2.1, 14, .inl (fun _ => 0))), (a5, .inl (G.2.1, 14, .inl (fun _ => 0))), (a6, .inl (G.2.1, 14, .inl (fun _ => 0))), (a7, .inl (G.2.1, 14, .inl (fun _ => 0))), (a8, .inl (G.2.1, 14, .inl (fun _ => 0)))] [] [0, 1, 2, 3, 4, 5, 6, 7] := ⟨rfl, rfl, by decide, by decide, by decide⟩
  refine sx_ki (sx_runS (As := [.int p0, .int 0, .int 255]) (rest := []) F (m_X7_isWithin l G H.size p0 0 255) mi_X7_isWithin q368 q367 ⟨⟨Nat.le_of_ble_eq_true rfl, Nat.le_of_ble_eq_true rfl⟩, Nat.le_of_ble_eq_true rfl, Nat.le_of_ble_eq_true rfl⟩ hcut hP hD hS rfl hl.1 rfl (Nat.le_of_ble_eq_true rfl) dX7_action_5) hcut hP hD hS hA (fun r_3 u_1 H locs w_2 hP hD hS => ?_)
  have hP : va_P (sx_D G) vwCl [(h, .inr (9, [.ref b, .ref pl, .ref cr, .ref te, .ref ca])), (pl, .inr (6, [.ref a0, .ref a1, .int 0, .ref a3, .ref a4, .ref a5, .ref a6, .ref a7, .ref a8, .ref a9])), (a3, .inl (G.2.1, 14, .inl (fun _ => 0))), (a4, .inl (G.2.1, 14, .inl (fun _ => 0))), (a5, .inl (G.2.1, 14, .inl (fun _ => 0))), (a6, .inl (G.2.1, 14, .inl (fun _ => 0))), (a7, .inl (G.2.1, 14, .inl (fun _ => 0))), (a8, .inl (G.2.1, 14, .inl (fun _ => 0)))] H := hP
  have hD : va_D A [(h, .inr (9, [.ref b, .ref pl, .ref cr, .ref te, .ref ca])), (pl, .inr (6, [.ref a0, .ref a1, .int 0, .ref a3, .ref a4, .ref a5, .ref a6, .ref a7, .ref a8, .ref a9])), (a3, .inl (G.2.1, 14, .inl (fun _ => 0))), (a4, .inl (G.2.1, 14, .inl (fun _ => 0))), (a5, .inl (G.2.1, 14, .inl (fun _ => 0))), (a6, .inl (G.2.1, 14, .inl (fun _ => 0))), (a7, .inl (G.2.1, 14, .inl (fun _ => 0))), (a8, .inl (G.2.1, 14, .inl (fun _ => 0)))] := hD
  have w_2 : r_3 = zb (zw 0 255 p0) := w_2
  have hcut : sx_cut [(h, .inr (9, [.ref b, .ref pl, .ref cr, .ref te, .ref ca])), (pl, .inr (6, [.ref a0, .ref a1, .int 0, .ref a3, .ref a4, .ref a5, .ref a6, .ref a7, .ref a8, .ref a9])), (a3, .inl (G.2.1, 14, .inl (fun _ => 0))), (a4, .inl (G.2.1, 14, .inl (fun _ => 0))), (a5, .inl (G.2.1, 14, .inl (fun _ => 0))), (a6, .inl (G.2.1, 14, .inl (fun _ => 0))), (a7, .inl (G.2.1, 14, .inl (fun _ => 0))), (a8, .inl (G.2.1, 14, .inl (fun _ => 0)))] [] [(h, .inr (9, [.ref b, .ref pl, .ref cr, .ref te, .ref ca])), (pl, .inr (6, [.ref a0, .ref a1, .int 0, .ref a3, .ref a4, .ref a5, .ref a6, .ref a7, .ref a8, .ref a9])), (a3, .inl (G.2.1, 14, .inl (fun _ => 0))), (a4, .inl (G.2.1, 14, .inl (fun _ => 0))), (a5, .inl (G.2.1, 14, .inl (fun _ => 0))), (a6, .inl (G.2.1, 14, .inl (fun _ => 0))), (a7, .inl (G.2.1, 14, .inl (fun _ => 0))), (a8, .inl (G.2.1, 14, .inl (fun _ => 0)))] [] [0, 1, 2, 3, 4, 5, 6, 7] := ⟨rfl, rfl, by decide, by decide, by decide⟩
  refine sx_xkv (sx_xrunS (As := [.int r_3]) (rest := []) F (m_X7_needArgument l hfl G H.size r_3) mi_X7_needArgument q371 q370 ⟨⟨Nat.le_of_ble_eq_true rfl, Nat.le_of_ble_eq_true rfl⟩, Nat.le_of_ble_eq_true rfl, Nat.le_of_ble_eq_true rfl⟩ hcut hP hD hS rfl hl.1 rfl (Nat.le_of_ble_eq_true rfl) dX7_action_8) hcut hP hD hS hA (fun E ce q9 H locs hw9 hP hD hS hce hcv hcl => ?_) (fun u_4 H locs w_5 hP hD hS => ?_)
  · have hP : va_P (sx_D G) vwCl [(h, .inr (9, [.ref b, .ref pl, .ref cr, .ref te, .ref ca])), (pl, .inr (6, [.ref a0, .ref a1, .int 0, .ref a3, .ref a4, .ref a5, .ref a6, .ref a7, .ref a8, .ref a9])), (a3, .inl (G.2.1, 14, .inl (fun _ => 0))), (a4, .inl (G.2.1, 14, .inl (fun _ => 0))), (a5, .inl (G.2.1, 14, .inl (fun _ => 0))), (a6, .inl (G.2.1, 14, .inl (fun _ => 0))), (a7, .inl (G.2.1, 14, .inl (fun _ => 0))), (a8, .inl (G.2.1, 14, .inl (fun _ => 0)))] H := hP
    have hD : va_D A [(h, .inr (9, [.ref b, .ref pl, .ref cr, .ref te, .ref ca])), (pl, .inr (6, [.ref a0, .ref a1, .int 0, .ref a3, .ref a4, .ref a5, .ref a6, .ref a7, .ref a8, .ref a9])), (a3, .inl (G.2.1, 14, .inl (fun _ => 0))), (a4, .inl (G.2.1, 14, .inl (fun _ => 0))), (a5, .inl (G.2.1, 14, .inl (fun _ => 0))), (a6, .inl (G.2.1, 14, .inl (fun _ => 0))), (a7, .inl (G.2.1, 14, .inl (fun _ => 0))), (a8, .inl (G.2.1, 14, .inl (fun _ => 0)))] := hD
    exact sx_out (rest := []) hex hlk hce hcv hcl ⟨hw9.1, z1_1 (z_n1 (zb_f w_2 hw9.2))⟩ hS rfl rfl
  · have hP : va_P (sx_D G) vwCl [(h, .inr (9, [.ref b, .ref pl, .ref cr, .ref te, .ref ca])), (pl, .inr (6, [.ref a0, .ref a1, .int 0, .ref a3, .ref a4, .ref a5, .ref a6, .ref a7, .ref a8, .ref a9])), (a3, .inl (G.2.1, 14, .inl (fun _ => 0))), (a4, .inl (G.2.1, 14, .inl (fun _ => 0))), (a5, .inl (G.2.1, 14, .inl (fun _ => 0))), (a6, .inl (G.2.1, 14, .inl (fun _ => 0))), (a7, .inl (G.2.1, 14, .inl (fun _ => 0))), (a8, .inl (G.2.1, 14, .inl (fun _ => 0)))] H := hP
    have hD : va_D A [(h, .inr (9, [.ref b, .ref pl, .ref cr, .ref te, .ref ca])), (pl, .inr (6, [.ref a0, .ref a1, .int 0, .ref a3, .ref a4, .ref a5, .ref a6, .ref a7, .ref a8, .ref a9])), (a3, .inl (G.2.1, 14, .inl (fun _ => 0))), (a4, .inl (G.2.1, 14, .inl (fun _ => 0))), (a5, .inl (G.2.1, 14, .inl (fun _ => 0))), (a6, .inl (G.2.1, 14, .inl (fun _ => 0))), (a7, .inl (G.2.1, 14, .inl (fun _ => 0))), (a8, .inl (G.2.1, 14, .inl (fun _ => 0)))] := hD
    refine lv_iload_n hx hb dX7_action_11 rfl (lv_at hl 2 rfl) ?_
    refine lv_aload_n hx hb dX7_action_12 rfl (lv_at hl 0 rfl) ?_
    refine va_get (D := sx_D G) (ci := 9) (v := .ref pl) (C := RX7) (T := TX7) (N := 5) hx hb hts inX7 hown hK hP 0 rfl rfl 1 (by decide) (hts _ q334) (fun _ h9 => h9) rfl dX7_action_13 ?_
    have hcut : sx_cut [(h, .inr (9, [.ref b, .ref pl, .ref cr, .ref te, .ref ca])), (pl, .inr (6, [.ref a0, .ref a1, .int 0, .ref a3, .ref a4, .ref a5, .ref a6, .ref a7, .ref a8, .ref a9])), (a3, .inl (G.2.1, 14, .inl (fun _ => 0))), (a4, .inl (G.2.1, 14, .inl (fun _ => 0))), (a5, .inl (G.2.1, 14, .inl (fun _ => 0))), (a6, .inl (G.2.1, 14, .inl (fun _ => 0))), (a7, .inl (G.2.1, 14, .inl (fun _ => 0))), (a8, .inl (G.2.1, 14, .inl (fun _ => 0)))] [(pl, .inr (6, [.ref a0, .ref a1, .int 0, .ref a3, .ref a4, .ref a5, .ref a6, .ref a7, .ref a8, .ref a9]))] [(h, .inr (9, [.ref b, .ref pl, .ref cr, .ref te, .ref ca])), (a3, .inl (G.2.1, 14, .inl (fun _ => 0))), (a4, .inl (G.2.1, 14, .inl (fun _ => 0))), (a5, .inl (G.2.1, 14, .inl (fun _ => 0))), (a6, .inl (G.2.1, 14, .inl (fun _ => 0))), (a7, .inl (G.2.1, 14, .inl (fun _ => 0))), (a8, .inl (G.2.1, 14, .inl (fun _ => 0)))] [1] [0, 2, 3, 4, 5, 6, 7] := ⟨rfl, rfl, by decide, by decide, by decide⟩
    refine sx_ki (sx_runV (As := []) (rest := [.int p1]) F (m_X4_allActions l G H.size pl a0 a1 a3 a4 a5 a6 a7 a8 a9) mi_X4_allActions q669 qs_X4_allActions q668 ⟨⟨Nat.le_of_ble_eq_true rfl, Nat.le_of_ble_eq_true rfl⟩, Nat.le_of_ble_eq_true rfl, Nat.le_of_ble_eq_true rfl⟩ hcut hP hD hS 1 6 rfl rfl rfl hl.1 rfl (Nat.le_of_ble_eq_true rfl) dX7_action_16) hcut hP hD hS hA (fun r_9 u_7 H locs w_8 hP hD hS => ?_)
    have hP : va_P (sx_D G) vwCl [(h, .inr (9, [.ref b, .ref pl, .ref cr, .ref te, .ref ca])), (a3, .inl (G.2.1, 14, .inl (fun _ => 0))), (a4, .inl (G.2.1, 14, .inl (fun _ => 0))), (a5, .inl (G.2.1, 14, .inl (fun _ => 0))), (a6, .inl (G.2.1, 14, .inl (fun _ => 0))), (a7, .inl (G.2.1, 14, .inl (fun _ => 0))), (a8, .inl (G.2.1, 14, .inl (fun _ => 0))), (pl, .inr (6, [.ref a0, .ref a1, .int 0, .ref a3, .ref a4, .ref a5, .ref a6, .ref a7, .ref a8, .ref a9]))] H := hP
    have hD : va_D A [(h, .inr (9, [.ref b, .ref pl, .ref cr, .ref te, .ref ca])), (a3, .inl (G.2.1, 14, .inl (fun _ => 0))), (a4, .inl (G.2.1, 14, .inl (fun _ => 0))), (a5, .inl (G.2.1, 14, .inl (fun _ => 0))), (a6, .inl (G.2.1, 14, .inl (fun _ => 0))), (a7, .inl (G.2.1, 14, .inl (fun _ => 0))), (a8, .inl (G.2.1, 14, .inl (fun _ => 0))), (pl, .inr (6, [.ref a0, .ref a1, .int 0, .ref a3, .ref a4, .ref a5, .ref a6, .ref a7, .ref a8, .ref a9]))] := hD
    have er_9 : r_9 = 0 := w_8
    subst er_9
    have hcut : sx_cut [(h, .inr (9, [.ref b, .ref pl, .ref cr, .ref te, .ref ca])), (a3, .inl (G.2.1, 14, .inl (fun _ => 0))), (a4, .inl (G.2.1, 14, .inl (fun _ => 0))), (a5, .inl (G.2.1, 14, .inl (fun _ => 0))), (a6, .inl (G.2.1, 14, .inl (fun _ => 0))), (a7, .inl (G.2.1, 14, .inl (fun _ => 0))), (a8, .inl (G.2.1, 14, .inl (fun _ => 0))), (pl, .inr (6, [.ref a0, .ref a1, .int 0, .ref a3, .ref a4, .ref a5, .ref a6, .ref a7, .ref a8, .ref a9]))] [] [(h, .inr (9, [.ref b, .ref pl, .ref cr, .ref te, .ref ca])), (a3, .inl (G.2.1, 14, .inl (fun _ => 0))), (a4, .inl (G.2.1, 14, .inl (fun _ => 0))), (a5, .inl (G.2.1, 14, .inl (fun _ => 0))), (a6, .inl (G.2.1, 14, .inl (fun _ => 0))), (a7, .inl (G.2.1, 14, .inl (fun _ => 0))), (a8, .inl (G.2.1, 14, .inl (fun _ => 0))), (pl, .inr (6, [.ref a0, .ref a1, .int 0, .ref a3, .ref a4, .ref a5, .ref a6, .ref a7, .ref a8, .ref a9]))] [] [0, 1, 2, 3, 4, 5, 6, 7] := ⟨rfl, rfl, by decide, by decide, by decide⟩
    refine sx_ki (sx_runS (As := [.int p1, .int 0]) (rest := []) F (m_X7_isPartOf l G H.size p1 0) mi_X7_isPartOf q673 q672 ⟨⟨Nat.le_of_ble_eq_true rfl, Nat.le_of_ble_eq_true rfl⟩, Nat.le_of_ble_eq_true rfl, Nat.le_of_ble_eq_true rfl⟩ hcut hP hD hS rfl hl.1 rfl (Nat.le_of_ble_eq_true rfl) dX7_action_19) hcut hP hD hS hA (fun r_12 u_10 H locs w_11 hP hD hS => ?_)
    have hP : va_P (sx_D G) vwCl [(h, .inr (9, [.ref b, .ref pl, .ref cr, .ref te, .ref ca])), (a3, .inl (G.2.1, 14, .inl (fun _ => 0))), (a4, .inl (G.2.1, 14, .inl (fun _ => 0))), (a5, .inl (G.2.1, 14, .inl (fun _ => 0))), (a6, .inl (G.2.1, 14, .inl (fun _ => 0))), (a7, .inl (G.2.1, 14, .inl (fun _ => 0))), (a8, .inl (G.2.1, 14, .inl (fun _ => 0))), (pl, .inr (6, [.ref a0, .ref a1, .int 0, .ref a3, .ref a4, .ref a5, .ref a6, .ref a7, .ref a8, .ref a9]))] H := hP
    have hD : va_D A [(h, .inr (9, [.ref b, .ref pl, .ref cr, .ref te, .ref ca])), (a3, .inl (G.2.1, 14, .inl (fun _ => 0))), (a4, .inl (G.2.1, 14, .inl (fun _ => 0))), (a5, .inl (G.2.1, 14, .inl (fun _ => 0))), (a6, .inl (G.2.1, 14, .inl (fun _ => 0))), (a7, .inl (G.2.1, 14, .inl (fun _ => 0))), (a8, .inl (G.2.1, 14, .inl (fun _ => 0))), (pl, .inr (6, [.ref a0, .ref a1, .int 0, .ref a3, .ref a4, .ref a5, .ref a6, .ref a7, .ref a8, .ref a9]))] := hD
    have w_11 : r_12 = zb (decide (p1 &&& (0 ^^^ (-1)) = 0)) := w_11
    have hcut : sx_cut [(h, .inr (9, [.ref b, .ref pl, .ref cr, .ref te, .ref ca])), (a3, .inl (G.2.1, 14, .inl (fun _ => 0))), (a4, .inl (G.2.1, 14, .inl (fun _ => 0))), (a5, .inl (G.2.1, 14, .inl (fun _ => 0))), (a6, .inl (G.2.1, 14, .inl (fun _ => 0))), (a7, .inl (G.2.1, 14, .inl (fun _ => 0))), (a8, .inl (G.2.1, 14, .inl (fun _ => 0))), (pl, .inr (6, [.ref a0, .ref a1, .int 0, .ref a3, .ref a4, .ref a5, .ref a6, .ref a7, .ref a8, .ref a9]))] [] [(h, .inr (9, [.ref b, .ref pl, .ref cr, .ref te, .ref ca])), (a3, .inl (G.2.1, 14, .inl (fun _ => 0))), (a4, .inl (G.2.1, 14, .inl (fun _ => 0))), (a5, .inl (G.2.1, 14, .inl (fun _ => 0))), (a6, .inl (G.2.1, 14, .inl (fun _ => 0))), (a7, .inl (G.2.1, 14, .inl (fun _ => 0))), (a8, .inl (G.2.1, 14, .inl (fun _ => 0))), (pl, .inr (6, [.ref a0, .ref a1, .int 0, .ref a3, .ref a4, .ref a5, .ref a6, .ref a7, .ref a8, .ref a9]))] [] [0, 1, 2, 3, 4, 5, 6, 7] := ⟨rfl, rfl, by decide, by decide, by decide⟩
    refine sx_xkv (sx_xrunS (As := [.int r_12]) (rest := []) F (m_X7_needArgument l hfl G H.size r_12) mi_X7_needArgument q371 q370 ⟨⟨Nat.le_of_ble_eq_true rfl, Nat.le_of_ble_eq_true rfl⟩, Nat.le_of_ble_eq_true rfl, Nat.le_of_ble_eq_true rfl⟩ hcut hP hD hS rfl hl.1 rfl (Nat.le_of_ble_eq_true rfl) dX7_action_22) hcut hP hD hS hA (fun E ce q9 H locs hw9 hP hD hS hce hcv hcl => ?_) (fun u_13 H locs w_14 hP hD hS => ?_)
    · have hP : va_P (sx_D G) vwCl [(h, .inr (9, [.ref b, .ref pl, .ref cr, .ref te, .ref ca])), (a3, .inl (G.2.1, 14, .inl (fun _ => 0))), (a4, .inl (G.2.1, 14, .inl (fun _ => 0))), (a5, .inl (G.2.1, 14, .inl (fun _ => 0))), (a6, .inl (G.2.1, 14, .inl (fun _ => 0))), (a7, .inl (G.2.1, 14, .inl (fun _ => 0))), (a8, .inl (G.2.1, 14, .inl (fun _ => 0))), (pl, .inr (6, [.ref a0, .ref a1, .int 0, .ref a3, .ref a4, .ref a5, .ref a6, .ref a7, .ref a8, .ref a9]))] H := hP
      have hD : va_D A [(h, .inr (9, [.ref b, .ref pl, .ref cr, .ref te, .ref ca])), (a3, .inl (G.2.1, 14, .inl (fun _ => 0))), (a4, .inl (G.2.1, 14, .inl (fun _ => 0))), (a5, .inl (G.2.1, 14, .inl (fun _ => 0))), (a6, .inl (G.2.1, 14, .inl (fun _ => 0))), (a7, .inl (G.2.1, 14, .inl (fun _ => 0))), (a8, .inl (G.2.1, 14, .inl (fun _ => 0))), (pl, .inr (6, [.ref a0, .ref a1, .int 0, .ref a3, .ref a4, .ref a5, .ref a6, .ref a7, .ref a8, .ref a9]))] := hD
      exact sx_out (rest := []) hex hlk hce hcv hcl ⟨hw9.1, z1_1 (z_n2 (z_n1 (zb_f w_11 hw9.2)))⟩ hS rfl rfl
    · have hP : va_P (sx_D G) vwCl [(h, .inr (9, [.ref b, .ref pl, .ref cr, .ref te, .ref ca])), (a3, .inl (G.2.1, 14, .inl (fun _ => 0))), (a4, .inl (G.2.1, 14, .inl (fun _ => 0))), (a5, .inl (G.2.1, 14, .inl (fun _ => 0))), (a6, .inl (G.2.1, 14, .inl (fun _ => 0))), (a7, .inl (G.2.1, 14, .inl (fun _ => 0))), (a8, .inl (G.2.1, 14, .inl (fun _ => 0))), (pl, .inr (6, [.ref a0, .ref a1, .int 0, .ref a3, .ref a4, .ref a5, .ref a6, .ref a7, .ref a8, .ref a9]))] H := hP
      have hD : va_D A [(h, .inr (9, [.ref b, .ref pl, .ref cr, .ref te, .ref ca])), (a3, .inl (G.2.1, 14, .inl (fun _ => 0))), (a4, .inl (G.2.1, 14, .inl (fun _ => 0))), (a5, .inl (G.2.1, 14, .inl (fun _ => 0))), (a6, .inl (G.2.1, 14, .inl (fun _ => 0))), (a7, .inl (G.2.1, 14, .inl (fun _ => 0))), (a8, .inl (G.2.1, 14, .inl (fun _ => 0))), (pl, .inr (6, [.ref a0, .ref a1, .int 0, .ref a3, .ref a4, .ref a5, .ref a6, .ref a7, .ref a8, .ref a9]))] := hD
      refine lv_iload_n hx hb dX7_action_25 rfl (lv_at hl 3 rfl) ?_
      refine lv_iconst (v := 0) hx hb dX7_action_26 (by decide) ?_
      refine lv_bipush (v := 63) hx hb dX7_action_27 (by decide) ?_
      have hcut : sx_cut [(h, .inr (9, [.ref b, .ref pl, .ref cr, .ref te, .ref ca])), (a3, .inl (G.2.1, 14, .inl (fun _ => 0))), (a4, .inl (G.2.1, 14, .inl (fun _ => 0))), (a5, .inl (G.2.1, 14, .inl (fun _ => 0))), (a6, .inl (G.2.1, 14, .inl (fun _ => 0))), (a7, .inl (G.2.1, 14, .inl (fun _ => 0))), (a8, .inl (G.2.1, 14, .inl (fun _ => 0))), (pl, .inr (6, [.ref a0, .ref a1, .int 0, .ref a3, .ref a4, .ref a5, .ref a6, .ref a7, .ref a8, .ref a9]))] [] [(h, .inr (9, [.ref b, .ref pl, .ref cr, .ref te, .ref ca])), (a3, .inl (G.2.1, 14, .inl (fun _ => 0))), (a4, .inl (G.2.1, 14, .inl (fun _ => 0))), (a5, .inl (G.2.1, 14, .inl (fun _ => 0))), (a6, .inl (G.2.1, 14, .inl (fun _ => 0))), (a7, .inl (G.2.1, 14, .inl (fun _ => 0))), (a8, .inl (G.2.1, 14, .inl (fun _ => 0))), (pl, .inr (6, [.ref a0, .ref a1, .int 0, .ref a3, .ref a4, .ref a5, .ref a6, .ref a7, .ref a8, .ref a9]))] [] [0, 1, 2, 3, 4, 5, 6, 7] := ⟨rfl, rfl, by decide, by decide, by decide⟩
      refine sx_ki (sx_runS (As := [.int p2, .int 0, .int 63]) (rest := []) F (m_X7_isWithin l G H.size p2 0 63) mi_X7_isWithin q368 q367 ⟨⟨Nat.le_of_ble_eq_true rfl, Nat.le_of_ble_eq_true rfl⟩, Nat.le_of_ble_eq_true rfl, Nat.le_of_ble_eq_true rfl⟩ hcut hP hD hS rfl hl.1 rfl (Nat.le_of_ble_eq_true rfl) dX7_action_29) hcut hP hD hS hA (fun r_18 u_16 H locs w_17 hP hD hS => ?_)
      have hP : va_P (sx_D G) vwCl [(h, .inr (9, [.ref b, .ref pl, .ref cr, .ref te, .ref ca])), (a3, .inl (G.2.1, 14, .inl (fun _ => 0))), (a4, .inl (G.2.1, 14, .inl (fun _ => 0))), (a5, .inl (G.2.1, 14, .inl (fun _ => 0))), (a6, .inl (G.2.1, 14, .inl (fun _ => 0))), (a7, .inl (G.2.1, 14, .inl (fun _ => 0))), (a8, .inl (G.2.1, 14, .inl (fun _ => 0))), (pl, .inr (6, [.ref a0, .ref a1, .int 0, .ref a3, .ref a4, .ref a5, .ref a6, .ref a7, .ref a8, .ref a9]))] H := hP
      have hD : va_D A [(h, .inr (9, [.ref b, .ref pl, .ref cr, .ref te, .ref ca])), (a3, .inl (G.2.1, 14, .inl (fun _ => 0))), (a4, .inl (G.2.1, 14, .inl (fun _ => 0))), (a5, .inl (G.2.1, 14, .inl (fun _ => 0))), (a6, .inl (G.2.1, 14, .inl (fun _ => 0))), (a7, .inl (G.2.1, 14, .inl (fun _ => 0))), (a8, .inl (G.2.1, 14, .inl (fun _ => 0))), (pl, .inr (6, [.ref a0, .ref a1, .int 0, .ref a3, .ref a4, .ref a5, .ref a6, .ref a7, .ref a8, .ref a9]))] := hD
      have w_17 : r_18 = zb (zw 0 63 p2) := w_17
      have hcut : sx_cut [(h, .inr (9, [.ref b, .ref pl, .ref cr, .ref te, .ref ca])), (a3, .inl (G.2.1, 14, .inl (fun _ => 0))), (a4, .inl (G.2.1, 14, .inl (fun _ => 0))), (a5, .inl (G.2.1, 14, .inl (fun _ => 0))), (a6, .inl (G.2.1, 14, .inl (fun _ => 0))), (a7, .inl (G.2.1, 14, .inl (fun _ => 0))), (a8, .inl (G.2.1, 14, .inl (fun _ => 0))), (pl, .inr (6, [.ref a0, .ref a1, .int 0, .ref a3, .ref a4, .ref a5, .ref a6, .ref a7, .ref a8, .ref a9]))] [] [(h, .inr (9, [.ref b, .ref pl, .ref cr, .ref te, .ref ca])), (a3, .inl (G.2.1, 14, .inl (fun _ => 0))), (a4, .inl (G.2.1, 14, .inl (fun _ => 0))), (a5, .inl (G.2.1, 14, .inl (fun _ => 0))), (a6, .inl (G.2.1, 14, .inl (fun _ => 0))), (a7, .inl (G.2.1, 14, .inl (fun _ => 0))), (a8, .inl (G.2.1, 14, .inl (fun _ => 0))), (pl, .inr (6, [.ref a0, .ref a1, .int 0, .ref a3, .ref a4, .ref a5, .ref a6, .ref a7, .ref a8, .ref a9]))] [] [0, 1, 2, 3, 4, 5, 6, 7] := ⟨rfl, rfl, by decide, by decide, by decide⟩
      refine sx_xkv (sx_xrunS (As := [.int r_18]) (rest := []) F (m_X7_needArgument l hfl G H.size r_18) mi_X7_needArgument q371 q370 ⟨⟨Nat.le_of_ble_eq_true rfl, Nat.le_of_ble_eq_true rfl⟩, Nat.le_of_ble_eq_true rfl, Nat.le_of_ble_eq_true rfl⟩ hcut hP hD hS rfl hl.1 rfl (Nat.le_of_ble_eq_true rfl) dX7_action_32) hcut hP hD hS hA (fun E ce q9 H locs hw9 hP hD hS hce hcv hcl => ?_) (fun u_19 H locs w_20 hP hD hS => ?_)
      · have hP : va_P (sx_D G) vwCl [(h, .inr (9, [.ref b, .ref pl, .ref cr, .ref te, .ref ca])), (a3, .inl (G.2.1, 14, .inl (fun _ => 0))), (a4, .inl (G.2.1, 14, .inl (fun _ => 0))), (a5, .inl (G.2.1, 14, .inl (fun _ => 0))), (a6, .inl (G.2.1, 14, .inl (fun _ => 0))), (a7, .inl (G.2.1, 14, .inl (fun _ => 0))), (a8, .inl (G.2.1, 14, .inl (fun _ => 0))), (pl, .inr (6, [.ref a0, .ref a1, .int 0, .ref a3, .ref a4, .ref a5, .ref a6, .ref a7, .ref a8, .ref a9]))] H := hP
        have hD : va_D A [(h, .inr (9, [.ref b, .ref pl, .ref cr, .ref te, .ref ca])), (a3, .inl (G.2.1, 14, .inl (fun _ => 0))), (a4, .inl (G.2.1, 14, .inl (fun _ => 0))), (a5, .inl (G.2.1, 14, .inl (fun _ => 0))), (a6, .inl (G.2.1, 14, .inl (fun _ => 0))), (a7, .inl (G.2.1, 14, .inl (fun _ => 0))), (a8, .inl (G.2.1, 14, .inl (fun _ => 0))), (pl, .inr (6, [.ref a0, .ref a1, .int 0, .ref a3, .ref a4, .ref a5, .ref a6, .ref a7, .ref a8, .ref a9]))] := hD
        exact sx_out (rest := []) hex hlk hce hcv hcl ⟨hw9.1, z1_1 (z_n2 (z_n2 (z_n1 (zb_f w_17 hw9.2))))⟩ hS rfl rfl
      · have hP : va_P (sx_D G) vwCl [(h, .inr (9, [.ref b, .ref pl, .ref cr, .ref te, .ref ca])), (a3, .inl (G.2.1, 14, .inl (fun _ => 0))), (a4, .inl (G.2.1, 14, .inl (fun _ => 0))), (a5, .inl (G.2.1, 14, .inl (fun _ => 0))), (a6, .inl (G.2.1, 14, .inl (fun _ => 0))), (a7, .inl (G.2.1, 14, .inl (fun _ => 0))), (a8, .inl (G.2.1, 14, .inl (fun _ => 0))), (pl, .inr (6, [.ref a0, .ref a1, .int 0, .ref a3, .ref a4, .ref a5, .ref a6, .ref a7, .ref a8, .ref a9]))] H := hP
        have hD : va_D A [(h, .inr (9, [.ref b, .ref pl, .ref cr, .ref te, .ref ca])), (a3, .inl (G.2.1, 14, .inl (fun _ => 0))), (a4, .inl (G.2.1, 14, .inl (fun _ => 0))), (a5, .inl (G.2.1, 14, .inl (fun _ => 0))), (a6, .inl (G.2.1, 14, .inl (fun _ => 0))), (a7, .inl (G.2.1, 14, .inl (fun _ => 0))), (a8, .inl (G.2.1, 14, .inl (fun _ => 0))), (pl, .inr (6, [.ref a0, .ref a1, .int 0, .ref a3, .ref a4, .ref a5, .ref a6, .ref a7, .ref a8, .ref a9]))] := hD
        refine lv_iload hx hb dX7_action_35 (lv_at hl 4 rfl) ?_
        refine lv_iload_n hx hb dX7_action_37 rfl (lv_at hl 3 rfl) ?_
        have hcut : sx_cut [(h, .inr (9, [.ref b, .ref pl, .ref cr, .ref te, .ref ca])), (a3, .inl (G.2.1, 14, .inl (fun _ => 0))), (a4, .inl (G.2.1, 14, .inl (fun _ => 0))), (a5, .inl (G.2.1, 14, .inl (fun _ => 0))), (a6, .inl (G.2.1, 14, .inl (fun _ => 0))), (a7, .inl (G.2.1, 14, .inl (fun _ => 0))), (a8, .inl (G.2.1, 14, .inl (fun _ => 0))), (pl, .inr (6, [.ref a0, .ref a1, .int 0, .ref a3, .ref a4, .ref a5, .ref a6, .ref a7, .ref a8, .ref a9]))] [] [(h, .inr (9, [.ref b, .ref pl, .ref cr, .ref te, .ref ca])), (a3, .inl (G.2.1, 14, .inl (fun _ => 0))), (a4, .inl (G.2.1, 14, .inl (fun _ => 0))), (a5, .inl (G.2.1, 14, .inl (fun _ => 0))), (a6, .inl (G.2.1, 14, .inl (fun _ => 0))), (a7, .inl (G.2.1, 14, .inl (fun _ => 0))), (a8, .inl (G.2.1, 14, .inl (fun _ => 0))), (pl, .inr (6, [.ref a0, .ref a1, .int 0, .ref a3, .ref a4, .ref a5, .ref a6, .ref a7, .ref a8, .ref a9]))] [] [0, 1, 2, 3, 4, 5, 6, 7] := ⟨rfl, rfl, by decide, by decide, by decide⟩
        refine sx_ki (sx_runS (As := [.int p3, .int p2]) (rest := []) F (m_X7_isPartOf l G H.size p3 p2) mi_X7_isPartOf q673 q672 ⟨⟨Nat.le_of_ble_eq_true rfl, Nat.le_of_ble_eq_true rfl⟩, Nat.le_of_ble_eq_true rfl, Nat.le_of_ble_eq_true rfl⟩ hcut hP hD hS rfl hl.1 rfl (Nat.le_of_ble_eq_true rfl) dX7_action_38) hcut hP hD hS hA (fun r_24 u_22 H locs w_23 hP hD hS => ?_)
        have hP : va_P (sx_D G) vwCl [(h, .inr (9, [.ref b, .ref pl, .ref cr, .ref te, .ref ca])), (a3, .inl (G.2.1, 14, .inl (fun _ => 0))), (a4, .inl (G.2.1, 14, .inl (fun _ => 0))), (a5, .inl (G.2.1, 14, .inl (fun _ => 0))), (a6, .inl (G.2.1, 14, .inl (fun _ => 0))), (a7, .inl (G.2.1, 14, .inl (fun _ => 0))), (a8, .inl (G.2.1, 14, .inl (fun _ => 0))), (pl, .inr (6, [.ref a0, .ref a1, .int 0, .ref a3, .ref a4, .ref a5, .ref a6, .ref a7, .ref a8, .ref a9]))] H := hP
        have hD : va_D A [(h, .inr (9, [.ref b, .ref pl, .ref cr, .ref te, .ref ca])), (a3, .inl (G.2.1, 14, .inl (fun _ => 0))), (a4, .inl (G.2.1, 14, .inl (fun _ => 0))), (a5, .inl (G.2.1, 14, .inl (fun _ => 0))), (a6, .inl (G.2.1, 14, .inl (fun _ => 0))), (a7, .inl (G.2.1, 14, .inl (fun _ => 0))), (a8, .inl (G.2.1, 14, .inl (fun _ => 0))), (pl, .inr (6, [.ref a0, .ref a1, .int 0, .ref a3, .ref a4, .ref a5, .ref a6, .ref a7, .ref a8, .ref a9]))] := hD
        have w_23 : r_24 = zb (decide (p3 &&& (p2 ^^^ (-1)) = 0)) := w_23
        have hcut : sx_cut [(h, .inr (9, [.ref b, .ref pl, .ref cr, .ref te, .ref ca])), (a3, .inl (G.2.1, 14, .inl (fun _ => 0))), (a4, .inl (G.2.1, 14, .inl (fun _ => 0))), (a5, .inl (G.2.1, 14, .inl (fun _ => 0))), (a6, .inl (G.2.1, 14, .inl (fun _ => 0))), (a7, .inl (G.2.1, 14, .inl (fun _ => 0))), (a8, .inl (G.2.1, 14, .inl (fun _ => 0))), (pl, .inr (6, [.ref a0, .ref a1, .int 0, .ref a3, .ref a4, .ref a5, .ref a6, .ref a7, .ref a8, .ref a9]))] [] [(h, .inr (9, [.ref b, .ref pl, .ref cr, .ref te, .ref ca])), (a3, .inl (G.2.1, 14, .inl (fun _ => 0))), (a4, .inl (G.2.1, 14, .inl (fun _ => 0))), (a5, .inl (G.2.1, 14, .inl (fun _ => 0))), (a6, .inl (G.2.1, 14, .inl (fun _ => 0))), (a7, .inl (G.2.1, 14, .inl (fun _ => 0))), (a8, .inl (G.2.1, 14, .inl (fun _ => 0))), (pl, .inr (6, [.ref a0, .ref a1, .int 0, .ref a3, .ref a4, .ref a5, .ref a6, .ref a7, .ref a8, .ref a9]))] [] [0, 1, 2, 3, 4, 5, 6, 7] := ⟨rfl, rfl, by decide, by decide, by decide⟩
        refine sx_xkv (sx_xrunS (As := [.int r_24]) (rest := []) F (m_X7_needArgument l hfl G H.size r_24) mi_X7_needArgument q371 q370 ⟨⟨Nat.le_of_ble_eq_true rfl, Nat.le_of_ble_eq_true rfl⟩, Nat.le_of_ble_eq_true rfl, Nat.le_of_ble_eq_true rfl⟩ hcut hP hD hS rfl hl.1 rfl (Nat.le_of_ble_eq_true rfl) dX7_action_41) hcut hP hD hS hA (fun E ce q9 H locs hw9 hP hD hS hce hcv hcl => ?_) (fun u_25 H locs w_26 hP hD hS => ?_)
        · have hP : va_P (sx_D G) vwCl [(h, .inr (9, [.ref b, .ref pl, .ref cr, .ref te, .ref ca])), (a3, .inl (G.2.1, 14, .inl (fun _ => 0))), (a4, .inl (G.2.1, 14, .inl (fun _ => 0))), (a5, .inl (G.2.1, 14, .inl (fun _ => 0))), (a6, .inl (G.2.1, 14, .inl (fun _ => 0))), (a7, .inl (G.2.1, 14, .inl (fun _ => 0))), (a8, .inl (G.2.1, 14, .inl (fun _ => 0))), (pl, .inr (6, [.ref a0, .ref a1, .int 0, .ref a3, .ref a4, .ref a5, .ref a6, .ref a7, .ref a8, .ref a9]))] H := hP
          have hD : va_D A [(h, .inr (9, [.ref b, .ref pl, .ref cr, .ref te, .ref ca])), (a3, .inl (G.2.1, 14, .inl (fun _ => 0))), (a4, .inl (G.2.1, 14, .inl (fun _ => 0))), (a5, .inl (G.2.1, 14, .inl (fun _ => 0))), (a6, .inl (G.2.1, 14, .inl (fun _ => 0))), (a7, .inl (G.2.1, 14, .inl (fun _ => 0))), (a8, .inl (G.2.1, 14, .inl (fun _ => 0))), (pl, .inr (6, [.ref a0, .ref a1, .int 0, .ref a3, .ref a4, .ref a5, .ref a6, .ref a7, .ref a8, .ref a9]))] := hD
          exact sx_out (rest := []) hex hlk hce hcv hcl ⟨hw9.1, z1_1 (z_n2 (z_n2 (z_n2 (z_n1 (zb_f w_23 hw9.2)))))⟩ hS rfl rfl
        · have hP : va_P (sx_D G) vwCl [(h, .inr (9, [.ref b, .ref pl, .ref cr, .ref te, .ref ca])), (a3, .inl (G.2.1, 14, .inl (fun _ => 0))), (a4, .inl (G.2.1, 14, .inl (fun _ => 0))), (a5, .inl (G.2.1, 14, .inl (fun _ => 0))), (a6, .inl (G.2.1, 14, .inl (fun _ => 0))), (a7, .inl (G.2.1, 14, .inl (fun _ => 0))), (a8, .inl (G.2.1, 14, .inl (fun _ => 0))), (pl, .inr (6, [.ref a0, .ref a1, .int 0, .ref a3, .ref a4, .ref a5, .ref a6, .ref a7, .ref a8, .ref a9]))] H := hP
          have hD : va_D A [(h, .inr (9, [.ref b, .ref pl, .ref cr, .ref te, .ref ca])), (a3, .inl (G.2.1, 14, .inl (fun _ => 0))), (a4, .inl (G.2.1, 14, .inl (fun _ => 0))), (a5, .inl (G.2.1, 14, .inl (fun _ => 0))), (a6, .inl (G.2.1, 14, .inl (fun _ => 0))), (a7, .inl (G.2.1, 14, .inl (fun _ => 0))), (a8, .inl (G.2.1, 14, .inl (fun _ => 0))), (pl, .inr (6, [.ref a0, .ref a1, .int 0, .ref a3, .ref a4, .ref a5, .ref a6, .ref a7, .ref a8, .ref a9]))] := hD
          refine lv_iload hx hb dX7_action_44 (lv_at hl 5 rfl) ?_
          refine lv_iconst (v := 1) hx hb dX7_action_46 (by decide) ?_
          refine lv_bipush (v := 50) hx hb dX7_action_47 (by decide) ?_
          have hcut : sx_cut [(h, .inr (9, [.ref b, .ref pl, .ref cr, .ref te, .ref ca])), (a3, .inl (G.2.1, 14, .inl (fun _ => 0))), (a4, .inl (G.2.1, 14, .inl (fun _ => 0))), (a5, .inl (G.2.1, 14, .inl (fun _ => 0))), (a6, .inl (G.2.1, 14, .inl (fun _ => 0))), (a7, .inl (G.2.1, 14, .inl (fun _ => 0))), (a8, .inl (G.2.1, 14, .inl (fun _ => 0))), (pl, .inr (6, [.ref a0, .ref a1, .int 0, .ref a3, .ref a4, .ref a5, .ref a6, .ref a7, .ref a8, .ref a9]))] [] [(h, .inr (9, [.ref b, .ref pl, .ref cr, .ref te, .ref ca])), (a3, .inl (G.2.1, 14, .inl (fun _ => 0))), (a4, .inl (G.2.1, 14, .inl (fun _ => 0))), (a5, .inl (G.2.1, 14, .inl (fun _ => 0))), (a6, .inl (G.2.1, 14, .inl (fun _ => 0))), (a7, .inl (G.2.1, 14, .inl (fun _ => 0))), (a8, .inl (G.2.1, 14, .inl (fun _ => 0))), (pl, .inr (6, [.ref a0, .ref a1, .int 0, .ref a3, .ref a4, .ref a5, .ref a6, .ref a7, .ref a8, .ref a9]))] [] [0, 1, 2, 3, 4, 5, 6, 7] := ⟨rfl, rfl, by decide, by decide, by decide⟩
          refine sx_ki (sx_runS (As := [.int p4, .int 1, .int 50]) (rest := []) F (m_X7_isWithin l G H.size p4 1 50) mi_X7_isWithin q368 q367 ⟨⟨Nat.le_of_ble_eq_true rfl, Nat.le_of_ble_eq_true rfl⟩, Nat.le_of_ble_eq_true rfl, Nat.le_of_ble_eq_true rfl⟩ hcut hP hD hS rfl hl.1 rfl (Nat.le_of_ble_eq_true rfl) dX7_action_49) hcut hP hD hS hA (fun r_30 u_28 H locs w_29 hP hD hS => ?_)
          have hP : va_P (sx_D G) vwCl [(h, .inr (9, [.ref b, .ref pl, .ref cr, .ref te, .ref ca])), (a3, .inl (G.2.1, 14, .inl (fun _ => 0))), (a4, .inl (G.2.1, 14, .inl (fun _ => 0))), (a5, .inl (G.2.1, 14, .inl (fun _ => 0))), (a6, .inl (G.2.1, 14, .inl (fun _ => 0))), (a7, .inl (G.2.1, 14, .inl (fun _ => 0))), (a8, .inl (G.2.1, 14, .inl (fun _ => 0))), (pl, .inr (6, [.ref a0, .ref a1, .int 0, .ref a3, .ref a4, .ref a5, .ref a6, .ref a7, .ref a8, .ref a9]))] H := hP
          have hD : va_D A [(h, .inr (9, [.ref b, .ref pl, .ref cr, .ref te, .ref ca])), (a3, .inl (G.2.1, 14, .inl (fun _ => 0))), (a4, .inl (G.2.1, 14, .inl (fun _ => 0))), (a5, .inl (G.2.1, 14, .inl (fun _ => 0))), (a6, .inl (G.2.1, 14, .inl (fun _ => 0))), (a7, .inl (G.2.1, 14, .inl (fun _ => 0))), (a8, .inl (G.2.1, 14, .inl (fun _ => 0))), (pl, .inr (6, [.ref a0, .ref a1, .int 0, .ref a3, .ref a4, .ref a5, .ref a6, .ref a7, .ref a8, .ref a9]))] := hD
          have w_29 : r_30 = zb (zw 1 50 p4) := w_29
          have hcut : sx_cut [(h, .inr (9, [.ref b, .ref pl, .ref cr, .ref te, .ref ca])), (a3, .inl (G.2.1, 14, .inl (fun _ => 0))), (a4, .inl (G.2.1, 14, .inl (fun _ => 0))), (a5, .inl (G.2.1, 14, .inl (fun _ => 0))), (a6, .inl (G.2.1, 14, .inl (fun _ => 0))), (a7, .inl (G.2.1, 14, .inl (fun _ => 0))), (a8, .inl (G.2.1, 14, .inl (fun _ => 0))), (pl, .inr (6, [.ref a0, .ref a1, .int 0, .ref a3, .ref a4, .ref a5, .ref a6, .ref a7, .ref a8, .ref a9]))] [] [(h, .inr (9, [.ref b, .ref pl, .ref cr, .ref te, .ref ca])), (a3, .inl (G.2.1, 14, .inl (fun _ => 0))), (a4, .inl (G.2.1, 14, .inl (fun _ => 0))), (a5, .inl (G.2.1, 14, .inl (fun _ => 0))), (a6, .inl (G.2.1, 14, .inl (fun _ => 0))), (a7, .inl (G.2.1, 14, .inl (fun _ => 0))), (a8, .inl (G.2.1, 14, .inl (fun _ => 0))), (pl, .inr (6, [.ref a0, .ref a1, .int 0, .ref a3, .ref a4, .ref a5, .ref a6, .ref a7, .ref a8, .ref a9]))] [] [0, 1, 2, 3, 4, 5, 6, 7] := ⟨rfl, rfl, by decide, by decide, by decide⟩
          refine sx_xkv (sx_xrunS (As := [.int r_30]) (rest := []) F (m_X7_needArgument l hfl G H.size r_30) mi_X7_needArgument q371 q370 ⟨⟨Nat.le_of_ble_eq_true rfl, Nat.le_of_ble_eq_true rfl⟩, Nat.le_of_ble_eq_true rfl, Nat.le_of_ble_eq_true rfl⟩ hcut hP hD hS rfl hl.1 rfl (Nat.le_of_ble_eq_true rfl) dX7_action_52) hcut hP hD hS hA (fun E ce q9 H locs hw9 hP hD hS hce hcv hcl => ?_) (fun u_31 H locs w_32 hP hD hS => ?_)
          · have hP : va_P (sx_D G) vwCl [(h, .inr (9, [.ref b, .ref pl, .ref cr, .ref te, .ref ca])), (a3, .inl (G.2.1, 14, .inl (fun _ => 0))), (a4, .inl (G.2.1, 14, .inl (fun _ => 0))), (a5, .inl (G.2.1, 14, .inl (fun _ => 0))), (a6, .inl (G.2.1, 14, .inl (fun _ => 0))), (a7, .inl (G.2.1, 14, .inl (fun _ => 0))), (a8, .inl (G.2.1, 14, .inl (fun _ => 0))), (pl, .inr (6, [.ref a0, .ref a1, .int 0, .ref a3, .ref a4, .ref a5, .ref a6, .ref a7, .ref a8, .ref a9]))] H := hP
            have hD : va_D A [(h, .inr (9, [.ref b, .ref pl, .ref cr, .ref te, .ref ca])), (a3, .inl (G.2.1, 14, .inl (fun _ => 0))), (a4, .inl (G.2.1, 14, .inl (fun _ => 0))), (a5, .inl (G.2.1, 14, .inl (fun _ => 0))), (a6, .inl (G.2.1, 14, .inl (fun _ => 0))), (a7, .inl (G.2.1, 14, .inl (fun _ => 0))), (a8, .inl (G.2.1, 14, .inl (fun _ => 0))), (pl, .inr (6, [.ref a0, .ref a1, .int 0, .ref a3, .ref a4, .ref a5, .ref a6, .ref a7, .ref a8, .ref a9]))] := hD
            exact sx_out (rest := []) hex hlk hce hcv hcl ⟨hw9.1, z1_1 (z_n2 (z_n2 (z_n2 (z_n2 (z_n1 (zb_f w_29 hw9.2))))))⟩ hS rfl rfl
          · have hP : va_P (sx_D G) vwCl [(h, .inr (9, [.ref b, .ref pl, .ref cr, .ref te, .ref ca])), (a3, .inl (G.2.1, 14, .inl (fun _ => 0))), (a4, .inl (G.2.1, 14, .inl (fun _ => 0))), (a5, .inl (G.2.1, 14, .inl (fun _ => 0))), (a6, .inl (G.2.1, 14, .inl (fun _ => 0))), (a7, .inl (G.2.1, 14, .inl (fun _ => 0))), (a8, .inl (G.2.1, 14, .inl (fun _ => 0))), (pl, .inr (6, [.ref a0, .ref a1, .int 0, .ref a3, .ref a4, .ref a5, .ref a6, .ref a7, .ref a8, .ref a9]))] H := hP
            have hD : va_D A [(h, .inr (9, [.ref b, .ref pl, .ref cr, .ref te, .ref ca])), (a3, .inl (G.2.1, 14, .inl (fun _ => 0))), (a4, .inl (G.2.1, 14, .inl (fun _ => 0))), (a5, .inl (G.2.1, 14, .inl (fun _ => 0))), (a6, .inl (G.2.1, 14, .inl (fun _ => 0))), (a7, .inl (G.2.1, 14, .inl (fun _ => 0))), (a8, .inl (G.2.1, 14, .inl (fun _ => 0))), (pl, .inr (6, [.ref a0, .ref a1, .int 0, .ref a3, .ref a4, .ref a5, .ref a6, .ref a7, .ref a8, .ref a9]))] := hD
            refine lv_iload hx hb dX7_action_55 (lv_at hl 6 rfl) ?_
            refine lv_iconst (v := 1) hx hb dX7_action_57 (by decide) ?_
            refine lv_bipush (v := 20) hx hb dX7_action_58 (by decide) ?_
            have hcut : sx_cut [(h, .inr (9, [.ref b, .ref pl, .ref cr, .ref te, .ref ca])), (a3, .inl (G.2.1, 14, .inl (fun _ => 0))), (a4, .inl (G.2.1, 14, .inl (fun _ => 0))), (a5, .inl (G.2.1, 14, .inl (fun _ => 0))), (a6, .inl (G.2.1, 14, .inl (fun _ => 0))), (a7, .inl (G.2.1, 14, .inl (fun _ => 0))), (a8, .inl (G.2.1, 14, .inl (fun _ => 0))), (pl, .inr (6, [.ref a0, .ref a1, .int 0, .ref a3, .ref a4, .ref a5, .ref a6, .ref a7, .ref a8, .ref a9]))] [] [(h, .inr (9, [.ref b, .ref pl, .ref cr, .ref te, .ref ca])), (a3, .inl (G.2.1, 14, .inl (fun _ => 0))), (a4, .inl (G.2.1, 14, .inl (fun _ => 0))), (a5, .inl (G.2.1, 14, .inl (fun _ => 0))), (a6, .inl (G.2.1, 14, .inl (fun _ => 0))), (a7, .inl (G.2.1, 14, .inl (fun _ => 0))), (a8, .inl (G.2.1, 14, .inl (fun _ => 0))), (pl, .inr (6, [.ref a0, .ref a1, .int 0, .ref a3, .ref a4, .ref a5, .ref a6, .ref a7, .ref a8, .ref a9]))] [] [0, 1, 2, 3, 4, 5, 6, 7] := ⟨rfl, rfl, by decide, by decide, by decide⟩
            refine sx_ki (sx_runS (As := [.int p5, .int 1, .int 20]) (rest := []) F (m_X7_isWithin l G H.size p5 1 20) mi_X7_isWithin q368 q367 ⟨⟨Nat.le_of_ble_eq_true rfl, Nat.le_of_ble_eq_true rfl⟩, Nat.le_of_ble_eq_true rfl, Nat.le_of_ble_eq_true rfl⟩ hcut hP hD hS rfl hl.1 rfl (Nat.le_of_ble_eq_true rfl) dX7_action_60) hcut hP hD hS hA (fun r_36 u_34 H locs w_35 hP hD hS => ?_)
            have hP : va_P (sx_D G) vwCl [(h, .inr (9, [.ref b, .ref pl, .ref cr, .ref te, .ref ca])), (a3, .inl (G.2.1, 14, .inl (fun _ => 0))), (a4, .inl (G.2.1, 14, .inl (fun _ => 0))), (a5, .inl (G.2.1, 14, .inl (fun _ => 0))), (a6, .inl (G.2.1, 14, .inl (fun _ => 0))), (a7, .inl (G.2.1, 14, .inl (fun _ => 0))), (a8, .inl (G.2.1, 14, .inl (fun _ => 0))), (pl, .inr (6, [.ref a0, .ref a1, .int 0, .ref a3, .ref a4, .ref a5, .ref a6, .ref a7, .ref a8, .ref a9]))] H := hP
            have hD : va_D A [(h, .inr (9, [.ref b, .ref pl, .ref cr, .ref te, .ref ca])), (a3, .inl (G.2.1, 14, .inl (fun _ => 0))), (a4, .inl (G.2.1, 14, .inl (fun _ => 0))), (a5, .inl (G.2.1, 14, .inl (fun _ => 0))), (a6, .inl (G.2.1, 14, .inl (fun _ => 0))), (a7, .inl (G.2.1, 14, .inl (fun _ => 0))), (a8, .inl (G.2.1, 14, .inl (fun _ => 0))), (pl, .inr (6, [.ref a0, .ref a1, .int 0, .ref a3, .ref a4, .ref a5, .ref a6, .ref a7, .ref a8, .ref a9]))] := hD
            have w_35 : r_36 = zb (zw 1 20 p5) := w_35
            have hcut : sx_cut [(h, .inr (9, [.ref b, .ref pl, .ref cr, .ref te, .ref ca])), (a3, .inl (G.2.1, 14, .inl (fun _ => 0))), (a4, .inl (G.2.1, 14, .inl (fun _ => 0))), (a5, .inl (G.2.1, 14, .inl (fun _ => 0))), (a6, .inl (G.2.1, 14, .inl (fun _ => 0))), (a7, .inl (G.2.1, 14, .inl (fun _ => 0))), (a8, .inl (G.2.1, 14, .inl (fun _ => 0))), (pl, .inr (6, [.ref a0, .ref a1, .int 0, .ref a3, .ref a4, .ref a5, .ref a6, .ref a7, .ref a8, .ref a9]))] [] [(h, .inr (9, [.ref b, .ref pl, .ref cr, .ref te, .ref ca])), (a3, .inl (G.2.1, 14, .inl (fun _ => 0))), (a4, .inl (G.2.1, 14, .inl (fun _ => 0))), (a5, .inl (G.2.1, 14, .inl (fun _ => 0))), (a6, .inl (G.2.1, 14, .inl (fun _ => 0))), (a7, .inl (G.2.1, 14, .inl (fun _ => 0))), (a8, .inl (G.2.1, 14, .inl (fun _ => 0))), (pl, .inr (6, [.ref a0, .ref a1, .int 0, .ref a3, .ref a4, .ref a5, .ref a6, .ref a7, .ref a8, .ref a9]))] [] [0, 1, 2, 3, 4, 5, 6, 7] := ⟨rfl, rfl, by decide, by decide, by decide⟩
            refine sx_xkv (sx_xrunS (As := [.int r_36]) (rest := []) F (m_X7_needArgument l hfl G H.size r_36) mi_X7_needArgument q371 q370 ⟨⟨Nat.le_of_ble_eq_true rfl, Nat.le_of_ble_eq_true rfl⟩, Nat.le_of_ble_eq_true rfl, Nat.le_of_ble_eq_true rfl⟩ hcut hP hD hS rfl hl.1 rfl (Nat.le_of_ble_eq_true rfl) dX7_action_63) hcut hP hD hS hA (fun E ce q9 H locs hw9 hP hD hS hce hcv hcl => ?_) (fun u_37 H locs w_38 hP hD hS => ?_)
            · have hP : va_P (sx_D G) vwCl [(h, .inr (9, [.ref b, .ref pl, .ref cr, .ref te, .ref ca])), (a3, .inl (G.2.1, 14, .inl (fun _ => 0))), (a4, .inl (G.2.1, 14, .inl (fun _ => 0))), (a5, .inl (G.2.1, 14, .inl (fun _ => 0))), (a6, .inl (G.2.1, 14, .inl (fun _ => 0))), (a7, .inl (G.2.1, 14, .inl (fun _ => 0))), (a8, .inl (G.2.1, 14, .inl (fun _ => 0))), (pl, .inr (6, [.ref a0, .ref a1, .int 0, .ref a3, .ref a4, .ref a5, .ref a6, .ref a7, .ref a8, .ref a9]))] H := hP
              have hD : va_D A [(h, .inr (9, [.ref b, .ref pl, .ref cr, .ref te, .ref ca])), (a3, .inl (G.2.1, 14, .inl (fun _ => 0))), (a4, .inl (G.2.1, 14, .inl (fun _ => 0))), (a5, .inl (G.2.1, 14, .inl (fun _ => 0))), (a6, .inl (G.2.1, 14, .inl (fun _ => 0))), (a7, .inl (G.2.1, 14, .inl (fun _ => 0))), (a8, .inl (G.2.1, 14, .inl (fun _ => 0))), (pl, .inr (6, [.ref a0, .ref a1, .int 0, .ref a3, .ref a4, .ref a5, .ref a6, .ref a7, .ref a8, .ref a9]))] := hD
              exact sx_out (rest := []) hex hlk hce hcv hcl ⟨hw9.1, z1_1 (z_n2 (z_n2 (z_n2 (z_n2 (z_n2 (zb_f w_35 hw9.2))))))⟩ hS rfl rfl
            · have hP : va_P (sx_D G) vwCl [(h, .inr (9, [.ref b, .ref pl, .ref cr, .ref te, .ref ca])), (a3, .inl (G.2.1, 14, .inl (fun _ => 0))), (a4, .inl (G.2.1, 14, .inl (fun _ => 0))), (a5, .inl (G.2.1, 14, .inl (fun _ => 0))), (a6, .inl (G.2.1, 14, .inl (fun _ => 0))), (a7, .inl (G.2.1, 14, .inl (fun _ => 0))), (a8, .inl (G.2.1, 14, .inl (fun _ => 0))), (pl, .inr (6, [.ref a0, .ref a1, .int 0, .ref a3, .ref a4, .ref a5, .ref a6, .ref a7, .ref a8, .ref a9]))] H := hP
              have hD : va_D A [(h, .inr (9, [.ref b, .ref pl, .ref cr, .ref te, .ref ca])), (a3, .inl (G.2.1, 14, .inl (fun _ => 0))), (a4, .inl (G.2.1, 14, .inl (fun _ => 0))), (a5, .inl (G.2.1, 14, .inl (fun _ => 0))), (a6, .inl (G.2.1, 14, .inl (fun _ => 0))), (a7, .inl (G.2.1, 14, .inl (fun _ => 0))), (a8, .inl (G.2.1, 14, .inl (fun _ => 0))), (pl, .inr (6, [.ref a0, .ref a1, .int 0, .ref a3, .ref a4, .ref a5, .ref a6, .ref a7, .ref a8, .ref a9]))] := hD
              refine lv_aload_n hx hb dX7_action_66 rfl (lv_at hl 0 rfl) ?_
              refine va_get (D := sx_D G) (ci := 9) (v := .ref pl) (C := RX7) (T := TX7) (N := 5) hx hb hts inX7 hown hK hP 0 rfl rfl 1 (by decide) (hts _ q334) (fun _ h9 => h9) rfl dX7_action_67 ?_
              refine va_getN (D := sx_D G) (ci := 6) (v := .int 0) (C := RX4) (T := TX4) (N := 10) hx hb hts inX4 hown hK hP 7 rfl rfl 2 (by decide) (hts _ q60) (fun _ h9 => h9) rfl dX7_action_70 ?_
              refine lv_bipush (v := 14) hx hb dX7_action_73 (by decide) ?_
              refine lv_icmp_ge (tgt := 82) hx hb dX7_action_75 (by decide) (fun c_40 => absurd c_40 (by decide)) (fun c_40 => ?_)
              refine lv_iconst (v := 1) hx hb dX7_action_78 (by decide) ?_
              refine lv_goto (tgt := 83) hx hb dX7_action_79 (by decide) ?_
              have hcut : sx_cut [(h, .inr (9, [.ref b, .ref pl, .ref cr, .ref te, .ref ca])), (a3, .inl (G.2.1, 14, .inl (fun _ => 0))), (a4, .inl (G.2.1, 14, .inl (fun _ => 0))), (a5, .inl (G.2.1, 14, .inl (fun _ => 0))), (a6, .inl (G.2.1, 14, .inl (fun _ => 0))), (a7, .inl (G.2.1, 14, .inl (fun _ => 0))), (a8, .inl (G.2.1, 14, .inl (fun _ => 0))), (pl, .inr (6, [.ref a0, .ref a1, .int 0, .ref a3, .ref a4, .ref a5, .ref a6, .ref a7, .ref a8, .ref a9]))] [] [(h, .inr (9, [.ref b, .ref pl, .ref cr, .ref te, .ref ca])), (a3, .inl (G.2.1, 14, .inl (fun _ => 0))), (a4, .inl (G.2.1, 14, .inl (fun _ => 0))), (a5, .inl (G.2.1, 14, .inl (fun _ => 0))), (a6, .inl (G.2.1, 14, .inl (fun _ => 0))), (a7, .inl (G.2.1, 14, .inl (fun _ => 0))), (a8, .inl (G.2.1, 14, .inl (fun _ => 0))), (pl, .inr (6, [.ref a0, .ref a1, .int 0, .ref a3, .ref a4, .ref a5, .ref a6, .ref a7, .ref a8, .ref a9]))] [] [0, 1, 2, 3, 4, 5, 6, 7] := ⟨rfl, rfl, by decide, by decide, by decide⟩
              refine sx_xkv (sx_xrunS (As := [.int 1]) (rest := []) F (m_X7_needState l hfl G H.size 1) mi_X7_needState q676 q675 ⟨⟨Nat.le_of_ble_eq_true rfl, Nat.le_of_ble_eq_true rfl⟩, Nat.le_of_ble_eq_true rfl, Nat.le_of_ble_eq_true rfl⟩ hcut hP hD hS rfl hl.1 rfl (Nat.le_of_ble_eq_true rfl) dX7_action_83) hcut hP hD hS hA (fun E ce q9 H locs hw9 hP hD hS hce hcv hcl => ?_) (fun u_41 H locs w_42 hP hD hS => ?_)
              · have hP : va_P (sx_D G) vwCl [(h, .inr (9, [.ref b, .ref pl, .ref cr, .ref te, .ref ca])), (a3, .inl (G.2.1, 14, .inl (fun _ => 0))), (a4, .inl (G.2.1, 14, .inl (fun _ => 0))), (a5, .inl (G.2.1, 14, .inl (fun _ => 0))), (a6, .inl (G.2.1, 14, .inl (fun _ => 0))), (a7, .inl (G.2.1, 14, .inl (fun _ => 0))), (a8, .inl (G.2.1, 14, .inl (fun _ => 0))), (pl, .inr (6, [.ref a0, .ref a1, .int 0, .ref a3, .ref a4, .ref a5, .ref a6, .ref a7, .ref a8, .ref a9]))] H := hP
                have hD : va_D A [(h, .inr (9, [.ref b, .ref pl, .ref cr, .ref te, .ref ca])), (a3, .inl (G.2.1, 14, .inl (fun _ => 0))), (a4, .inl (G.2.1, 14, .inl (fun _ => 0))), (a5, .inl (G.2.1, 14, .inl (fun _ => 0))), (a6, .inl (G.2.1, 14, .inl (fun _ => 0))), (a7, .inl (G.2.1, 14, .inl (fun _ => 0))), (a8, .inl (G.2.1, 14, .inl (fun _ => 0))), (pl, .inr (6, [.ref a0, .ref a1, .int 0, .ref a3, .ref a4, .ref a5, .ref a6, .ref a7, .ref a8, .ref a9]))] := hD
                exact sx_out (rest := []) hex hlk hce hcv hcl (absurd hw9.2 (by decide)) hS rfl rfl
              · have hP : va_P (sx_D G) vwCl [(h, .inr (9, [.ref b, .ref pl, .ref cr, .ref te, .ref ca])), (a3, .inl (G.2.1, 14, .inl (fun _ => 0))), (a4, .inl (G.2.1, 14, .inl (fun _ => 0))), (a5, .inl (G.2.1, 14, .inl (fun _ => 0))), (a6, .inl (G.2.1, 14, .inl (fun _ => 0))), (a7, .inl (G.2.1, 14, .inl (fun _ => 0))), (a8, .inl (G.2.1, 14, .inl (fun _ => 0))), (pl, .inr (6, [.ref a0, .ref a1, .int 0, .ref a3, .ref a4, .ref a5, .ref a6, .ref a7, .ref a8, .ref a9]))] H := hP
                have hD : va_D A [(h, .inr (9, [.ref b, .ref pl, .ref cr, .ref te, .ref ca])), (a3, .inl (G.2.1, 14, .inl (fun _ => 0))), (a4, .inl (G.2.1, 14, .inl (fun _ => 0))), (a5, .inl (G.2.1, 14, .inl (fun _ => 0))), (a6, .inl (G.2.1, 14, .inl (fun _ => 0))), (a7, .inl (G.2.1, 14, .inl (fun _ => 0))), (a8, .inl (G.2.1, 14, .inl (fun _ => 0))), (pl, .inr (6, [.ref a0, .ref a1, .int 0, .ref a3, .ref a4, .ref a5, .ref a6, .ref a7, .ref a8, .ref a9]))] := hD
                refine lv_aload_n hx hb dX7_action_86 rfl (lv_at hl 0 rfl) ?_
                refine va_get (D := sx_D G) (ci := 9) (v := .ref pl) (C := RX7) (T := TX7) (N := 5) hx hb hts inX7 hown hK hP 0 rfl rfl 1 (by decide) (hts _ q334) (fun _ h9 => h9) rfl dX7_action_87 ?_
                refine va_getN (D := sx_D G) (ci := 6) (v := .int 0) (C := RX4) (T := TX4) (N := 10) hx hb hts inX4 hown hK hP 7 rfl rfl 2 (by decide) (hts _ q60) (fun _ h9 => h9) rfl dX7_action_90 ?_
                refine lv_istore (lv' := [(7, .int 0), (0, .ref h), (1, .int p0), (2, .int p1), (3, .int p2), (4, .int p3), (5, .int p4), (6, .int p5)]) hx hb dX7_action_93 hl (by decide) rfl (fun ls hl => ?_)
                refine lv_aload_n hx hb dX7_action_95 rfl (lv_at hl 1 rfl) ?_
                refine va_get (D := sx_D G) (ci := 9) (v := .ref pl) (C := RX7) (T := TX7) (N := 5) hx hb hts inX7 hown hK hP 0 rfl rfl 1 (by decide) (hts _ q334) (fun _ h9 => h9) rfl dX7_action_96 ?_
                refine va_getN (D := sx_D G) (ci := 6) (v := .ref a3) (C := RX4) (T := TX4) (N := 10) hx hb hts inX4 hown hK hP 7 rfl rfl 3 (by decide) (hts _ q63) (fun _ h9 => h9) rfl dX7_action_99 ?_
                refine lv_iload hx hb dX7_action_102 (lv_at hl 0 rfl) ?_
                refine lv_iload_n hx hb dX7_action_104 rfl (lv_at hl 2 rfl) ?_
                refine va_iast (D := sx_D G) (tys := sx_tys G) hx hb hK hP hD hS 1 0 rfl rfl (vp_in_iff.mpr (by decide)) dX7_action_105 (fun H locs hP hD hS => ?_)
                have hP : va_P (sx_D G) vwCl [(h, .inr (9, [.ref b, .ref pl, .ref cr, .ref te, .ref ca])), (a3, .inl (G.2.1, 14, .inl (upd (fun _ => 0) (0 : Int32).toNatClampNeg p0))), (a4, .inl (G.2.1, 14, .inl (fun _ => 0))), (a5, .inl (G.2.1, 14, .inl (fun _ => 0))), (a6, .inl (G.2.1, 14, .inl (fun _ => 0))), (a7, .inl (G.2.1, 14, .inl (fun _ => 0))), (a8, .inl (G.2.1, 14, .inl (fun _ => 0))), (pl, .inr (6, [.ref a0, .ref a1, .int 0, .ref a3, .ref a4, .ref a5, .ref a6, .ref a7, .ref a8, .ref a9]))] H := hP
                have hD : va_D A [(h, .inr (9, [.ref b, .ref pl, .ref cr, .ref te, .ref ca])), (a3, .inl (G.2.1, 14, .inl (upd (fun _ => 0) (0 : Int32).toNatClampNeg p0))), (a4, .inl (G.2.1, 14, .inl (fun _ => 0))), (a5, .inl (G.2.1, 14, .inl (fun _ => 0))), (a6, .inl (G.2.1, 14, .inl (fun _ => 0))), (a7, .inl (G.2.1, 14, .inl (fun _ => 0))), (a8, .inl (G.2.1, 14, .inl (fun _ => 0))), (pl, .inr (6, [.ref a0, .ref a1, .int 0, .ref a3, .ref a4, .ref a5, .ref a6, .ref a7, .ref a8, .ref a9]))] := hD
                refine lv_aload_n hx hb dX7_action_106 rfl (lv_at hl 1 rfl) ?_
                refine va_get (D := sx_D G) (ci := 9) (v := .ref pl) (C := RX7) (T := TX7) (N := 5) hx hb hts inX7 hown hK hP 0 rfl rfl 1 (by decide) (hts _ q334) (fun _ h9 => h9) rfl dX7_action_107 ?_
                refine va_getN (D := sx_D G) (ci := 6) (v := .ref a4) (C := RX4) (T := TX4) (N := 10) hx hb hts inX4 hown hK hP 7 rfl rfl 4 (by decide) (hts _ q66) (fun _ h9 => h9) rfl dX7_action_110 ?_
                refine lv_iload hx hb dX7_action_113 (lv_at hl 0 rfl) ?_
                refine lv_iload_n hx hb dX7_action_115 rfl (lv_at hl 3 rfl) ?_
                refine va_iast (D := sx_D G) (tys := sx_tys G) hx hb hK hP hD hS 2 0 rfl rfl (vp_in_iff.mpr (by decide)) dX7_action_116 (fun H locs hP hD hS => ?_)
                have hP : va_P (sx_D G) vwCl [(h, .inr (9, [.ref b, .ref pl, .ref cr, .ref te, .ref ca])), (a3, .inl (G.2.1, 14, .inl (upd (fun _ => 0) (0 : Int32).toNatClampNeg p0))), (a4, .inl (G.2.1, 14, .inl (upd (fun _ => 0) (0 : Int32).toNatClampNeg p1))), (a5, .inl (G.2.1, 14, .inl (fun _ => 0))), (a6, .inl (G.2.1, 14, .inl (fun _ => 0))), (a7, .inl (G.2.1, 14, .inl (fun _ => 0))), (a8, .inl (G.2.1, 14, .inl (fun _ => 0))), (pl, .inr (6, [.ref a0, .ref a1, .int 0, .ref a3, .ref a4, .ref a5, .ref a6, .ref a7, .ref a8, .ref a9]))] H := hP
                have hD : va_D A [(h, .inr (9, [.ref b, .ref pl, .ref cr, .ref te, .ref ca])), (a3, .inl (G.2.1, 14, .inl (upd (fun _ => 0) (0 : Int32).toNatClampNeg p0))), (a4, .inl (G.2.1, 14, .inl (upd (fun _ => 0) (0 : Int32).toNatClampNeg p1))), (a5, .inl (G.2.1, 14, .inl (fun _ => 0))), (a6, .inl (G.2.1, 14, .inl (fun _ => 0))), (a7, .inl (G.2.1, 14, .inl (fun _ => 0))), (a8, .inl (G.2.1, 14, .inl (fun _ => 0))), (pl, .inr (6, [.ref a0, .ref a1, .int 0, .ref a3, .ref a4, .ref a5, .ref a6, .ref a7, .ref a8, .ref a9]))] := hD
                refine lv_aload_n hx hb dX7_action_117 rfl (lv_at hl 1 rfl) ?_
                refine va_get (D := sx_D G) (ci := 9) (v := .ref pl) (C := RX7) (T := TX7) (N := 5) hx hb hts inX7 hown hK hP 0 rfl rfl 1 (by decide) (hts _ q334) (fun _ h9 => h9) rfl dX7_action_118 ?_
                refine va_getN (D := sx_D G) (ci := 6) (v := .ref a5) (C := RX4) (T := TX4) (N := 10) hx hb hts inX4 hown hK hP 7 rfl rfl 5 (by decide) (hts _ q69) (fun _ h9 => h9) rfl dX7_action_121 ?_
                refine lv_iload hx hb dX7_action_124 (lv_at hl 0 rfl) ?_
                refine lv_iload_n hx hb dX7_action_126 rfl (lv_at hl 4 rfl) ?_
                refine va_iast (D := sx_D G) (tys := sx_tys G) hx hb hK hP hD hS 3 0 rfl rfl (vp_in_iff.mpr (by decide)) dX7_action_127 (fun H locs hP hD hS => ?_)
                have hP : va_P (sx_D G) vwCl [(h, .inr (9, [.ref b, .ref pl, .ref cr, .ref te, .ref ca])), (a3, .inl (G.2.1, 14, .inl (upd (fun _ => 0) (0 : Int32).toNatClampNeg p0))), (a4, .inl (G.2.1, 14, .inl (upd (fun _ => 0) (0 : Int32).toNatClampNeg p1))), (a5, .inl (G.2.1, 14, .inl (upd (fun _ => 0) (0 : Int32).toNatClampNeg p2))), (a6, .inl (G.2.1, 14, .inl (fun _ => 0))), (a7, .inl (G.2.1, 14, .inl (fun _ => 0))), (a8, .inl (G.2.1, 14, .inl (fun _ => 0))), (pl, .inr (6, [.ref a0, .ref a1, .int 0, .ref a3, .ref a4, .ref a5, .ref a6, .ref a7, .ref a8, .ref a9]))] H := hP
                have hD : va_D A [(h, .inr (9, [.ref b, .ref pl, .ref cr, .ref te, .ref ca])), (a3, .inl (G.2.1, 14, .inl (upd (fun _ => 0) (0 : Int32).toNatClampNeg p0))), (a4, .inl (G.2.1, 14, .inl (upd (fun _ => 0) (0 : Int32).toNatClampNeg p1))), (a5, .inl (G.2.1, 14, .inl (upd (fun _ => 0) (0 : Int32).toNatClampNeg p2))), (a6, .inl (G.2.1, 14, .inl (fun _ => 0))), (a7, .inl (G.2.1, 14, .inl (fun _ => 0))), (a8, .inl (G.2.1, 14, .inl (fun _ => 0))), (pl, .inr (6, [.ref a0, .ref a1, .int 0, .ref a3, .ref a4, .ref a5, .ref a6, .ref a7, .ref a8, .ref a9]))] := hD
                refine lv_aload_n hx hb dX7_action_128 rfl (lv_at hl 1 rfl) ?_
                refine va_get (D := sx_D G) (ci := 9) (v := .ref pl) (C := RX7) (T := TX7) (N := 5) hx hb hts inX7 hown hK hP 0 rfl rfl 1 (by decide) (hts _ q334) (fun _ h9 => h9) rfl dX7_action_129 ?_
                refine va_getN (D := sx_D G) (ci := 6) (v := .ref a6) (C := RX4) (T := TX4) (N := 10) hx hb hts inX4 hown hK hP 7 rfl rfl 6 (by decide) (hts _ q73) (fun _ h9 => h9) rfl dX7_action_132 ?_
                refine lv_iload hx hb dX7_action_135 (lv_at hl 0 rfl) ?_
                refine lv_iload hx hb dX7_action_137 (lv_at hl 5 rfl) ?_
                refine va_iast (D := sx_D G) (tys := sx_tys G) hx hb hK hP hD hS 4 0 rfl rfl (vp_in_iff.mpr (by decide)) dX7_action_139 (fun H locs hP hD hS => ?_)
                have hP : va_P (sx_D G) vwCl [(h, .inr (9, [.ref b, .ref pl, .ref cr, .ref te, .ref ca])), (a3, .inl (G.2.1, 14, .inl (upd (fun _ => 0) (0 : Int32).toNatClampNeg p0))), (a4, .inl (G.2.1, 14, .inl (upd (fun _ => 0) (0 : Int32).toNatClampNeg p1))), (a5, .inl (G.2.1, 14, .inl (upd (fun _ => 0) (0 : Int32).toNatClampNeg p2))), (a6, .inl (G.2.1, 14, .inl (upd (fun _ => 0) (0 : Int32).toNatClampNeg p3))), (a7, .inl (G.2.1, 14, .inl (fun _ => 0))), (a8, .inl (G.2.1, 14, .inl (fun _ => 0))), (pl, .inr (6, [.ref a0, .ref a1, .int 0, .ref a3, .ref a4, .ref a5, .ref a6, .ref a7, .ref a8, .ref a9]))] H := hP
                have hD : va_D A [(h, .inr (9, [.ref b, .ref pl, .ref cr, .ref te, .ref ca])), (a3, .inl (G.2.1, 14, .inl (upd (fun _ => 0) (0 : Int32).toNatClampNeg p0))), (a4, .inl (G.2.1, 14, .inl (upd (fun _ => 0) (0 : Int32).toNatClampNeg p1))), (a5, .inl (G.2.1, 14, .inl (upd (fun _ => 0) (0 : Int32).toNatClampNeg p2))), (a6, .inl (G.2.1, 14, .inl (upd (fun _ => 0) (0 : Int32).toNatClampNeg p3))), (a7, .inl (G.2.1, 14, .inl (fun _ => 0))), (a8, .inl (G.2.1, 14, .inl (fun _ => 0))), (pl, .inr (6, [.ref a0, .ref a1, .int 0, .ref a3, .ref a4, .ref a5, .ref a6, .ref a7, .ref a8, .ref a9]))] := hD
                refine lv_aload_n hx hb dX7_action_140 rfl (lv_at hl 1 rfl) ?_
                refine va_get (D := sx_D G) (ci := 9) (v := .ref pl) (C := RX7) (T := TX7) (N := 5) hx hb hts inX7 hown hK hP 0 rfl rfl 1 (by decide) (hts _ q334) (fun _ h9 => h9) rfl dX7_action_141 ?_
                refine va_getN (D := sx_D G) (ci := 6) (v := .ref a7) (C := RX4) (T := TX4) (N := 10) hx hb hts inX4 hown hK hP 7 rfl rfl 7 (by decide) (hts _ q77) (fun _ h9 => h9) rfl dX7_action_144 ?_
                refine lv_iload hx hb dX7_action_147 (lv_at hl 0 rfl) ?_
                refine lv_iload hx hb dX7_action_149 (lv_at hl 6 rfl) ?_
                refine va_iast (D := sx_D G) (tys := sx_tys G) hx hb hK hP hD hS 5 0 rfl rfl (vp_in_iff.mpr (by decide)) dX7_action_151 (fun H locs hP hD hS => ?_)
                have hP : va_P (sx_D G) vwCl [(h, .inr (9, [.ref b, .ref pl, .ref cr, .ref te, .ref ca])), (a3, .inl (G.2.1, 14, .inl (upd (fun _ => 0) (0 : Int32).toNatClampNeg p0))), (a4, .inl (G.2.1, 14, .inl (upd (fun _ => 0) (0 : Int32).toNatClampNeg p1))), (a5, .inl (G.2.1, 14, .inl (upd (fun _ => 0) (0 : Int32).toNatClampNeg p2))), (a6, .inl (G.2.1, 14, .inl (upd (fun _ => 0) (0 : Int32).toNatClampNeg p3))), (a7, .inl (G.2.1, 14, .inl (upd (fun _ => 0) (0 : Int32).toNatClampNeg p4))), (a8, .inl (G.2.1, 14, .inl (fun _ => 0))), (pl, .inr (6, [.ref a0, .ref a1, .int 0, .ref a3, .ref a4, .ref a5, .ref a6, .ref a7, .ref a8, .ref a9]))] H := hP
                have hD : va_D A [(h, .inr (9, [.ref b, .ref pl, .ref cr, .ref te, .ref ca])), (a3, .inl (G.2.1, 14, .inl (upd (fun _ => 0) (0 : Int32).toNatClampNeg p0))), (a4, .inl (G.2.1, 14, .inl (upd (fun _ => 0) (0 : Int32).toNatClampNeg p1))), (a5, .inl (G.2.1, 14, .inl (upd (fun _ => 0) (0 : Int32).toNatClampNeg p2))), (a6, .inl (G.2.1, 14, .inl (upd (fun _ => 0) (0 : Int32).toNatClampNeg p3))), (a7, .inl (G.2.1, 14, .inl (upd (fun _ => 0) (0 : Int32).toNatClampNeg p4))), (a8, .inl (G.2.1, 14, .inl (fun _ => 0))), (pl, .inr (6, [.ref a0, .ref a1, .int 0, .ref a3, .ref a4, .ref a5, .ref a6, .ref a7, .ref a8, .ref a9]))] := hD
                refine lv_aload_n hx hb dX7_action_152 rfl (lv_at hl 1 rfl) ?_
                refine va_get (D := sx_D G) (ci := 9) (v := .ref pl) (C := RX7) (T := TX7) (N := 5) hx hb hts inX7 hown hK hP 0 rfl rfl 1 (by decide) (hts _ q334) (fun _ h9 => h9) rfl dX7_action_153 ?_
                refine va_getN (D := sx_D G) (ci := 6) (v := .ref a8) (C := RX4) (T := TX4) (N := 10) hx hb hts inX4 hown hK hP 7 rfl rfl 8 (by decide) (hts _ q81) (fun _ h9 => h9) rfl dX7_action_156 ?_
                refine lv_iload hx hb dX7_action_159 (lv_at hl 0 rfl) ?_
                refine lv_iload hx hb dX7_action_161 (lv_at hl 7 rfl) ?_
                refine va_iast (D := sx_D G) (tys := sx_tys G) hx hb hK hP hD hS 6 0 rfl rfl (vp_in_iff.mpr (by decide)) dX7_action_163 (fun H locs hP hD hS => ?_)
                have hP : va_P (sx_D G) vwCl [(h, .inr (9, [.ref b, .ref pl, .ref cr, .ref te, .ref ca])), (a3, .inl (G.2.1, 14, .inl (upd (fun _ => 0) (0 : Int32).toNatClampNeg p0))), (a4, .inl (G.2.1, 14, .inl (upd (fun _ => 0) (0 : Int32).toNatClampNeg p1))), (a5, .inl (G.2.1, 14, .inl (upd (fun _ => 0) (0 : Int32).toNatClampNeg p2))), (a6, .inl (G.2.1, 14, .inl (upd (fun _ => 0) (0 : Int32).toNatClampNeg p3))), (a7, .inl (G.2.1, 14, .inl (upd (fun _ => 0) (0 : Int32).toNatClampNeg p4))), (a8, .inl (G.2.1, 14, .inl (upd (fun _ => 0) (0 : Int32).toNatClampNeg p5))), (pl, .inr (6, [.ref a0, .ref a1, .int 0, .ref a3, .ref a4, .ref a5, .ref a6, .ref a7, .ref a8, .ref a9]))] H := hP
                have hD : va_D A [(h, .inr (9, [.ref b, .ref pl, .ref cr, .ref te, .ref ca])), (a3, .inl (G.2.1, 14, .inl (upd (fun _ => 0) (0 : Int32).toNatClampNeg p0))), (a4, .inl (G.2.1, 14, .inl (upd (fun _ => 0) (0 : Int32).toNatClampNeg p1))), (a5, .inl (G.2.1, 14, .inl (upd (fun _ => 0) (0 : Int32).toNatClampNeg p2))), (a6, .inl (G.2.1, 14, .inl (upd (fun _ => 0) (0 : Int32).toNatClampNeg p3))), (a7, .inl (G.2.1, 14, .inl (upd (fun _ => 0) (0 : Int32).toNatClampNeg p4))), (a8, .inl (G.2.1, 14, .inl (upd (fun _ => 0) (0 : Int32).toNatClampNeg p5))), (pl, .inr (6, [.ref a0, .ref a1, .int 0, .ref a3, .ref a4, .ref a5, .ref a6, .ref a7, .ref a8, .ref a9]))] := hD
                refine lv_aload_n hx hb dX7_action_164 rfl (lv_at hl 1 rfl) ?_
                refine va_get (D := sx_D G) (ci := 9) (v := .ref pl) (C := RX7) (T := TX7) (N := 5) hx hb hts inX7 hown hK hP 0 rfl rfl 1 (by decide) (hts _ q334) (fun _ h9 => h9) rfl dX7_action_165 ?_
                refine lv_dup hx hb dX7_action_168 rfl ?_
                refine va_getN (D := sx_D G) (ci := 6) (v := .int 0) (C := RX4) (T := TX4) (N := 10) hx hb hts inX4 hown hK hP 7 rfl rfl 2 (by decide) (hts _ q60) (fun _ h9 => h9) rfl dX7_action_169 ?_
                refine lv_iconst (v := 1) hx hb dX7_action_172 (by decide) ?_
                refine lv_iadd hx hb dX7_action_173 ?_
                refine lv_topi (fun x_44 ex_44 => ?_)
                have ex_44 : x_44 = (1 : Int32) := ex_44.trans (by decide)
                subst ex_44
                refine va_putN (D := sx_D G) (ci := 6) (v := .int 1) (ty := tyX4 2) (C := RX4) (T := TX4) (N := 10) hx hb hts inX4 tyX4 tyX4_ok nmX4 hown hK hP hD hS 7 rfl rfl 2 (by decide) (hts _ q60) (fun _ h9 => h9) rfl (by decide +kernel) rfl rfl (Nat.le_of_ble_eq_true rfl) dX7_action_174 (fun H locs hP hD hS => ?_)
                have hP : va_P (sx_D G) vwCl [(h, .inr (9, [.ref b, .ref pl, .ref cr, .ref te, .ref ca])), (a3, .inl (G.2.1, 14, .inl (upd (fun _ => 0) (0 : Int32).toNatClampNeg p0))), (a4, .inl (G.2.1, 14, .inl (upd (fun _ => 0) (0 : Int32).toNatClampNeg p1))), (a5, .inl (G.2.1, 14, .inl (upd (fun _ => 0) (0 : Int32).toNatClampNeg p2))), (a6, .inl (G.2.1, 14, .inl (upd (fun _ => 0) (0 : Int32).toNatClampNeg p3))), (a7, .inl (G.2.1, 14, .inl (upd (fun _ => 0) (0 : Int32).toNatClampNeg p4))), (a8, .inl (G.2.1, 14, .inl (upd (fun _ => 0) (0 : Int32).toNatClampNeg p5))), (pl, .inr (6, [.ref a0, .ref a1, .int 1, .ref a3, .ref a4, .ref a5, .ref a6, .ref a7, .ref a8, .ref a9]))] H := hP
                have hD : va_D A [(h, .inr (9, [.ref b, .ref pl, .ref cr, .ref te, .ref ca])), (a3, .inl (G.2.1, 14, .inl (upd (fun _ => 0) (0 : Int32).toNatClampNeg p0))), (a4, .inl (G.2.1, 14, .inl (upd (fun _ => 0) (0 : Int32).toNatClampNeg p1))), (a5, .inl (G.2.1, 14, .inl (upd (fun _ => 0) (0 : Int32).toNatClampNeg p2))), (a6, .inl (G.2.1, 14, .inl (upd (fun _ => 0) (0 : Int32).toNatClampNeg p3))), (a7, .inl (G.2.1, 14, .inl (upd (fun _ => 0) (0 : Int32).toNatClampNeg p4))), (a8, .inl (G.2.1, 14, .inl (upd (fun _ => 0) (0 : Int32).toNatClampNeg p5))), (pl, .inr (6, [.ref a0, .ref a1, .int 1, .ref a3, .ref a4, .ref a5, .ref a6, .ref a7, .ref a8, .ref a9]))] := hD
                refine lv_iload hx hb dX7_action_177 (lv_at hl 0 rfl) ?_
                have hP := hP.sub (ws' := []) [] rfl
                have hD := hD.sub (ws' := []) [] (by decide) rfl
                exact vx_ret (sx_iret (v := 0) () hx hb hr rfl hlk hP hD hS ⟨rfl, z1_0 (z_and (zb_t w_2 w_5) (z_and (zb_t w_11 w_14) (z_and (zb_t w_17 w_20) (z_and (zb_t w_23 w_26) (z_and (zb_t w_29 w_32) (zb_t w_35 w_38))))))⟩ dX7_action_179 rfl rfl)
set_option maxHeartbeats 4000000 in
set_option maxRecDepth 100000 in
theorem m_X1_inState (l : Launch) (G : sx_G) (sz : Nat) (ca : Nat) (k2 : Nat) (k3 : Nat) (k4 : Nat) (k5 : Nat) (k6 : Nat) (k7 : Nat) (k8 : Nat) (k9 : Nat) (k10 : Nat) (k11 : Nat) (k12 : Nat) (k13 : Nat) (k14 : Nat) (st : Int32) : sx_Met l yX1_inState cX1_inState 4 (some .int) 0 0 0 0 G [.ref ca, .int st] [(ca, .inr (3, [.int 0, .int 0, .ref k2, .ref k3, .ref k4, .ref k5, .ref k6, .ref k7, .ref k8, .ref k9, .ref k10, .ref k11, .ref k12, .ref k13, .ref k14]))] sz (sx_Qi G (fun (r : Int32) (u : Unit) => r = 0) (fun (u : Unit) => [(ca, .inr (3, [.int 0, .int 0, .ref k2, .ref k3, .ref k4, .ref k5, .ref k6, .ref k7, .ref k8, .ref k9, .ref k10, .ref k11, .ref k12, .ref k13, .ref k14]))])) := by
  refine sx_start (by decide) rfl (fun p e s m below meth c A ls F hr hlk hnm hP hD hS hl => ?_)
  obtain ⟨hx, hb, hml, hown, hts, hK, hE, hA⟩ := id F
  have hown : s.vm.findClass RX1 = some m.cls := hown
  generalize hHe : s.heap = H at hP
  have hS : va_S A s.heap H [] := by rw [← hHe]; exact va_S.rf
  have hl : lv_has ls 4 [(0, .ref ca), (1, .int st)] := hl
  refine lv_iconst (v := 0) hx hb dX1_inState_0 (by decide) ?_
  refine lv_istore_n (lv' := [(2, .int 0), (0, .ref ca), (1, .int st)]) hx hb dX1_inState_1 rfl hl (by decide) rfl (fun ls hl => ?_)
  refine lv_iconst (v := 0) hx hb dX1_inState_2 (by decide) ?_
  refine lv_istore_n (lv' := [(3, .int 0), (2, .int 0), (0, .ref ca), (1, .int st)]) hx hb dX1_inState_3 rfl hl (by decide) rfl (fun ls hl => ?_)
  refine lv_iload_n hx hb dX1_inState_4 rfl (lv_at hl 0 rfl) ?_
  refine lv_aload_n hx hb dX1_inState_5 rfl (lv_at hl 2 rfl) ?_
  refine va_get (D := sx_D G) (ci := 3) (v := .int 0) (C := RX1) (T := TX1) (N := 15) hx hb hts inX1 hown hK hP 0 rfl rfl 0 (by decide) (hts _ q176) (fun _ h9 => h9) rfl dX1_inState_6 ?_
  refine lv_icmp_ge (tgt := 36) hx hb dX1_inState_9 (by decide) (fun c_1 => ?_) (fun c_1 => absurd (by decide) c_1)
  refine lv_iload_n hx hb dX1_inState_36 rfl (lv_at hl 1 rfl) ?_
  exact (sx_iret (v := 0) () hx hb hr rfl hlk hP hD hS rfl dX1_inState_37 rfl rfl)
set_option maxHeartbeats 4000000 in
set_option maxRecDepth 100000 in
theorem m_X1_allHits (l : Launch) (G : sx_G) (sz : Nat) (ca : Nat) (k2 : Nat) (k3 : Nat) (k4 : Nat) (k5 : Nat) (k6 : Nat) (k7 : Nat) (k8 : Nat) (k9 : Nat) (k10 : Nat) (k11 : Nat) (k12 : Nat) (k13 : Nat) (k14 : Nat) : sx_Met l yX1_allHits cX1_allHits 3 (some .int) 0 0 0 0 G [.ref ca] [(ca, .inr (3, [.int 0, .int 0, .ref k2, .ref k3, .ref k4, .ref k5, .ref k6, .ref k7, .ref k8, .ref k9, .ref k10, .ref k11, .ref k12, .ref k13, .ref k14]))] sz (sx_Qi G (fun (r : Int32) (u : Unit) => r = 0) (fun (u : Unit) => [(ca, .inr (3, [.int 0, .int 0, .ref k2, .ref k3, .ref k4, .ref k5, .ref k6, .ref k7, .ref k8, .ref k9, .ref k10, .ref k11, .ref k12, .ref k13, .ref k14]))])) := by
  refine sx_start (by decide) rfl (fun p e s m below meth c A ls F hr hlk hnm hP hD hS hl => ?_)
  obtain ⟨hx, hb, hml, hown, hts, hK, hE, hA⟩ := id F
  have hown : s.vm.findClass RX1 = some m.cls := hown
  generalize hHe : s.heap = H at hP
  have hS : va_S A s.heap H [] := by rw [← hHe]; exact va_S.rf
  have hl : lv_has ls 3 [(0, .ref ca)] := hl
  refine lv_iconst (v := 0) hx hb dX1_allHits_0 (by decide) ?_
  refine lv_istore_n (lv' := [(1, .int 0), (0, .ref ca)]) hx hb dX1_allHits_1 rfl hl (by decide) rfl (fun ls hl => ?_)
  refine lv_iconst (v := 0) hx hb dX1_allHits_2 (by decide) ?_
  refine lv_istore_n (lv' := [(2, .int 0), (1, .int 0), (0, .ref ca)]) hx hb dX1_allHits_3 rfl hl (by decide) rfl (fun ls hl => ?_)
  refine lv_iload_n hx hb dX1_allHits_4 rfl (lv_at hl 0 rfl) ?_
  refine lv_aload_n hx hb dX1_allHits_5 rfl (lv_at hl 2 rfl) ?_
  refine va_get (D := sx_D G) (ci := 3) (v := .int 0) (C := RX1) (T := TX1) (N := 15) hx hb hts inX1 hown hK hP 0 rfl rfl 0 (by decide) (hts _ q176) (fun _ h9 => h9) rfl dX1_allHits_6 ?_
  refine lv_icmp_ge (tgt := 27) hx hb dX1_allHits_9 (by decide) (fun c_1 => ?_) (fun c_1 => absurd (by decide) c_1)
  refine lv_iload_n hx hb dX1_allHits_27 rfl (lv_at hl 1 rfl) ?_
  exact (sx_iret (v := 0) () hx hb hr rfl hlk hP hD hS rfl dX1_allHits_28 rfl rfl)
set_option maxHeartbeats 4000000 in
set_option maxRecDepth 100000 in
theorem m_X2_allRuns (l : Launch) (G : sx_G) (sz : Nat) (cr : Nat) (c1 : Nat) (c2 : Nat) (c3 : Nat) (c4 : Nat) (c5 : Nat) : sx_Met l yX2_allRuns cX2_allRuns 3 (some .int) 0 0 0 0 G [.ref cr] [(cr, .inr (4, [.int 0, .ref c1, .ref c2, .ref c3, .ref c4, .ref c5]))] sz (sx_Qi G (fun (r : Int32) (u : Unit) => r = 0) (fun (u : Unit) => [(cr, .inr (4, [.int 0, .ref c1, .ref c2, .ref c3, .ref c4, .ref c5]))])) := by
  refine sx_start (by decide) rfl (fun p e s m below meth c A ls F hr hlk hnm hP hD hS hl => ?_)
  obtain ⟨hx, hb, hml, hown, hts, hK, hE, hA⟩ := id F
  have hown : s.vm.findClass RX2 = some m.cls := hown
  generalize hHe : s.heap = H at hP
  have hS : va_S A s.heap H [] := by rw [← hHe]; exact va_S.rf
  have hl : lv_has ls 3 [(0, .ref cr)] := hl
  refine lv_iconst (v := 0) hx hb dX2_allRuns_0 (by decide) ?_
  refine lv_istore_n (lv' := [(1, .int 0), (0, .ref cr)]) hx hb dX2_allRuns_1 rfl hl (by decide) rfl (fun ls hl => ?_)
  refine lv_iconst (v := 0) hx hb dX2_allRuns_2 (by decide) ?_
  refine lv_istore_n (lv' := [(2, .int 0), (1, .int 0), (0, .ref cr)]) hx hb dX2_allRuns_3 rfl hl (by decide) rfl (fun ls hl => ?_)
  refine lv_iload_n hx hb dX2_allRuns_4 rfl (lv_at hl 0 rfl) ?_
  refine lv_aload_n hx hb dX2_allRuns_5 rfl (lv_at hl 2 rfl) ?_
  refine va_get (D := sx_D G) (ci := 4) (v := .int 0) (C := RX2) (T := TX2) (N := 6) hx hb hts inX2 hown hK hP 0 rfl rfl 0 (by decide) (hts _ q113) (fun _ h9 => h9) rfl dX2_allRuns_6 ?_
  refine lv_icmp_ge (tgt := 27) hx hb dX2_allRuns_9 (by decide) (fun c_1 => ?_) (fun c_1 => absurd (by decide) c_1)
  refine lv_iload_n hx hb dX2_allRuns_27 rfl (lv_at hl 1 rfl) ?_
  exact (sx_iret (v := 0) () hx hb hr rfl hlk hP hD hS rfl dX2_allRuns_28 rfl rfl)
set_option maxHeartbeats 4000000 in
set_option maxRecDepth 100000 in
theorem m_X1_keptOfActions (l : Launch) (G : sx_G) (sz : Nat) (ca : Nat) (k2 : Nat) (k3 : Nat) (k4 : Nat) (k5 : Nat) (k6 : Nat) (k7 : Nat) (k8 : Nat) (k9 : Nat) (k10 : Nat) (k11 : Nat) (k12 : Nat) (k13 : Nat) (k14 : Nat) (st : Int32) : sx_Met l yX1_keptOfActions cX1_keptOfActions 4 (some .int) 0 0 0 0 G [.ref ca, .int st] [(ca, .inr (3, [.int 0, .int 0, .ref k2, .ref k3, .ref k4, .ref k5, .ref k6, .ref k7, .ref k8, .ref k9, .ref k10, .ref k11, .ref k12, .ref k13, .ref k14]))] sz (sx_Qi G (fun (r : Int32) (u : Unit) => r = 0) (fun (u : Unit) => [(ca, .inr (3, [.int 0, .int 0, .ref k2, .ref k3, .ref k4, .ref k5, .ref k6, .ref k7, .ref k8, .ref k9, .ref k10, .ref k11, .ref k12, .ref k13, .ref k14]))])) := by
  refine sx_start (by decide) rfl (fun p e s m below meth c A ls F hr hlk hnm hP hD hS hl => ?_)
  obtain ⟨hx, hb, hml, hown, hts, hK, hE, hA⟩ := id F
  have hown : s.vm.findClass RX1 = some m.cls := hown
  generalize hHe : s.heap = H at hP
  have hS : va_S A s.heap H [] := by rw [← hHe]; exact va_S.rf
  have hl : lv_has ls 4 [(0, .ref ca), (1, .int st)] := hl
  refine lv_iconst (v := 0) hx hb dX1_keptOfActions_0 (by decide) ?_
  refine lv_istore_n (lv' := [(2, .int 0), (0, .ref ca), (1, .int st)]) hx hb dX1_keptOfActions_1 rfl hl (by decide) rfl (fun ls hl => ?_)
  refine lv_iconst (v := 0) hx hb dX1_keptOfActions_2 (by decide) ?_
  refine lv_istore_n (lv' := [(3, .int 0), (2, .int 0), (0, .ref ca), (1, .int st)]) hx hb dX1_keptOfActions_3 rfl hl (by decide) rfl (fun ls hl => ?_)
  refine lv_iload_n hx hb dX1_keptOfActions_4 rfl (lv_at hl 0 rfl) ?_
  refine lv_aload_n hx hb dX1_keptOfActions_5 rfl (lv_at hl 2 rfl) ?_
  refine va_get (D := sx_D G) (ci := 3) (v := .int 0) (C := RX1) (T := TX1) (N := 15) hx hb hts inX1 hown hK hP 0 rfl rfl 0 (by decide) (hts _ q176) (fun _ h9 => h9) rfl dX1_keptOfActions_6 ?_
  refine lv_icmp_ge (tgt := 49) hx hb dX1_keptOfActions_9 (by decide) (fun c_1 => ?_) (fun c_1 => absurd (by decide) c_1)
  refine lv_iload_n hx hb dX1_keptOfActions_49 rfl (lv_at hl 1 rfl) ?_
  exact (sx_iret (v := 0) () hx hb hr rfl hlk hP hD hS rfl dX1_keptOfActions_50 rfl rfl)
set_option maxHeartbeats 4000000 in
set_option maxRecDepth 100000 in
theorem m_X4_actionsTouchedBy (l : Launch) (G : sx_G) (sz : Nat) (pl : Nat) (a0 : Nat) (a1 : Nat) (a3 : Nat) (a4 : Nat) (a5 : Nat) (a6 : Nat) (a7 : Nat) (a8 : Nat) (a9 : Nat) (f : Int32) : sx_Met l yX4_actionsTouchedBy cX4_actionsTouchedBy 4 (some .int) 0 0 0 0 G [.ref pl, .int f] [(pl, .inr (6, [.ref a0, .ref a1, .int 0, .ref a3, .ref a4, .ref a5, .ref a6, .ref a7, .ref a8, .ref a9]))] sz (sx_Qi G (fun (r : Int32) (u : Unit) => r = 0) (fun (u : Unit) => [(pl, .inr (6, [.ref a0, .ref a1, .int 0, .ref a3, .ref a4, .ref a5, .ref a6, .ref a7, .ref a8, .ref a9]))])) := by
  refine sx_start (by decide) rfl (fun p e s m below meth c A ls F hr hlk hnm hP hD hS hl => ?_)
  obtain ⟨hx, hb, hml, hown, hts, hK, hE, hA⟩ := id F
  have hown : s.vm.findClass RX4 = some m.cls := hown
  generalize hHe : s.heap = H at hP
  have hS : va_S A s.heap H [] := by rw [← hHe]; exact va_S.rf
  have hl : lv_has ls 4 [(0, .ref pl), (1, .int f)] := hl
  refine lv_iconst (v := 0) hx hb dX4_actionsTouchedBy_0 (by decide) ?_
  refine lv_istore_n (lv' := [(2, .int 0), (0, .ref pl), (1, .int f)]) hx hb dX4_actionsTouchedBy_1 rfl hl (by decide) rfl (fun ls hl => ?_)
  refine lv_iconst (v := 0) hx hb dX4_actionsTouchedBy_2 (by decide) ?_
  refine lv_istore_n (lv' := [(3, .int 0), (2, .int 0), (0, .ref pl), (1, .int f)]) hx hb dX4_actionsTouchedBy_3 rfl hl (by decide) rfl (fun ls hl => ?_)
  refine lv_iload_n hx hb dX4_actionsTouchedBy_4 rfl (lv_at hl 0 rfl) ?_
  refine lv_aload_n hx hb dX4_actionsTouchedBy_5 rfl (lv_at hl 2 rfl) ?_
  refine va_get (D := sx_D G) (ci := 6) (v := .int 0) (C := RX4) (T := TX4) (N := 10) hx hb hts inX4 hown hK hP 0 rfl rfl 2 (by decide) (hts _ q59) (fun _ h9 => h9) rfl dX4_actionsTouchedBy_6 ?_
  refine lv_icmp_ge (tgt := 49) hx hb dX4_actionsTouchedBy_9 (by decide) (fun c_1 => ?_) (fun c_1 => absurd (by decide) c_1)
  refine lv_iload_n hx hb dX4_actionsTouchedBy_49 rfl (lv_at hl 1 rfl) ?_
  exact (sx_iret (v := 0) () hx hb hr rfl hlk hP hD hS rfl dX4_actionsTouchedBy_50 rfl rfl)
set_option maxHeartbeats 4000000 in
set_option maxRecDepth 100000 in
theorem m_X7_many (l : Launch) (hfl : l.stackTraces = false) (G : sx_G) (sz : Nat) (h : Nat) (b : Nat) (pl : Nat) (cr : Nat) (te : Nat) (ca : Nat) (a0 : Nat) (a1 : Nat) (a3 : Nat) (a4 : Nat) (a5 : Nat) (a6 : Nat) (a7 : Nat) (a8 : Nat) (a9 : Nat) (c1 : Nat) (c2 : Nat) (c3 : Nat) (c4 : Nat) (c5 : Nat) (t1 : Nat) (t2 : Nat) (t3 : Nat) (k2 : Nat) (k3 : Nat) (k4 : Nat) (k5 : Nat) (k6 : Nat) (k7 : Nat) (k8 : Nat) (k9 : Nat) (k10 : Nat) (k11 : Nat) (k12 : Nat) (k13 : Nat) (k14 : Nat) (p0 : Int32) : sx_MetX l yX7_many cX7_many 2 (some .int) 7 102 1 6 G [.ref h, .int p0] [(h, .inr (9, [.ref b, .ref pl, .ref cr, .ref te, .ref ca])), (pl, .inr (6, [.ref a0, .ref a1, .int 0, .ref a3, .ref a4, .ref a5, .ref a6, .ref a7, .ref a8, .ref a9])), (cr, .inr (4, [.int 0, .ref c1, .ref c2, .ref c3, .ref c4, .ref c5])), (te, .inr (8, [.int 0, .ref t1, .ref t2, .ref t3])), (ca, .inr (3, [.int 0, .int 0, .ref k2, .ref k3, .ref k4, .ref k5, .ref k6, .ref k7, .ref k8, .ref k9, .ref k10, .ref k11, .ref k12, .ref k13, .ref k14]))] sz (sx_Qi G (fun (r : Int32) (u : Unit) => r = 0 ∧ z1 (zw 0 9 p0) = 0) (fun (u : Unit) => [(h, .inr (9, [.ref b, .ref pl, .ref cr, .ref te, .ref ca])), (pl, .inr (6, [.ref a0, .ref a1, .int 0, .ref a3, .ref a4, .ref a5, .ref a6, .ref a7, .ref a8, .ref a9])), (cr, .inr (4, [.int 0, .ref c1, .ref c2, .ref c3, .ref c4, .ref c5])), (te, .inr (8, [.int 0, .ref t1, .ref t2, .ref t3])), (ca, .inr (3, [.int 0, .int 0, .ref k2, .ref k3, .ref k4, .ref k5, .ref k6, .ref k7, .ref k8, .ref k9, .ref k10, .ref k11, .ref k12, .ref k13, .ref k14]))])) (fun E => E = "java/lang/IllegalArgumentException" ∧ z1 (zw 0 9 p0) = 1) := by
  refine sx_startX (by decide) rfl (fun p e s m below meth c A ls F hr hlk hnm hex hP hD hS hl => ?_)
  obtain ⟨hx, hb, hml, hown, hts, hK, hE, hA⟩ := id F
  have hown : s.vm.findClass RX7 = some m.cls := hown
  generalize hHe : s.heap = H at hP
  have hS : va_S A s.heap H [] := by rw [← hHe]; exact va_S.rf
  have hl : lv_has ls 2 [(0, .ref h), (1, .int p0)] := hl
  refine lv_iload_n hx hb dX7_many_0 rfl (lv_at hl 1 rfl) ?_
  refine lv_iconst (v := 0) hx hb dX7_many_1 (by decide) ?_
  refine lv_bipush (v := 9) hx hb dX7_many_2 (by decide) ?_
  have hcut : sx_cut [(h, .inr (9, [.ref b, .ref pl, .ref cr, .ref te, .ref ca])), (pl, .inr (6, [.ref a0, .ref a1, .int 0, .ref a3, .ref a4, .ref a5, .ref a6, .ref a7, .ref a8, .ref a9])), (cr, .inr (4, [.int 0, .ref c1, .ref c2, .ref c3, .ref c4, .ref c5])), (te, .inr (8, [.int 0, .ref t1, .ref t2, .ref t3])), (ca, .inr (3, [.int 0, .int 0, .ref k2, .ref k3, .ref k4, .ref k5, .ref k6, .ref k7, .ref k8, .ref k9, .ref k10, .ref k11, .ref k12, .ref k13, .ref k14]))] [] [(h, .inr (9, [.ref b, .ref pl, .ref cr, .ref te, .ref ca])), (pl, .inr (6, [.ref a0, .ref a1, .int 0, .ref a3, .ref a4, .ref a5, .ref a6, .ref a7, .ref a8, .ref a9])), (cr, .inr (4, [.int 0, .ref c1, .ref c2, .ref c3, .ref c4, .ref c5])), (te, .inr (8, [.int 0, .ref t1, .ref t2, .ref t3])), (ca, .inr (3, [.int 0, .int 0, .ref k2, .ref k3, .ref k4, .ref k5, .ref k6, .ref k7, .ref k8, .ref k9, .ref k10, .ref k11, .ref k12, .ref k13, .ref k14]))] [] [0, 1, 2, 3, 4] := ⟨rfl, rfl, by decide, by decide, by decide⟩
  refine sx_ki (sx_runS (As := [.int p0, .int 0, .int 9]) (rest := []) F (m_X7_isWithin l G H.size p0 0 9) mi_X7_isWithin q368 q367 ⟨⟨Nat.le_of_ble_eq_true rfl, Nat.le_of_ble_eq_true rfl⟩, Nat.le_of_ble_eq_true rfl, Nat.le_of_ble_eq_true rfl⟩ hcut hP hD hS rfl hl.1 rfl (Nat.le_of_ble_eq_true rfl) dX7_many_4) hcut hP hD hS hA (fun r_3 u_1 H locs w_2 hP hD hS => ?_)
  have hP : va_P (sx_D G) vwCl [(h, .inr (9, [.ref b, .ref pl, .ref cr, .ref te, .ref ca])), (pl, .inr (6, [.ref a0, .ref a1, .int 0, .ref a3, .ref a4, .ref a5, .ref a6, .ref a7, .ref a8, .ref a9])), (cr, .inr (4, [.int 0, .ref c1, .ref c2, .ref c3, .ref c4, .ref c5])), (te, .inr (8, [.int 0, .ref t1, .ref t2, .ref t3])), (ca, .inr (3, [.int 0, .int 0, .ref k2, .ref k3, .ref k4, .ref k5, .ref k6, .ref k7, .ref k8, .ref k9, .ref k10, .ref k11, .ref k12, .ref k13, .ref k14]))] H := hP
  have hD : va_D A [(h, .inr (9, [.ref b, .ref pl, .ref cr, .ref te, .ref ca])), (pl, .inr (6, [.ref a0, .ref a1, .int 0, .ref a3, .ref a4, .ref a5, .ref a6, .ref a7, .ref a8, .ref a9])), (cr, .inr (4, [.int 0, .ref c1, .ref c2, .ref c3, .ref c4, .ref c5])), (te, .inr (8, [.int 0, .ref t1, .ref t2, .ref t3])), (ca, .inr (3, [.int 0, .int 0, .ref k2, .ref k3, .ref k4, .ref k5, .ref k6, .ref k7, .ref k8, .ref k9, .ref k10, .ref k11, .ref k12, .ref k13, .ref k14]))] := hD
  have w_2 : r_3 = zb (zw 0 9 p0) := w_2
  have hcut : sx_cut [(h, .inr (9, [.ref b, .ref pl, .ref cr, .ref te, .ref ca])), (pl, .inr (6, [.ref a0, .ref a1, .int 0, .ref a3, .ref a4, .ref a5, .ref a6, .ref a7, .ref a8, .ref a9])), (cr, .inr (4, [.int 0, .ref c1, .ref c2, .ref c3, .ref c4, .ref c5])), (te, .inr (8, [.int 0, .ref t1, .ref t2, .ref t3])), (ca, .inr (3, [.int 0, .int 0, .ref k2, .ref k3, .ref k4, .ref k5, .ref k6, .ref k7, .ref k8, .ref k9, .ref k10, .ref k11, .ref k12, .ref k13, .ref k14]))] [] [(h, .inr (9, [.ref b, .ref pl, .ref cr, .ref te, .ref ca])), (pl, .inr (6, [.ref a0, .ref a1, .int 0, .ref a3, .ref a4, .ref a5, .ref a6, .ref a7, .ref a8, .ref a9])), (cr, .inr (4, [.int 0, .ref c1, .ref c2, .ref c3, .ref c4, .ref c5])), (te, .inr (8, [.int 0, .ref t1, .ref t2, .ref t3])), (ca, .inr (3, [.int 0, .int 0, .ref k2, .ref k3, .ref k4, .ref k5, .ref k6, .ref k7, .ref k8, .ref k9, .ref k10, .ref k11, .ref k12, .ref k13, .ref k14]))] [] [0, 1, 2, 3, 4] := ⟨rfl, rfl, by decide, by decide, by decide⟩
  refine sx_xkv (sx_xrunS (As := [.int r_3]) (rest := []) F (m_X7_needArgument l hfl G H.size r_3) mi_X7_needArgument q371 q370 ⟨⟨Nat.le_of_ble_eq_true rfl, Nat.le_of_ble_eq_true rfl⟩, Nat.le_of_ble_eq_true rfl, Nat.le_of_ble_eq_true rfl⟩ hcut hP hD hS rfl hl.1 rfl (Nat.le_of_ble_eq_true rfl) dX7_many_7) hcut hP hD hS hA (fun E ce q9 H locs hw9 hP hD hS hce hcv hcl => ?_) (fun u_4 H locs w_5 hP hD hS => ?_)
  · have hP : va_P (sx_D G) vwCl [(h, .inr (9, [.ref b, .ref pl, .ref cr, .ref te, .ref ca])), (pl, .inr (6, [.ref a0, .ref a1, .int 0, .ref a3, .ref a4, .ref a5, .ref a6, .ref a7, .ref a8, .ref a9])), (cr, .inr (4, [.int 0, .ref c1, .ref c2, .ref c3, .ref c4, .ref c5])), (te, .inr (8, [.int 0, .ref t1, .ref t2, .ref t3])), (ca, .inr (3, [.int 0, .int 0, .ref k2, .ref k3, .ref k4, .ref k5, .ref k6, .ref k7, .ref k8, .ref k9, .ref k10, .ref k11, .ref k12, .ref k13, .ref k14]))] H := hP
    have hD : va_D A [(h, .inr (9, [.ref b, .ref pl, .ref cr, .ref te, .ref ca])), (pl, .inr (6, [.ref a0, .ref a1, .int 0, .ref a3, .ref a4, .ref a5, .ref a6, .ref a7, .ref a8, .ref a9])), (cr, .inr (4, [.int 0, .ref c1, .ref c2, .ref c3, .ref c4, .ref c5])), (te, .inr (8, [.int 0, .ref t1, .ref t2, .ref t3])), (ca, .inr (3, [.int 0, .int 0, .ref k2, .ref k3, .ref k4, .ref k5, .ref k6, .ref k7, .ref k8, .ref k9, .ref k10, .ref k11, .ref k12, .ref k13, .ref k14]))] := hD
    exact sx_out (rest := []) hex hlk hce hcv hcl ⟨hw9.1, z1_1 (zb_f w_2 hw9.2)⟩ hS rfl rfl
  · have hP : va_P (sx_D G) vwCl [(h, .inr (9, [.ref b, .ref pl, .ref cr, .ref te, .ref ca])), (pl, .inr (6, [.ref a0, .ref a1, .int 0, .ref a3, .ref a4, .ref a5, .ref a6, .ref a7, .ref a8, .ref a9])), (cr, .inr (4, [.int 0, .ref c1, .ref c2, .ref c3, .ref c4, .ref c5])), (te, .inr (8, [.int 0, .ref t1, .ref t2, .ref t3])), (ca, .inr (3, [.int 0, .int 0, .ref k2, .ref k3, .ref k4, .ref k5, .ref k6, .ref k7, .ref k8, .ref k9, .ref k10, .ref k11, .ref k12, .ref k13, .ref k14]))] H := hP
    have hD : va_D A [(h, .inr (9, [.ref b, .ref pl, .ref cr, .ref te, .ref ca])), (pl, .inr (6, [.ref a0, .ref a1, .int 0, .ref a3, .ref a4, .ref a5, .ref a6, .ref a7, .ref a8, .ref a9])), (cr, .inr (4, [.int 0, .ref c1, .ref c2, .ref c3, .ref c4, .ref c5])), (te, .inr (8, [.int 0, .ref t1, .ref t2, .ref t3])), (ca, .inr (3, [.int 0, .int 0, .ref k2, .ref k3, .ref k4, .ref k5, .ref k6, .ref k7, .ref k8, .ref k9, .ref k10, .ref k11, .ref k12, .ref k13, .ref k14]))] := hD
    refine lv_iload_n hx hb dX7_many_10 rfl (lv_at hl 1 rfl) ?_
    obtain ⟨j, hj, rfl⟩ := zw_nat (m := 9) (zb_t w_2 w_5) rfl (by decide)
    rcases (show j = 0 ∨ j = 1 ∨ j = 2 ∨ j = 3 ∨ j = 4 ∨ j = 5 ∨ j = 6 ∨ j = 7 ∨ j = 8 ∨ j = 9 by omega) with rfl | rfl | rfl | rfl | rfl | rfl | rfl | rfl | rfl | rfl
    · refine lv_tableIn (x := nI 0) (tgt := 60) (off := 49) hx hb dX7_many_11 (by decide) (by decide) (by decide) (by decide) ?_
      refine lv_aload_n hx hb dX7_many_60 rfl (lv_at hl 0 rfl) ?_
      refine va_get (D := sx_D G) (ci := 9) (v := .ref pl) (C := RX7) (T := TX7) (N := 5) hx hb hts inX7 hown hK hP 0 rfl rfl 1 (by decide) (hts _ q334) (fun _ h9 => h9) rfl dX7_many_61 ?_
      refine va_getN (D := sx_D G) (ci := 6) (v := .int 0) (C := RX4) (T := TX4) (N := 10) hx hb hts inX4 hown hK hP 1 rfl rfl 2 (by decide) (hts _ q60) (fun _ h9 => h9) rfl dX7_many_64 ?_
      exact vx_ret (sx_iret (v := 0) () hx hb hr rfl hlk hP hD hS ⟨rfl, z1_0 (zb_t w_2 w_5)⟩ dX7_many_67 rfl rfl)
    · refine lv_tableIn (x := nI 1) (tgt := 68) (off := 57) hx hb dX7_many_11 (by decide) (by decide) (by decide) (by decide) ?_
      refine lv_aload_n hx hb dX7_many_68 rfl (lv_at hl 0 rfl) ?_
      refine va_get (D := sx_D G) (ci := 9) (v := .ref cr) (C := RX7) (T := TX7) (N := 5) hx hb hts inX7 hown hK hP 0 rfl rfl 2 (by decide) (hts _ q335) (fun _ h9 => h9) rfl dX7_many_69 ?_
      refine va_getN (D := sx_D G) (ci := 4) (v := .int 0) (C := RX2) (T := TX2) (N := 6) hx hb hts inX2 hown hK hP 2 rfl rfl 0 (by decide) (hts _ q114) (fun _ h9 => h9) rfl dX7_many_72 ?_
      exact vx_ret (sx_iret (v := 0) () hx hb hr rfl hlk hP hD hS ⟨rfl, z1_0 (zb_t w_2 w_5)⟩ dX7_many_75 rfl rfl)
    · refine lv_tableIn (x := nI 2) (tgt := 76) (off := 65) hx hb dX7_many_11 (by decide) (by decide) (by decide) (by decide) ?_
      refine lv_aload_n hx hb dX7_many_76 rfl (lv_at hl 0 rfl) ?_
      refine va_get (D := sx_D G) (ci := 9) (v := .ref te) (C := RX7) (T := TX7) (N := 5) hx hb hts inX7 hown hK hP 0 rfl rfl 3 (by decide) (hts _ q336) (fun _ h9 => h9) rfl dX7_many_77 ?_
      refine va_getN (D := sx_D G) (ci := 8) (v := .int 0) (C := RX6) (T := TX6) (N := 4) hx hb hts inX6 hown hK hP 3 rfl rfl 0 (by decide) (hts _ q149) (fun _ h9 => h9) rfl dX7_many_80 ?_
      exact vx_ret (sx_iret (v := 0) () hx hb hr rfl hlk hP hD hS ⟨rfl, z1_0 (zb_t w_2 w_5)⟩ dX7_many_83 rfl rfl)
    · refine lv_tableIn (x := nI 3) (tgt := 84) (off := 73) hx hb dX7_many_11 (by decide) (by decide) (by decide) (by decide) ?_
      refine lv_aload_n hx hb dX7_many_84 rfl (lv_at hl 0 rfl) ?_
      refine va_get (D := sx_D G) (ci := 9) (v := .ref ca) (C := RX7) (T := TX7) (N := 5) hx hb hts inX7 hown hK hP 0 rfl rfl 4 (by decide) (hts _ q337) (fun _ h9 => h9) rfl dX7_many_85 ?_
      refine va_getN (D := sx_D G) (ci := 3) (v := .int 0) (C := RX1) (T := TX1) (N := 15) hx hb hts inX1 hown hK hP 4 rfl rfl 0 (by decide) (hts _ q178) (fun _ h9 => h9) rfl dX7_many_88 ?_
      exact vx_ret (sx_iret (v := 0) () hx hb hr rfl hlk hP hD hS ⟨rfl, z1_0 (zb_t w_2 w_5)⟩ dX7_many_91 rfl rfl)
    · refine lv_tableIn (x := nI 4) (tgt := 92) (off := 81) hx hb dX7_many_11 (by decide) (by decide) (by decide) (by decide) ?_
      refine lv_aload_n hx hb dX7_many_92 rfl (lv_at hl 0 rfl) ?_
      refine va_get (D := sx_D G) (ci := 9) (v := .ref ca) (C := RX7) (T := TX7) (N := 5) hx hb hts inX7 hown hK hP 0 rfl rfl 4 (by decide) (hts _ q337) (fun _ h9 => h9) rfl dX7_many_93 ?_
      refine lv_iconst (v := 0) hx hb dX7_many_96 (by decide) ?_
      have hcut : sx_cut [(h, .inr (9, [.ref b, .ref pl, .ref cr, .ref te, .ref ca])), (pl, .inr (6, [.ref a0, .ref a1, .int 0, .ref a3, .ref a4, .ref a5, .ref a6, .ref a7, .ref a8, .ref a9])), (cr, .inr (4, [.int 0, .ref c1, .ref c2, .ref c3, .ref c4, .ref c5])), (te, .inr (8, [.int 0, .ref t1, .ref t2, .ref t3])), (ca, .inr (3, [.int 0, .int 0, .ref k2, .ref k3, .ref k4, .ref k5, .ref k6, .ref k7, .ref k8, .ref k9, .ref k10, .ref k11, .ref k12, .ref k13, .ref k14]))] [(ca, .inr (3, [.int 0, .int 0, .ref k2, .ref k3, .ref k4, .ref k5, .ref k6, .ref k7, .ref k8, .ref k9, .ref k10, .ref k11, .ref k12, .ref k13, .ref k14]))] [(h, .inr (9, [.ref b, .ref pl, .ref cr, .ref te, .ref ca])), (pl, .inr (6, [.ref a0, .ref a1, .int 0, .ref a3, .ref a4, .ref a5, .ref a6, .ref a7, .ref a8, .ref a9])), (cr, .inr (4, [.int 0, .ref c1, .ref c2, .ref c3, .ref c4, .ref c5])), (te, .inr (8, [.int 0, .ref t1, .ref t2, .ref t3]))] [4] [0, 1, 2, 3] := ⟨rfl, rfl, by decide, by decide, by decide⟩
      refine sx_ki (sx_runV (As := [.int 0]) (rest := []) F (m_X1_inState l G H.size ca k2 k3 k4 k5 k6 k7 k8 k9 k10 k11 k12 k13 k14 0) mi_X1_inState q442 qs_X1_inState q441 ⟨⟨Nat.le_of_ble_eq_true rfl, Nat.le_of_ble_eq_true rfl⟩, Nat.le_of_ble_eq_true rfl, Nat.le_of_ble_eq_true rfl⟩ hcut hP hD hS 4 3 rfl rfl rfl hl.1 rfl (Nat.le_of_ble_eq_true rfl) dX7_many_97) hcut hP hD hS hA (fun r_9 u_7 H locs w_8 hP hD hS => ?_)
      have hP : va_P (sx_D G) vwCl [(h, .inr (9, [.ref b, .ref pl, .ref cr, .ref te, .ref ca])), (pl, .inr (6, [.ref a0, .ref a1, .int 0, .ref a3, .ref a4, .ref a5, .ref a6, .ref a7, .ref a8, .ref a9])), (cr, .inr (4, [.int 0, .ref c1, .ref c2, .ref c3, .ref c4, .ref c5])), (te, .inr (8, [.int 0, .ref t1, .ref t2, .ref t3])), (ca, .inr (3, [.int 0, .int 0, .ref k2, .ref k3, .ref k4, .ref k5, .ref k6, .ref k7, .ref k8, .ref k9, .ref k10, .ref k11, .ref k12, .ref k13, .ref k14]))] H := hP
      have hD : va_D A [(h, .inr (9, [.ref b, .ref pl, .ref cr, .ref te, .ref ca])), (pl, .inr (6, [.ref a0, .ref a1, .int 0, .ref a3, .ref a4, .ref a5, .ref a6, .ref a7, .ref a8, .ref a9])), (cr, .inr (4, [.int 0, .ref c1, .ref c2, .ref c3, .ref c4, .ref c5])), (te, .inr (8, [.int 0, .ref t1, .ref t2, .ref t3])), (ca, .inr (3, [.int 0, .int 0, .ref k2, .ref k3, .ref k4, .ref k5, .ref k6, .ref k7, .ref k8, .ref k9, .ref k10, .ref k11, .ref k12, .ref k13, .ref k14]))] := hD
      have er_9 : r_9 = 0 := w_8
      subst er_9
      exact vx_ret (sx_iret (v := 0) () hx hb hr rfl hlk hP hD hS ⟨rfl, z1_0 (zb_t w_2 w_5)⟩ dX7_many_100 rfl rfl)
    · refine lv_tableIn (x := nI 5) (tgt := 101) (off := 90) hx hb dX7_many_11 (by decide) (by decide) (by decide) (by decide) ?_
      refine lv_aload_n hx hb dX7_many_101 rfl (lv_at hl 0 rfl) ?_
      refine va_get (D := sx_D G) (ci := 9) (v := .ref ca) (C := RX7) (T := TX7) (N := 5) hx hb hts inX7 hown hK hP 0 rfl rfl 4 (by decide) (hts _ q337) (fun _ h9 => h9) rfl dX7_many_102 ?_
      refine lv_iconst (v := 1) hx hb dX7_many_105 (by decide) ?_
      have hcut : sx_cut [(h, .inr (9, [.ref b, .ref pl, .ref cr, .ref te, .ref ca])), (pl, .inr (6, [.ref a0, .ref a1, .int 0, .ref a3, .ref a4, .ref a5, .ref a6, .ref a7, .ref a8, .ref a9])), (cr, .inr (4, [.int 0, .ref c1, .ref c2, .ref c3, .ref c4, .ref c5])), (te, .inr (8, [.int 0, .ref t1, .ref t2, .ref t3])), (ca, .inr (3, [.int 0, .int 0, .ref k2, .ref k3, .ref k4, .ref k5, .ref k6, .ref k7, .ref k8, .ref k9, .ref k10, .ref k11, .ref k12, .ref k13, .ref k14]))] [(ca, .inr (3, [.int 0, .int 0, .ref k2, .ref k3, .ref k4, .ref k5, .ref k6, .ref k7, .ref k8, .ref k9, .ref k10, .ref k11, .ref k12, .ref k13, .ref k14]))] [(h, .inr (9, [.ref b, .ref pl, .ref cr, .ref te, .ref ca])), (pl, .inr (6, [.ref a0, .ref a1, .int 0, .ref a3, .ref a4, .ref a5, .ref a6, .ref a7, .ref a8, .ref a9])), (cr, .inr (4, [.int 0, .ref c1, .ref c2, .ref c3, .ref c4, .ref c5])), (te, .inr (8, [.int 0, .ref t1, .ref t2, .ref t3]))] [4] [0, 1, 2, 3] := ⟨rfl, rfl, by decide, by decide, by decide⟩
      refine sx_ki (sx_runV (As := [.int 1]) (rest := []) F (m_X1_inState l G H.size ca k2 k3 k4 k5 k6 k7 k8 k9 k10 k11 k12 k13 k14 1) mi_X1_inState q442 qs_X1_inState q441 ⟨⟨Nat.le_of_ble_eq_true rfl, Nat.le_of_ble_eq_true rfl⟩, Nat.le_of_ble_eq_true rfl, Nat.le_of_ble_eq_true rfl⟩ hcut hP hD hS 4 3 rfl rfl rfl hl.1 rfl (Nat.le_of_ble_eq_true rfl) dX7_many_106) hcut hP hD hS hA (fun r_12 u_10 H locs w_11 hP hD hS => ?_)
      have hP : va_P (sx_D G) vwCl [(h, .inr (9, [.ref b, .ref pl, .ref cr, .ref te, .ref ca])), (pl, .inr (6, [.ref a0, .ref a1, .int 0, .ref a3, .ref a4, .ref a5, .ref a6, .ref a7, .ref a8, .ref a9])), (cr, .inr (4, [.int 0, .ref c1, .ref c2, .ref c3, .ref c4, .ref c5])), (te, .inr (8, [.int 0, .ref t1, .ref t2, .ref t3])), (ca, .inr (3, [.int 0, .int 0, .ref k2, .ref k3, .ref k4, .ref k5, .ref k6, .ref k7, .ref k8, .ref k9, .ref k10, .ref k11, .ref k12, .ref k13, .ref k14]))] H := hP
      have hD : va_D A [(h, .inr (9, [.ref b, .ref pl, .ref cr, .ref te, .ref ca])), (pl, .inr (6, [.ref a0, .ref a1, .int 0, .ref a3, .ref a4, .ref a5, .ref a6, .ref a7, .ref a8, .ref a9])), (cr, .inr (4, [.int 0, .ref c1, .ref c2, .ref c3, .ref c4, .ref c5])), (te, .inr (8, [.int 0, .ref t1, .ref t2, .ref t3])), (ca, .inr (3, [.int 0, .int 0, .ref k2, .ref k3, .ref k4, .ref k5, .ref k6, .ref k7, .ref k8, .ref k9, .ref k10, .ref k11, .ref k12, .ref k13, .ref k14]))] := hD
      have er_12 : r_12 = 0 := w_11
      subst er_12
      exact vx_ret (sx_iret (v := 0) () hx hb hr rfl hlk hP hD hS ⟨rfl, z1_0 (zb_t w_2 w_5)⟩ dX7_many_109 rfl rfl)
    · refine lv_tableIn (x := nI 6) (tgt := 110) (off := 99) hx hb dX7_many_11 (by decide) (by decide) (by decide) (by decide) ?_
      refine lv_aload_n hx hb dX7_many_110 rfl (lv_at hl 0 rfl) ?_
      refine va_get (D := sx_D G) (ci := 9) (v := .ref ca) (C := RX7) (T := TX7) (N := 5) hx hb hts inX7 hown hK hP 0 rfl rfl 4 (by decide) (hts _ q337) (fun _ h9 => h9) rfl dX7_many_111 ?_
      refine lv_iconst (v := 2) hx hb dX7_many_114 (by decide) ?_
      have hcut : sx_cut [(h, .inr (9, [.ref b, .ref pl, .ref cr, .ref te, .ref ca])), (pl, .inr (6, [.ref a0, .ref a1, .int 0, .ref a3, .ref a4, .ref a5, .ref a6, .ref a7, .ref a8, .ref a9])), (cr, .inr (4, [.int 0, .ref c1, .ref c2, .ref c3, .ref c4, .ref c5])), (te, .inr (8, [.int 0, .ref t1, .ref t2, .ref t3])), (ca, .inr (3, [.int 0, .int 0, .ref k2, .ref k3, .ref k4, .ref k5, .ref k6, .ref k7, .ref k8, .ref k9, .ref k10, .ref k11, .ref k12, .ref k13, .ref k14]))] [(ca, .inr (3, [.int 0, .int 0, .ref k2, .ref k3, .ref k4, .ref k5, .ref k6, .ref k7, .ref k8, .ref k9, .ref k10, .ref k11, .ref k12, .ref k13, .ref k14]))] [(h, .inr (9, [.ref b, .ref pl, .ref cr, .ref te, .ref ca])), (pl, .inr (6, [.ref a0, .ref a1, .int 0, .ref a3, .ref a4, .ref a5, .ref a6, .ref a7, .ref a8, .ref a9])), (cr, .inr (4, [.int 0, .ref c1, .ref c2, .ref c3, .ref c4, .ref c5])), (te, .inr (8, [.int 0, .ref t1, .ref t2, .ref t3]))] [4] [0, 1, 2, 3] := ⟨rfl, rfl, by decide, by decide, by decide⟩
      refine sx_ki (sx_runV (As := [.int 2]) (rest := []) F (m_X1_inState l G H.size ca k2 k3 k4 k5 k6 k7 k8 k9 k10 k11 k12 k13 k14 2) mi_X1_inState q442 qs_X1_inState q441 ⟨⟨Nat.le_of_ble_eq_true rfl, Nat.le_of_ble_eq_true rfl⟩, Nat.le_of_ble_eq_true rfl, Nat.le_of_ble_eq_true rfl⟩ hcut hP hD hS 4 3 rfl rfl rfl hl.1 rfl (Nat.le_of_ble_eq_true rfl) dX7_many_115) hcut hP hD hS hA (fun r_15 u_13 H locs w_14 hP hD hS => ?_)
      have hP : va_P (sx_D G) vwCl [(h, .inr (9, [.ref b, .ref pl, .ref cr, .ref te, .ref ca])), (pl, .inr (6, [.ref a0, .ref a1, .int 0, .ref a3, .ref a4, .ref a5, .ref a6, .ref a7, .ref a8, .ref a9])), (cr, .inr (4, [.int 0, .ref c1, .ref c2, .ref c3, .ref c4, .ref c5])), (te, .inr (8, [.int 0, .ref t1, .ref t2, .ref t3])), (ca, .inr (3, [.int 0, .int 0, .ref k2, .ref k3, .ref k4, .ref k5, .ref k6, .ref k7, .ref k8, .ref k9, .ref k10, .ref k11, .ref k12, .ref k13, .ref k14]))] H := hP
      have hD : va_D A [(h, .inr (9, [.ref b, .ref pl, .ref cr, .ref te, .ref ca])), (pl, .inr (6, [.ref a0, .ref a1, .int 0, .ref a3, .ref a4, .ref a5, .ref a6, .ref a7, .ref a8, .ref a9])), (cr, .inr (4, [.int 0, .ref c1, .ref c2, .ref c3, .ref c4, .ref c5])), (te, .inr (8, [.int 0, .ref t1, .ref t2, .ref t3])), (ca, .inr (3, [.int 0, .int 0, .ref k2, .ref k3, .ref k4, .ref k5, .ref k6, .ref k7, .ref k8, .ref k9, .ref k10, .ref k11, .ref k12, .ref k13, .ref k14]))] := hD
      have er_15 : r_15 = 0 := w_14
      subst er_15
      exact vx_ret (sx_iret (v := 0) () hx hb hr rfl hlk hP hD hS ⟨rfl, z1_0 (zb_t w_2 w_5)⟩ dX7_many_118 rfl rfl)
    · refine lv_tableIn (x := nI 7) (tgt := 119) (off := 108) hx hb dX7_many_11 (by decide) (by decide) (by decide) (by decide) ?_
      refine lv_aload_n hx hb dX7_many_119 rfl (lv_at hl 0 rfl) ?_
      refine va_get (D := sx_D G) (ci := 9) (v := .ref ca) (C := RX7) (T := TX7) (N := 5) hx hb hts inX7 hown hK hP 0 rfl rfl 4 (by decide) (hts _ q337) (fun _ h9 => h9) rfl dX7_many_120 ?_
      have hcut : sx_cut [(h, .inr (9, [.ref b, .ref pl, .ref cr, .ref te, .ref ca])), (pl, .inr (6, [.ref a0, .ref a1, .int 0, .ref a3, .ref a4, .ref a5, .ref a6, .ref a7, .ref a8, .ref a9])), (cr, .inr (4, [.int 0, .ref c1, .ref c2, .ref c3, .ref c4, .ref c5])), (te, .inr (8, [.int 0, .ref t1, .ref t2, .ref t3])), (ca, .inr (3, [.int 0, .int 0, .ref k2, .ref k3, .ref k4, .ref k5, .ref k6, .ref k7, .ref k8, .ref k9, .ref k10, .ref k11, .ref k12, .ref k13, .ref k14]))] [(ca, .inr (3, [.int 0, .int 0, .ref k2, .ref k3, .ref k4, .ref k5, .ref k6, .ref k7, .ref k8, .ref k9, .ref k10, .ref k11, .ref k12, .ref k13, .ref k14]))] [(h, .inr (9, [.ref b, .ref pl, .ref cr, .ref te, .ref ca])), (pl, .inr (6, [.ref a0, .ref a1, .int 0, .ref a3, .ref a4, .ref a5, .ref a6, .ref a7, .ref a8, .ref a9])), (cr, .inr (4, [.int 0, .ref c1, .ref c2, .ref c3, .ref c4, .ref c5])), (te, .inr (8, [.int 0, .ref t1, .ref t2, .ref t3]))] [4] [0, 1, 2, 3] := ⟨rfl, rfl, by decide, by decide, by decide⟩
      refine sx_ki (sx_runV (As := []) (rest := []) F (m_X1_allHits l G H.size ca k2 k3 k4 k5 k6 k7 k8 k9 k10 k11 k12 k13 k14) mi_X1_allHits q354 qs_X1_allHits q353 ⟨⟨Nat.le_of_ble_eq_true rfl, Nat.le_of_ble_eq_true rfl⟩, Nat.le_of_ble_eq_true rfl, Nat.le_of_ble_eq_true rfl⟩ hcut hP hD hS 4 3 rfl rfl rfl hl.1 rfl (Nat.le_of_ble_eq_true rfl) dX7_many_123) hcut hP hD hS hA (fun r_18 u_16 H locs w_17 hP hD hS => ?_)
      have hP : va_P (sx_D G) vwCl [(h, .inr (9, [.ref b, .ref pl, .ref cr, .ref te, .ref ca])), (pl, .inr (6, [.ref a0, .ref a1, .int 0, .ref a3, .ref a4, .ref a5, .ref a6, .ref a7, .ref a8, .ref a9])), (cr, .inr (4, [.int 0, .ref c1, .ref c2, .ref c3, .ref c4, .ref c5])), (te, .inr (8, [.int 0, .ref t1, .ref t2, .ref t3])), (ca, .inr (3, [.int 0, .int 0, .ref k2, .ref k3, .ref k4, .ref k5, .ref k6, .ref k7, .ref k8, .ref k9, .ref k10, .ref k11, .ref k12, .ref k13, .ref k14]))] H := hP
      have hD : va_D A [(h, .inr (9, [.ref b, .ref pl, .ref cr, .ref te, .ref ca])), (pl, .inr (6, [.ref a0, .ref a1, .int 0, .ref a3, .ref a4, .ref a5, .ref a6, .ref a7, .ref a8, .ref a9])), (cr, .inr (4, [.int 0, .ref c1, .ref c2, .ref c3, .ref c4, .ref c5])), (te, .inr (8, [.int 0, .ref t1, .ref t2, .ref t3])), (ca, .inr (3, [.int 0, .int 0, .ref k2, .ref k3, .ref k4, .ref k5, .ref k6, .ref k7, .ref k8, .ref k9, .ref k10, .ref k11, .ref k12, .ref k13, .ref k14]))] := hD
      have er_18 : r_18 = 0 := w_17
      subst er_18
      exact vx_ret (sx_iret (v := 0) () hx hb hr rfl hlk hP hD hS ⟨rfl, z1_0 (zb_t w_2 w_5)⟩ dX7_many_126 rfl rfl)
    · refine lv_tableIn (x := nI 8) (tgt := 127) (off := 116) hx hb dX7_many_11 (by decide) (by decide) (by decide) (by decide) ?_
      refine lv_aload_n hx hb dX7_many_127 rfl (lv_at hl 0 rfl) ?_
      refine va_get (D := sx_D G) (ci := 9) (v := .ref cr) (C := RX7) (T := TX7) (N := 5) hx hb hts inX7 hown hK hP 0 rfl rfl 2 (by decide) (hts _ q335) (fun _ h9 => h9) rfl dX7_many_128 ?_
      have hcut : sx_cut [(h, .inr (9, [.ref b, .ref pl, .ref cr, .ref te, .ref ca])), (pl, .inr (6, [.ref a0, .ref a1, .int 0, .ref a3, .ref a4, .ref a5, .ref a6, .ref a7, .ref a8, .ref a9])), (cr, .inr (4, [.int 0, .ref c1, .ref c2, .ref c3, .ref c4, .ref c5])), (te, .inr (8, [.int 0, .ref t1, .ref t2, .ref t3])), (ca, .inr (3, [.int 0, .int 0, .ref k2, .ref k3, .ref k4, .ref k5, .ref k6, .ref k7, .ref k8, .ref k9, .ref k10, .ref k11, .ref k12, .ref k13, .ref k14]))] [(cr, .inr (4, [.int 0, .ref c1, .ref c2, .ref c3, .ref c4, .ref c5]))] [(h, .inr (9, [.ref b, .ref pl, .ref cr, .ref te, .ref ca])), (pl, .inr (6, [.ref a0, .ref a1, .int 0, .ref a3, .ref a4, .ref a5, .ref a6, .ref a7, .ref a8, .ref a9])), (te, .inr (8, [.int 0, .ref t1, .ref t2, .ref t3])), (ca, .inr (3, [.int 0, .int 0, .ref k2, .ref k3, .ref k4, .ref k5, .ref k6, .ref k7, .ref k8, .ref k9, .ref k10, .ref k11, .ref k12, .ref k13, .ref k14]))] [2] [0, 1, 3, 4] := ⟨rfl, rfl, by decide, by decide, by decide⟩
      refine sx_ki (sx_runV (As := []) (rest := []) F (m_X2_allRuns l G H.size cr c1 c2 c3 c4 c5) mi_X2_allRuns q446 qs_X2_allRuns q445 ⟨⟨Nat.le_of_ble_eq_true rfl, Nat.le_of_ble_eq_true rfl⟩, Nat.le_of_ble_eq_true rfl, Nat.le_of_ble_eq_true rfl⟩ hcut hP hD hS 2 4 rfl rfl rfl hl.1 rfl (Nat.le_of_ble_eq_true rfl) dX7_many_131) hcut hP hD hS hA (fun r_21 u_19 H locs w_20 hP hD hS => ?_)
      have hP : va_P (sx_D G) vwCl [(h, .inr (9, [.ref b, .ref pl, .ref cr, .ref te, .ref ca])), (pl, .inr (6, [.ref a0, .ref a1, .int 0, .ref a3, .ref a4, .ref a5, .ref a6, .ref a7, .ref a8, .ref a9])), (te, .inr (8, [.int 0, .ref t1, .ref t2, .ref t3])), (ca, .inr (3, [.int 0, .int 0, .ref k2, .ref k3, .ref k4, .ref k5, .ref k6, .ref k7, .ref k8, .ref k9, .ref k10, .ref k11, .ref k12, .ref k13, .ref k14])), (cr, .inr (4, [.int 0, .ref c1, .ref c2, .ref c3, .ref c4, .ref c5]))] H := hP
      have hD : va_D A [(h, .inr (9, [.ref b, .ref pl, .ref cr, .ref te, .ref ca])), (pl, .inr (6, [.ref a0, .ref a1, .int 0, .ref a3, .ref a4, .ref a5, .ref a6, .ref a7, .ref a8, .ref a9])), (te, .inr (8, [.int 0, .ref t1, .ref t2, .ref t3])), (ca, .inr (3, [.int 0, .int 0, .ref k2, .ref k3, .ref k4, .ref k5, .ref k6, .ref k7, .ref k8, .ref k9, .ref k10, .ref k11, .ref k12, .ref k13, .ref k14])), (cr, .inr (4, [.int 0, .ref c1, .ref c2, .ref c3, .ref c4, .ref c5]))] := hD
      have er_21 : r_21 = 0 := w_20
      subst er_21
      have hP := hP.sub (ws' := [(h, .inr (9, [.ref b, .ref pl, .ref cr, .ref te, .ref ca])), (pl, .inr (6, [.ref a0, .ref a1, .int 0, .ref a3, .ref a4, .ref a5, .ref a6, .ref a7, .ref a8, .ref a9])), (cr, .inr (4, [.int 0, .ref c1, .ref c2, .ref c3, .ref c4, .ref c5])), (te, .inr (8, [.int 0, .ref t1, .ref t2, .ref t3])), (ca, .inr (3, [.int 0, .int 0, .ref k2, .ref k3, .ref k4, .ref k5, .ref k6, .ref k7, .ref k8, .ref k9, .ref k10, .ref k11, .ref k12, .ref k13, .ref k14]))]) [0, 1, 4, 2, 3] rfl
      have hD := hD.sub (ws' := [(h, .inr (9, [.ref b, .ref pl, .ref cr, .ref te, .ref ca])), (pl, .inr (6, [.ref a0, .ref a1, .int 0, .ref a3, .ref a4, .ref a5, .ref a6, .ref a7, .ref a8, .ref a9])), (cr, .inr (4, [.int 0, .ref c1, .ref c2, .ref c3, .ref c4, .ref c5])), (te, .inr (8, [.int 0, .ref t1, .ref t2, .ref t3])), (ca, .inr (3, [.int 0, .int 0, .ref k2, .ref k3, .ref k4, .ref k5, .ref k6, .ref k7, .ref k8, .ref k9, .ref k10, .ref k11, .ref k12, .ref k13, .ref k14]))]) [0, 1, 4, 2, 3] (by decide) rfl
      exact vx_ret (sx_iret (v := 0) () hx hb hr rfl hlk hP hD hS ⟨rfl, z1_0 (zb_t w_2 w_5)⟩ dX7_many_134 rfl rfl)
    · refine lv_tableOut (x := nI 9) (tgt := 135) hx hb dX7_many_11 (Or.inr (by decide)) (by decide) ?_
      refine lv_aload_n hx hb dX7_many_135 rfl (lv_at hl 0 rfl) ?_
      refine va_get (D := sx_D G) (ci := 9) (v := .ref ca) (C := RX7) (T := TX7) (N := 5) hx hb hts inX7 hown hK hP 0 rfl rfl 4 (by decide) (hts _ q337) (fun _ h9 => h9) rfl dX7_many_136 ?_
      refine va_getN (D := sx_D G) (ci := 3) (v := .int 0) (C := RX1) (T := TX1) (N := 15) hx hb hts inX1 hown hK hP 4 rfl rfl 1 (by decide) (hts _ q181) (fun _ h9 => h9) rfl dX7_many_139 ?_
      exact vx_ret (sx_iret (v := 0) () hx hb hr rfl hlk hP hD hS ⟨rfl, z1_0 (zb_t w_2 w_5)⟩ dX7_many_142 rfl rfl)
set_option maxHeartbeats 4000000 in
set_option maxRecDepth 100000 in
theorem m_X7_hitShare (l : Launch) (G : sx_G) (sz : Nat) (h : Nat) (b : Nat) (pl : Nat) (cr : Nat) (te : Nat) (ca : Nat) (k2 : Nat) (k3 : Nat) (k4 : Nat) (k5 : Nat) (k6 : Nat) (k7 : Nat) (k8 : Nat) (k9 : Nat) (k10 : Nat) (k11 : Nat) (k12 : Nat) (k13 : Nat) (k14 : Nat) : sx_Met l yX7_hitShare cX7_hitShare 3 (some .double) 1 22 0 0 G [.ref h] [(h, .inr (9, [.ref b, .ref pl, .ref cr, .ref te, .ref ca])), (ca, .inr (3, [.int 0, .int 0, .ref k2, .ref k3, .ref k4, .ref k5, .ref k6, .ref k7, .ref k8, .ref k9, .ref k10, .ref k11, .ref k12, .ref k13, .ref k14]))] sz (sx_Qd G (fun (r : UInt64) (u : Unit) => r = 0) (fun (u : Unit) => [])) := by
  refine sx_start (by decide) rfl (fun p e s m below meth c A ls F hr hlk hnm hP hD hS hl => ?_)
  obtain ⟨hx, hb, hml, hown, hts, hK, hE, hA⟩ := id F
  have hown : s.vm.findClass RX7 = some m.cls := hown
  generalize hHe : s.heap = H at hP
  have hS : va_S A s.heap H [] := by rw [← hHe]; exact va_S.rf
  have hl : lv_has ls 3 [(0, .ref h)] := hl
  refine lv_aload_n hx hb dX7_hitShare_0 rfl (lv_at hl 0 rfl) ?_
  refine va_get (D := sx_D G) (ci := 9) (v := .ref ca) (C := RX7) (T := TX7) (N := 5) hx hb hts inX7 hown hK hP 0 rfl rfl 4 (by decide) (hts _ q337) (fun _ h9 => h9) rfl dX7_hitShare_1 ?_
  have hcut : sx_cut [(h, .inr (9, [.ref b, .ref pl, .ref cr, .ref te, .ref ca])), (ca, .inr (3, [.int 0, .int 0, .ref k2, .ref k3, .ref k4, .ref k5, .ref k6, .ref k7, .ref k8, .ref k9, .ref k10, .ref k11, .ref k12, .ref k13, .ref k14]))] [(ca, .inr (3, [.int 0, .int 0, .ref k2, .ref k3, .ref k4, .ref k5, .ref k6, .ref k7, .ref k8, .ref k9, .ref k10, .ref k11, .ref k12, .ref k13, .ref k14]))] [(h, .inr (9, [.ref b, .ref pl, .ref cr, .ref te, .ref ca]))] [1] [0] := ⟨rfl, rfl, by decide, by decide, by decide⟩
  refine sx_ki (sx_runV (As := []) (rest := []) F (m_X1_allHits l G H.size ca k2 k3 k4 k5 k6 k7 k8 k9 k10 k11 k12 k13 k14) mi_X1_allHits q354 qs_X1_allHits q353 ⟨⟨Nat.le_of_ble_eq_true rfl, Nat.le_of_ble_eq_true rfl⟩, Nat.le_of_ble_eq_true rfl, Nat.le_of_ble_eq_true rfl⟩ hcut hP hD hS 1 3 rfl rfl rfl hl.1 rfl (Nat.le_of_ble_eq_true rfl) dX7_hitShare_4) hcut hP hD hS hA (fun r_3 u_1 H locs w_2 hP hD hS => ?_)
  have hP : va_P (sx_D G) vwCl [(h, .inr (9, [.ref b, .ref pl, .ref cr, .ref te, .ref ca])), (ca, .inr (3, [.int 0, .int 0, .ref k2, .ref k3, .ref k4, .ref k5, .ref k6, .ref k7, .ref k8, .ref k9, .ref k10, .ref k11, .ref k12, .ref k13, .ref k14]))] H := hP
  have hD : va_D A [(h, .inr (9, [.ref b, .ref pl, .ref cr, .ref te, .ref ca])), (ca, .inr (3, [.int 0, .int 0, .ref k2, .ref k3, .ref k4, .ref k5, .ref k6, .ref k7, .ref k8, .ref k9, .ref k10, .ref k11, .ref k12, .ref k13, .ref k14]))] := hD
  have er_3 : r_3 = 0 := w_2
  subst er_3
  refine lv_istore_n (lv' := [(1, .int 0), (0, .ref h)]) hx hb dX7_hitShare_7 rfl hl (by decide) rfl (fun ls hl => ?_)
  refine lv_iload_n hx hb dX7_hitShare_8 rfl (lv_at hl 0 rfl) ?_
  refine lv_aload_n hx hb dX7_hitShare_9 rfl (lv_at hl 1 rfl) ?_
  refine va_get (D := sx_D G) (ci := 9) (v := .ref ca) (C := RX7) (T := TX7) (N := 5) hx hb hts inX7 hown hK hP 0 rfl rfl 4 (by decide) (hts _ q337) (fun _ h9 => h9) rfl dX7_hitShare_10 ?_
  refine va_getN (D := sx_D G) (ci := 3) (v := .int 0) (C := RX1) (T := TX1) (N := 15) hx hb hts inX1 hown hK hP 1 rfl rfl 0 (by decide) (hts _ q178) (fun _ h9 => h9) rfl dX7_hitShare_13 ?_
  refine lv_iadd hx hb dX7_hitShare_16 ?_
  refine lv_topi (fun x_4 ex_4 => ?_)
  have ex_4 : x_4 = (0 : Int32) := ex_4.trans (by decide)
  subst ex_4
  refine lv_istore_n (lv' := [(2, .int 0), (1, .int 0), (0, .ref h)]) hx hb dX7_hitShare_17 rfl hl (by decide) rfl (fun ls hl => ?_)
  refine lv_iload_n hx hb dX7_hitShare_18 rfl (lv_at hl 0 rfl) ?_
  refine lv_iconst (v := 1) hx hb dX7_hitShare_19 (by decide) ?_
  refine lv_icmp_ge (tgt := 27) hx hb dX7_hitShare_20 (by decide) (fun c_5 => absurd c_5 (by decide)) (fun c_5 => ?_)
  refine lv_dconst0 hx hb dX7_hitShare_23 ?_
  refine lv_goto (tgt := 32) hx hb dX7_hitShare_24 (by decide) ?_
  have hP := hP.sub (ws' := []) [] rfl
  have hD := hD.sub (ws' := []) [] (by decide) rfl
  exact (sx_dret (v := 0) () hx hb hr hlk hP hD hS rfl dX7_hitShare_32 rfl rfl)
set_option maxHeartbeats 4000000 in
set_option maxRecDepth 100000 in
theorem m_X7_touched (l : Launch) (hfl : l.stackTraces = false) (G : sx_G) (sz : Nat) (h : Nat) (b : Nat) (pl : Nat) (cr : Nat) (te : Nat) (ca : Nat) (a0 : Nat) (a1 : Nat) (a3 : Nat) (a4 : Nat) (a5 : Nat) (a6 : Nat) (a7 : Nat) (a8 : Nat) (a9 : Nat) (k2 : Nat) (k3 : Nat) (k4 : Nat) (k5 : Nat) (k6 : Nat) (k7 : Nat) (k8 : Nat) (k9 : Nat) (k10 : Nat) (k11 : Nat) (k12 : Nat) (k13 : Nat) (k14 : Nat) (p0 : Int32) : sx_MetX l yX7_touched cX7_touched 2 (some .int) 7 103 1 6 G [.ref h, .int p0] [(h, .inr (9, [.ref b, .ref pl, .ref cr, .ref te, .ref ca])), (pl, .inr (6, [.ref a0, .ref a1, .int 0, .ref a3, .ref a4, .ref a5, .ref a6, .ref a7, .ref a8, .ref a9])), (ca, .inr (3, [.int 0, .int 0, .ref k2, .ref k3, .ref k4, .ref k5, .ref k6, .ref k7, .ref k8, .ref k9, .ref k10, .ref k11, .ref k12, .ref k13, .ref k14]))] sz (sx_Qi G (fun (r : Int32) (u : Unit) => r = 0 ∧ z1 (zw 0 7 p0) = 0) (fun (u : Unit) => [(h, .inr (9, [.ref b, .ref pl, .ref cr, .ref te, .ref ca])), (pl, .inr (6, [.ref a0, .ref a1, .int 0, .ref a3, .ref a4, .ref a5, .ref a6, .ref a7, .ref a8, .ref a9])), (ca, .inr (3, [.int 0, .int 0, .ref k2, .ref k3, .ref k4, .ref k5, .ref k6, .ref k7, .ref k8, .ref k9, .ref k10, .ref k11, .ref k12, .ref k13, .ref k14]))])) (fun E => E = "java/lang/IndexOutOfBoundsException" ∧ z1 (zw 0 7 p0) = 1) := by
  refine sx_startX (by decide) rfl (fun p e s m below meth c A ls F hr hlk hnm hex hP hD hS hl => ?_)
  obtain ⟨hx, hb, hml, hown, hts, hK, hE, hA⟩ := id F
  have hown : s.vm.findClass RX7 = some m.cls := hown
  generalize hHe : s.heap = H at hP
  have hS : va_S A s.heap H [] := by rw [← hHe]; exact va_S.rf
  have hl : lv_has ls 2 [(0, .ref h), (1, .int p0)] := hl
  refine lv_iload_n hx hb dX7_touched_0 rfl (lv_at hl 1 rfl) ?_
  refine lv_bipush (v := 8) hx hb dX7_touched_1 (by decide) ?_
  have hcut : sx_cut [(h, .inr (9, [.ref b, .ref pl, .ref cr, .ref te, .ref ca])), (pl, .inr (6, [.ref a0, .ref a1, .int 0, .ref a3, .ref a4, .ref a5, .ref a6, .ref a7, .ref a8, .ref a9])), (ca, .inr (3, [.int 0, .int 0, .ref k2, .ref k3, .ref k4, .ref k5, .ref k6, .ref k7, .ref k8, .ref k9, .ref k10, .ref k11, .ref k12, .ref k13, .ref k14]))] [] [(h, .inr (9, [.ref b, .ref pl, .ref cr, .ref te, .ref ca])), (pl, .inr (6, [.ref a0, .ref a1, .int 0, .ref a3, .ref a4, .ref a5, .ref a6, .ref a7, .ref a8, .ref a9])), (ca, .inr (3, [.int 0, .int 0, .ref k2, .ref k3, .ref k4, .ref k5, .ref k6, .ref k7, .ref k8, .ref k9, .ref k10, .ref k11, .ref k12, .ref k13, .ref k14]))] [] [0, 1, 2] := ⟨rfl, rfl, by decide, by decide, by decide⟩
  refine sx_xkv (sx_xrunS (As := [.int p0, .int 8]) (rest := []) F (m_X7_needIndex l hfl G H.size p0 8) mi_X7_needIndex q454 q453 ⟨⟨Nat.le_of_ble_eq_true rfl, Nat.le_of_ble_eq_true rfl⟩, Nat.le_of_ble_eq_true rfl, Nat.le_of_ble_eq_true rfl⟩ hcut hP hD hS rfl hl.1 rfl (Nat.le_of_ble_eq_true rfl) dX7_touched_3) hcut hP hD hS hA (fun E ce q9 H locs hw9 hP hD hS hce hcv hcl => ?_) (fun u_1 H locs w_2 hP hD hS => ?_)
  · have hP : va_P (sx_D G) vwCl [(h, .inr (9, [.ref b, .ref pl, .ref cr, .ref te, .ref ca])), (pl, .inr (6, [.ref a0, .ref a1, .int 0, .ref a3, .ref a4, .ref a5, .ref a6, .ref a7, .ref a8, .ref a9])), (ca, .inr (3, [.int 0, .int 0, .ref k2, .ref k3, .ref k4, .ref k5, .ref k6, .ref k7, .ref k8, .ref k9, .ref k10, .ref k11, .ref k12, .ref k13, .ref k14]))] H := hP
    have hD : va_D A [(h, .inr (9, [.ref b, .ref pl, .ref cr, .ref te, .ref ca])), (pl, .inr (6, [.ref a0, .ref a1, .int 0, .ref a3, .ref a4, .ref a5, .ref a6, .ref a7, .ref a8, .ref a9])), (ca, .inr (3, [.int 0, .int 0, .ref k2, .ref k3, .ref k4, .ref k5, .ref k6, .ref k7, .ref k8, .ref k9, .ref k10, .ref k11, .ref k12, .ref k13, .ref k14]))] := hD
    exact sx_out (rest := []) hex hlk hce hcv hcl ⟨hw9.1, z1_1 (z87 hw9.2)⟩ hS rfl rfl
  · have hP : va_P (sx_D G) vwCl [(h, .inr (9, [.ref b, .ref pl, .ref cr, .ref te, .ref ca])), (pl, .inr (6, [.ref a0, .ref a1, .int 0, .ref a3, .ref a4, .ref a5, .ref a6, .ref a7, .ref a8, .ref a9])), (ca, .inr (3, [.int 0, .int 0, .ref k2, .ref k3, .ref k4, .ref k5, .ref k6, .ref k7, .ref k8, .ref k9, .ref k10, .ref k11, .ref k12, .ref k13, .ref k14]))] H := hP
    have hD : va_D A [(h, .inr (9, [.ref b, .ref pl, .ref cr, .ref te, .ref ca])), (pl, .inr (6, [.ref a0, .ref a1, .int 0, .ref a3, .ref a4, .ref a5, .ref a6, .ref a7, .ref a8, .ref a9])), (ca, .inr (3, [.int 0, .int 0, .ref k2, .ref k3, .ref k4, .ref k5, .ref k6, .ref k7, .ref k8, .ref k9, .ref k10, .ref k11, .ref k12, .ref k13, .ref k14]))] := hD
    refine lv_aload_n hx hb dX7_touched_6 rfl (lv_at hl 0 rfl) ?_
    refine va_get (D := sx_D G) (ci := 9) (v := .ref ca) (C := RX7) (T := TX7) (N := 5) hx hb hts inX7 hown hK hP 0 rfl rfl 4 (by decide) (hts _ q337) (fun _ h9 => h9) rfl dX7_touched_7 ?_
    refine lv_aload_n hx hb dX7_touched_10 rfl (lv_at hl 0 rfl) ?_
    refine va_get (D := sx_D G) (ci := 9) (v := .ref pl) (C := RX7) (T := TX7) (N := 5) hx hb hts inX7 hown hK hP 0 rfl rfl 1 (by decide) (hts _ q334) (fun _ h9 => h9) rfl dX7_touched_11 ?_
    refine lv_iload_n hx hb dX7_touched_14 rfl (lv_at hl 1 rfl) ?_
    have hcut : sx_cut [(h, .inr (9, [.ref b, .ref pl, .ref cr, .ref te, .ref ca])), (pl, .inr (6, [.ref a0, .ref a1, .int 0, .ref a3, .ref a4, .ref a5, .ref a6, .ref a7, .ref a8, .ref a9])), (ca, .inr (3, [.int 0, .int 0, .ref k2, .ref k3, .ref k4, .ref k5, .ref k6, .ref k7, .ref k8, .ref k9, .ref k10, .ref k11, .ref k12, .ref k13, .ref k14]))] [(pl, .inr (6, [.ref a0, .ref a1, .int 0, .ref a3, .ref a4, .ref a5, .ref a6, .ref a7, .ref a8, .ref a9]))] [(h, .inr (9, [.ref b, .ref pl, .ref cr, .ref te, .ref ca])), (ca, .inr (3, [.int 0, .int 0, .ref k2, .ref k3, .ref k4, .ref k5, .ref k6, .ref k7, .ref k8, .ref k9, .ref k10, .ref k11, .ref k12, .ref k13, .ref k14]))] [1] [0, 2] := ⟨rfl, rfl, by decide, by decide, by decide⟩
    refine sx_ki (sx_runV (As := [.int p0]) (rest := [.ref ca]) F (m_X4_actionsTouchedBy l G H.size pl a0 a1 a3 a4 a5 a6 a7 a8 a9 p0) mi_X4_actionsTouchedBy q656 qs_X4_actionsTouchedBy q655 ⟨⟨Nat.le_of_ble_eq_true rfl, Nat.le_of_ble_eq_true rfl⟩, Nat.le_of_ble_eq_true rfl, Nat.le_of_ble_eq_true rfl⟩ hcut hP hD hS 1 6 rfl rfl rfl hl.1 rfl (Nat.le_of_ble_eq_true rfl) dX7_touched_15) hcut hP hD hS hA (fun r_6 u_4 H locs w_5 hP hD hS => ?_)
    have hP : va_P (sx_D G) vwCl [(h, .inr (9, [.ref b, .ref pl, .ref cr, .ref te, .ref ca])), (ca, .inr (3, [.int 0, .int 0, .ref k2, .ref k3, .ref k4, .ref k5, .ref k6, .ref k7, .ref k8, .ref k9, .ref k10, .ref k11, .ref k12, .ref k13, .ref k14])), (pl, .inr (6, [.ref a0, .ref a1, .int 0, .ref a3, .ref a4, .ref a5, .ref a6, .ref a7, .ref a8, .ref a9]))] H := hP
    have hD : va_D A [(h, .inr (9, [.ref b, .ref pl, .ref cr, .ref te, .ref ca])), (ca, .inr (3, [.int 0, .int 0, .ref k2, .ref k3, .ref k4, .ref k5, .ref k6, .ref k7, .ref k8, .ref k9, .ref k10, .ref k11, .ref k12, .ref k13, .ref k14])), (pl, .inr (6, [.ref a0, .ref a1, .int 0, .ref a3, .ref a4, .ref a5, .ref a6, .ref a7, .ref a8, .ref a9]))] := hD
    have er_6 : r_6 = 0 := w_5
    subst er_6
    have hcut : sx_cut [(h, .inr (9, [.ref b, .ref pl, .ref cr, .ref te, .ref ca])), (ca, .inr (3, [.int 0, .int 0, .ref k2, .ref k3, .ref k4, .ref k5, .ref k6, .ref k7, .ref k8, .ref k9, .ref k10, .ref k11, .ref k12, .ref k13, .ref k14])), (pl, .inr (6, [.ref a0, .ref a1, .int 0, .ref a3, .ref a4, .ref a5, .ref a6, .ref a7, .ref a8, .ref a9]))] [(ca, .inr (3, [.int 0, .int 0, .ref k2, .ref k3, .ref k4, .ref k5, .ref k6, .ref k7, .ref k8, .ref k9, .ref k10, .ref k11, .ref k12, .ref k13, .ref k14]))] [(h, .inr (9, [.ref b, .ref pl, .ref cr, .ref te, .ref ca])), (pl, .inr (6, [.ref a0, .ref a1, .int 0, .ref a3, .ref a4, .ref a5, .ref a6, .ref a7, .ref a8, .ref a9]))] [1] [0, 2] := ⟨rfl, rfl, by decide, by decide, by decide⟩
    refine sx_ki (sx_runV (As := [.int 0]) (rest := []) F (m_X1_keptOfActions l G H.size ca k2 k3 k4 k5 k6 k7 k8 k9 k10 k11 k12 k13 k14 0) mi_X1_keptOfActions q490 qs_X1_keptOfActions q489 ⟨⟨Nat.le_of_ble_eq_true rfl, Nat.le_of_ble_eq_true rfl⟩, Nat.le_of_ble_eq_true rfl, Nat.le_of_ble_eq_true rfl⟩ hcut hP hD hS 1 3 rfl rfl rfl hl.1 rfl (Nat.le_of_ble_eq_true rfl) dX7_touched_18) hcut hP hD hS hA (fun r_9 u_7 H locs w_8 hP hD hS => ?_)
    have hP : va_P (sx_D G) vwCl [(h, .inr (9, [.ref b, .ref pl, .ref cr, .ref te, .ref ca])), (pl, .inr (6, [.ref a0, .ref a1, .int 0, .ref a3, .ref a4, .ref a5, .ref a6, .ref a7, .ref a8, .ref a9])), (ca, .inr (3, [.int 0, .int 0, .ref k2, .ref k3, .ref k4, .ref k5, .ref k6, .ref k7, .ref k8, .ref k9, .ref k10, .ref k11, .ref k12, .ref k13, .ref k14]))] H := hP
    have hD : va_D A [(h, .inr (9, [.ref b, .ref pl, .ref cr, .ref te, .ref ca])), (pl, .inr (6, [.ref a0, .ref a1, .int 0, .ref a3, .ref a4, .ref a5, .ref a6, .ref a7, .ref a8, .ref a9])), (ca, .inr (3, [.int 0, .int 0, .ref k2, .ref k3, .ref k4, .ref k5, .ref k6, .ref k7, .ref k8, .ref k9, .ref k10, .ref k11, .ref k12, .ref k13, .ref k14]))] := hD
    have er_9 : r_9 = 0 := w_8
    subst er_9
    exact vx_ret (sx_iret (v := 0) () hx hb hr rfl hlk hP hD hS ⟨rfl, z1_0 (z87 w_2)⟩ dX7_touched_21 rfl rfl)
set_option maxHeartbeats 4000000 in
set_option maxRecDepth 100000 in
theorem m_X7_digest (l : Launch) (hfl : l.stackTraces = false) (G : sx_G) (sz : Nat) (h : Nat) (b : Nat) (pl : Nat) (cr : Nat) (te : Nat) (ca : Nat) (a0 : Nat) (a1 : Nat) (a3 : Nat) (a4 : Nat) (a5 : Nat) (a6 : Nat) (a7 : Nat) (a8 : Nat) (a9 : Nat) (c1 : Nat) (c2 : Nat) (c3 : Nat) (c4 : Nat) (c5 : Nat) (t1 : Nat) (t2 : Nat) (t3 : Nat) (k2 : Nat) (k3 : Nat) (k4 : Nat) (k5 : Nat) (k6 : Nat) (k7 : Nat) (k8 : Nat) (k9 : Nat) (k10 : Nat) (k11 : Nat) (k12 : Nat) (k13 : Nat) (k14 : Nat) : sx_Met l yX7_digest cX7_digest 5 (some .long) 8 124 18 108 G [.ref h] [(h, .inr (9, [.ref b, .ref pl, .ref cr, .ref te, .ref ca])), (pl, .inr (6, [.ref a0, .ref a1, .int 0, .ref a3, .ref a4, .ref a5, .ref a6, .ref a7, .ref a8, .ref a9])), (cr, .inr (4, [.int 0, .ref c1, .ref c2, .ref c3, .ref c4, .ref c5])), (te, .inr (8, [.int 0, .ref t1, .ref t2, .ref t3])), (ca, .inr (3, [.int 0, .int 0, .ref k2, .ref k3, .ref k4, .ref k5, .ref k6, .ref k7, .ref k8, .ref k9, .ref k10, .ref k11, .ref k12, .ref k13, .ref k14]))] sz (sx_Ql G (fun (r : Int64) (u : Unit) => r = 8079412939421941683) (fun (u : Unit) => [])) := by
  refine sx_start (by decide) rfl (fun p e s m below meth c A ls F hr hlk hnm hP hD hS hl => ?_)
  obtain ⟨hx, hb, hml, hown, hts, hK, hE, hA⟩ := id F
  have hown : s.vm.findClass RX7 = some m.cls := hown
  generalize hHe : s.heap = H at hP
  have hS : va_S A s.heap H [] := by rw [← hHe]; exact va_S.rf
  have hl : lv_has ls 5 [(0, .ref h)] := hl
  refine lv_ldc2 (v := 5747) hx hb hown (hts _ q361) dX7_digest_0 ?_
  refine lv_lstore_n (lv' := [(1, .long 5747), (0, .ref h)]) hx hb dX7_digest_3 rfl hl (by decide) rfl (fun ls hl => ?_)
  refine lv_iconst (v := 0) hx hb dX7_digest_4 (by decide) ?_
  refine lv_istore_n (lv' := [(3, .int 0), (1, .long 5747), (0, .ref h)]) hx hb dX7_digest_5 rfl hl (by decide) rfl (fun ls hl => ?_)
  refine lv_iload_n hx hb dX7_digest_6 rfl (lv_at hl 0 rfl) ?_
  refine lv_bipush (v := 9) hx hb dX7_digest_7 (by decide) ?_
  refine lv_icmp_gt (tgt := 31) hx hb dX7_digest_9 (by decide) (fun c_1 => absurd c_1 (by decide)) (fun c_1 => ?_)
  refine lv_lload_n hx hb dX7_digest_12 rfl (lv_at hl 1 rfl) ?_
  refine lv_ldc2 (v := 31) hx hb hown (hts _ q362) dX7_digest_13 ?_
  refine lv_lmul hx hb dX7_digest_16 ?_
  refine lv_topl (fun x_2 ex_2 => ?_)
  have ex_2 : x_2 = (178157 : Int64) := ex_2.trans (by decide +kernel)
  subst ex_2
  refine lv_aload_n hx hb dX7_digest_17 rfl (lv_at hl 2 rfl) ?_
  refine lv_iload_n hx hb dX7_digest_18 rfl (lv_at hl 0 rfl) ?_
  have hcut : sx_cut [(h, .inr (9, [.ref b, .ref pl, .ref cr, .ref te, .ref ca])), (pl, .inr (6, [.ref a0, .ref a1, .int 0, .ref a3, .ref a4, .ref a5, .ref a6, .ref a7, .ref a8, .ref a9])), (cr, .inr (4, [.int 0, .ref c1, .ref c2, .ref c3, .ref c4, .ref c5])), (te, .inr (8, [.int 0, .ref t1, .ref t2, .ref t3])), (ca, .inr (3, [.int 0, .int 0, .ref k2, .ref k3, .ref k4, .ref k5, .ref k6, .ref k7, .ref k8, .ref k9, .ref k10, .ref k11, .ref k12, .ref k13, .ref k14]))] [(h, .inr (9, [.ref b, .ref pl, .ref cr, .ref te, .ref ca])), (pl, .inr (6, [.ref a0, .ref a1, .int 0, .ref a3, .ref a4, .ref a5, .ref a6, .ref a7, .ref a8, .ref a9])), (cr, .inr (4, [.int 0, .ref c1, .ref c2, .ref c3, .ref c4, .ref c5])), (te, .inr (8, [.int 0, .ref t1, .ref t2, .ref t3])), (ca, .inr (3, [.int 0, .int 0, .ref k2, .ref k3, .ref k4, .ref k5, .ref k6, .ref k7, .ref k8, .ref k9, .ref k10, .ref k11, .ref k12, .ref k13, .ref k14]))] [] [0, 1, 2, 3, 4] [] := ⟨rfl, rfl, by decide, by decide, by decide⟩
  refine sx_xki (sx_xrunV (As := [.int 0]) (rest := [.long 178157]) F (m_X7_many l hfl G H.size h b pl cr te ca a0 a1 a3 a4 a5 a6 a7 a8 a9 c1 c2 c3 c4 c5 t1 t2 t3 k2 k3 k4 k5 k6 k7 k8 k9 k10 k11 k12 k13 k14 0) mi_X7_many q364 qs_X7_many q363 ⟨⟨Nat.le_of_ble_eq_true rfl, Nat.le_of_ble_eq_true rfl⟩, Nat.le_of_ble_eq_true rfl, Nat.le_of_ble_eq_true rfl⟩ hcut hP hD hS 0 9 rfl rfl rfl hl.1 rfl (Nat.le_of_ble_eq_true rfl) dX7_digest_19) hcut hP hD hS hA (fun E ce q9 H locs hw9 hP hD hS hce hcv hcl => ?_) (fun r_5 u_3 H locs w_4 hP hD hS => ?_)
  · have hP : va_P (sx_D G) vwCl [] H := hP
    have hD : va_D A [] := hD
    exact absurd hw9.2 (by decide +kernel)
  · have hP : va_P (sx_D G) vwCl [(h, .inr (9, [.ref b, .ref pl, .ref cr, .ref te, .ref ca])), (pl, .inr (6, [.ref a0, .ref a1, .int 0, .ref a3, .ref a4, .ref a5, .ref a6, .ref a7, .ref a8, .ref a9])), (cr, .inr (4, [.int 0, .ref c1, .ref c2, .ref c3, .ref c4, .ref c5])), (te, .inr (8, [.int 0, .ref t1, .ref t2, .ref t3])), (ca, .inr (3, [.int 0, .int 0, .ref k2, .ref k3, .ref k4, .ref k5, .ref k6, .ref k7, .ref k8, .ref k9, .ref k10, .ref k11, .ref k12, .ref k13, .ref k14]))] H := hP
    have hD : va_D A [(h, .inr (9, [.ref b, .ref pl, .ref cr, .ref te, .ref ca])), (pl, .inr (6, [.ref a0, .ref a1, .int 0, .ref a3, .ref a4, .ref a5, .ref a6, .ref a7, .ref a8, .ref a9])), (cr, .inr (4, [.int 0, .ref c1, .ref c2, .ref c3, .ref c4, .ref c5])), (te, .inr (8, [.int 0, .ref t1, .ref t2, .ref t3])), (ca, .inr (3, [.int 0, .int 0, .ref k2, .ref k3, .ref k4, .ref k5, .ref k6, .ref k7, .ref k8, .ref k9, .ref k10, .ref k11, .ref k12, .ref k13, .ref k14]))] := hD
    have er_5 : r_5 = 0 := w_4.1
    subst er_5
    refine lv_i2l (v := 0) hx hb dX7_digest_22 (by decide) ?_
    refine lv_ladd hx hb dX7_digest_23 ?_
    refine lv_topl (fun x_6 ex_6 => ?_)
    have ex_6 : x_6 = (178157 : Int64) := ex_6.trans (by decide +kernel)
    subst ex_6
    refine lv_lstore_n (lv' := [(1, .long 178157), (3, .int 0), (0, .ref h)]) hx hb dX7_digest_24 rfl hl (by decide) rfl (fun ls hl => ?_)
    refine lv_iinc (v := 1) (lv' := [(3, .int 1), (1, .long 178157), (0, .ref h)]) hx hb dX7_digest_25 hl (k := 1) rfl (by decide) (by decide) rfl (fun ls hl => ?_)
    refine lv_goto (tgt := 6) hx hb dX7_digest_28 (by decide) ?_
    refine lv_iload_n hx hb dX7_digest_6 rfl (lv_at hl 0 rfl) ?_
    refine lv_bipush (v := 9) hx hb dX7_digest_7 (by decide) ?_
    refine lv_icmp_gt (tgt := 31) hx hb dX7_digest_9 (by decide) (fun c_7 => absurd c_7 (by decide)) (fun c_7 => ?_)
    refine lv_lload_n hx hb dX7_digest_12 rfl (lv_at hl 1 rfl) ?_
    refine lv_ldc2 (v := 31) hx hb hown (hts _ q362) dX7_digest_13 ?_
    refine lv_lmul hx hb dX7_digest_16 ?_
    refine lv_topl (fun x_8 ex_8 => ?_)
    have ex_8 : x_8 = (5522867 : Int64) := ex_8.trans (by decide +kernel)
    subst ex_8
    refine lv_aload_n hx hb dX7_digest_17 rfl (lv_at hl 2 rfl) ?_
    refine lv_iload_n hx hb dX7_digest_18 rfl (lv_at hl 0 rfl) ?_
    have hcut : sx_cut [(h, .inr (9, [.ref b, .ref pl, .ref cr, .ref te, .ref ca])), (pl, .inr (6, [.ref a0, .ref a1, .int 0, .ref a3, .ref a4, .ref a5, .ref a6, .ref a7, .ref a8, .ref a9])), (cr, .inr (4, [.int 0, .ref c1, .ref c2, .ref c3, .ref c4, .ref c5])), (te, .inr (8, [.int 0, .ref t1, .ref t2, .ref t3])), (ca, .inr (3, [.int 0, .int 0, .ref k2, .ref k3, .ref k4, .ref k5, .ref k6, .ref k7, .ref k8, .ref k9, .ref k10, .ref k11, .ref k12, .ref k13, .ref k14]))] [(h, .inr (9, [.ref b, .ref pl, .ref cr, .ref te, .ref ca])), (pl, .inr (6, [.ref a0, .ref a1, .int 0, .ref a3, .ref a4, .ref a5, .ref a6, .ref a7, .ref a8, .ref a9])), (cr, .inr (4, [.int 0, .ref c1, .ref c2, .ref c3, .ref c4, .ref c5])), (te, .inr (8, [.int 0, .ref t1, .ref t2, .ref t3])), (ca, .inr (3, [.int 0, .int 0, .ref k2, .ref k3, .ref k4, .ref k5, .ref k6, .ref k7, .ref k8, .ref k9, .ref k10, .ref k11, .ref k12, .ref k13, .ref k14]))] [] [0, 1, 2, 3, 4] [] := ⟨rfl, rfl, by decide, by decide, by decide⟩
    refine sx_xki (sx_xrunV (As := [.int 1]) (rest := [.long 5522867]) F (m_X7_many l hfl G H.size h b pl cr te ca a0 a1 a3 a4 a5 a6 a7 a8 a9 c1 c2 c3 c4 c5 t1 t2 t3 k2 k3 k4 k5 k6 k7 k8 k9 k10 k11 k12 k13 k14 1) mi_X7_many q364 qs_X7_many q363 ⟨⟨Nat.le_of_ble_eq_true rfl, Nat.le_of_ble_eq_true rfl⟩, Nat.le_of_ble_eq_true rfl, Nat.le_of_ble_eq_true rfl⟩ hcut hP hD hS 0 9 rfl rfl rfl hl.1 rfl (Nat.le_of_ble_eq_true rfl) dX7_digest_19) hcut hP hD hS hA (fun E ce q9 H locs hw9 hP hD hS hce hcv hcl => ?_) (fun r_11 u_9 H locs w_10 hP hD hS => ?_)
    · have hP : va_P (sx_D G) vwCl [] H := hP
      have hD : va_D A [] := hD
      exact absurd hw9.2 (by decide +kernel)
    · have hP : va_P (sx_D G) vwCl [(h, .inr (9, [.ref b, .ref pl, .ref cr, .ref te, .ref ca])), (pl, .inr (6, [.ref a0, .ref a1, .int 0, .ref a3, .ref a4, .ref a5, .ref a6, .ref a7, .ref a8, .ref a9])), (cr, .inr (4, [.int 0, .ref c1, .ref c2, .ref c3, .ref c4, .ref c5])), (te, .inr (8, [.int 0, .ref t1, .ref t2, .ref t3])), (ca, .inr (3, [.int 0, .int 0, .ref k2, .ref k3, .ref k4, .ref k5, .ref k6, .ref k7, .ref k8, .ref k9, .ref k10, .ref k11, .ref k12, .ref k13, .ref k14]))] H := hP
      have hD : va_D A [(h, .inr (9, [.ref b, .ref pl, .ref cr, .ref te, .ref ca])), (pl, .inr (6, [.ref a0, .ref a1, .int 0, .ref a3, .ref a4, .ref a5, .ref a6, .ref a7, .ref a8, .ref a9])), (cr, .inr (4, [.int 0, .ref c1, .ref c2, .ref c3, .ref c4, .ref c5])), (te, .inr (8, [.int 0, .ref t1, .ref t2, .ref t3])), (ca, .inr (3, [.int 0, .int 0, .ref k2, .ref k3, .ref k4, .ref k5, .ref k6, .ref k7, .ref k8, .ref k9, .ref k10, .ref k11, .ref k12, .ref k13, .ref k14]))] := hD
      have er_11 : r_11 = 0 := w_10.1
      subst er_11
      refine lv_i2l (v := 0) hx hb dX7_digest_22 (by decide) ?_
      refine lv_ladd hx hb dX7_digest_23 ?_
      refine lv_topl (fun x_12 ex_12 => ?_)
      have ex_12 : x_12 = (5522867 : Int64) := ex_12.trans (by decide +kernel)
      subst ex_12
      refine lv_lstore_n (lv' := [(1, .long 5522867), (3, .int 1), (0, .ref h)]) hx hb dX7_digest_24 rfl hl (by decide) rfl (fun ls hl => ?_)
      refine lv_iinc (v := 2) (lv' := [(3, .int 2), (1, .long 5522867), (0, .ref h)]) hx hb dX7_digest_25 hl (k := 1) rfl (by decide) (by decide) rfl (fun ls hl => ?_)
      refine lv_goto (tgt := 6) hx hb dX7_digest_28 (by decide) ?_
      refine lv_iload_n hx hb dX7_digest_6 rfl (lv_at hl 0 rfl) ?_
      refine lv_bipush (v := 9) hx hb dX7_digest_7 (by decide) ?_
      refine lv_icmp_gt (tgt := 31) hx hb dX7_digest_9 (by decide) (fun c_13 => absurd c_13 (by decide)) (fun c_13 => ?_)
      refine lv_lload_n hx hb dX7_digest_12 rfl (lv_at hl 1 rfl) ?_
      refine lv_ldc2 (v := 31) hx hb hown (hts _ q362) dX7_digest_13 ?_
      refine lv_lmul hx hb dX7_digest_16 ?_
      refine lv_topl (fun x_14 ex_14 => ?_)
      have ex_14 : x_14 = (171208877 : Int64) := ex_14.trans (by decide +kernel)
      subst ex_14
      refine lv_aload_n hx hb dX7_digest_17 rfl (lv_at hl 2 rfl) ?_
      refine lv_iload_n hx hb dX7_digest_18 rfl (lv_at hl 0 rfl) ?_
      have hcut : sx_cut [(h, .inr (9, [.ref b, .ref pl, .ref cr, .ref te, .ref ca])), (pl, .inr (6, [.ref a0, .ref a1, .int 0, .ref a3, .ref a4, .ref a5, .ref a6, .ref a7, .ref a8, .ref a9])), (cr, .inr (4, [.int 0, .ref c1, .ref c2, .ref c3, .ref c4, .ref c5])), (te, .inr (8, [.int 0, .ref t1, .ref t2, .ref t3])), (ca, .inr (3, [.int 0, .int 0, .ref k2, .ref k3, .ref k4, .ref k5, .ref k6, .ref k7, .ref k8, .ref k9, .ref k10, .ref k11, .ref k12, .ref k13, .ref k14]))] [(h, .inr (9, [.ref b, .ref pl, .ref cr, .ref te, .ref ca])), (pl, .inr (6, [.ref a0, .ref a1, .int 0, .ref a3, .ref a4, .ref a5, .ref a6, .ref a7, .ref a8, .ref a9])), (cr, .inr (4, [.int 0, .ref c1, .ref c2, .ref c3, .ref c4, .ref c5])), (te, .inr (8, [.int 0, .ref t1, .ref t2, .ref t3])), (ca, .inr (3, [.int 0, .int 0, .ref k2, .ref k3, .ref k4, .ref k5, .ref k6, .ref k7, .ref k8, .ref k9, .ref k10, .ref k11, .ref k12, .ref k13, .ref k14]))] [] [0, 1, 2, 3, 4] [] := ⟨rfl, rfl, by decide, by decide, by decide⟩
      refine sx_xki (sx_xrunV (As := [.int 2]) (rest := [.long 171208877]) F (m_X7_many l hfl G H.size h b pl cr te ca a0 a1 a3 a4 a5 a6 a7 a8 a9 c1 c2 c3 c4 c5 t1 t2 t3 k2 k3 k4 k5 k6 k7 k8 k9 k10 k11 k12 k13 k14 2) mi_X7_many q364 qs_X7_many q363 ⟨⟨Nat.le_of_ble_eq_true rfl, Nat.le_of_ble_eq_true rfl⟩, Nat.le_of_ble_eq_true rfl, Nat.le_of_ble_eq_true rfl⟩ hcut hP hD hS 0 9 rfl rfl rfl hl.1 rfl (Nat.le_of_ble_eq_true rfl) dX7_digest_19) hcut hP hD hS hA (fun E ce q9 H locs hw9 hP hD hS hce hcv hcl => ?_) (fun r_17 u_15 H locs w_16 hP hD hS => ?_)
      · have hP : va_P (sx_D G) vwCl [] H := hP
        have hD : va_D A [] := hD
        exact absurd hw9.2 (by decide +kernel)
      · have hP : va_P (sx_D G) vwCl [(h, .inr (9, [.ref b, .ref pl, .ref cr, .ref te, .ref ca])), (pl, .inr (6, [.ref a0, .ref a1, .int 0, .ref a3, .ref a4, .ref a5, .ref a6, .ref a7, .ref a8, .ref a9])), (cr, .inr (4, [.int 0, .ref c1, .ref c2, .ref c3, .ref c4, .ref c5])), (te, .inr (8, [.int 0, .ref t1, .ref t2, .ref t3])), (ca, .inr (3, [.int 0, .int 0, .ref k2, .ref k3, .ref k4, .ref k5, .ref k6, .ref k7, .ref k8, .ref k9, .ref k10, .ref k11, .ref k12, .ref k13, .ref k14]))] H := hP
        have hD : va_D A [(h, .inr (9, [.ref b, .ref pl, .ref cr, .ref te, .ref ca])), (pl, .inr (6, [.ref a0, .ref a1, .int 0, .ref a3, .ref a4, .ref a5, .ref a6, .ref a7, .ref a8, .ref a9])), (cr, .inr (4, [.int 0, .ref c1, .ref c2, .ref c3, .ref c4, .ref c5])), (te, .inr (8, [.int 0, .ref t1, .ref t2, .ref t3])), (ca, .inr (3, [.int 0, .int 0, .ref k2, .ref k3, .ref k4, .ref k5, .ref k6, .ref k7, .ref k8, .ref k9, .ref k10, .ref k11, .ref k12, .ref k13, .ref k14]))] := hD
        have er_17 : r_17 = 0 := w_16.1
        subst er_17
        refine lv_i2l (v := 0) hx hb dX7_digest_22 (by decide) ?_
        refine lv_ladd hx hb dX7_digest_23 ?_
        refine lv_topl (fun x_18 ex_18 => ?_)
        have ex_18 : x_18 = (171208877 : Int64) := ex_18.trans (by decide +kernel)
        subst ex_18
        refine lv_lstore_n (lv' := [(1, .long 171208877), (3, .int 2), (0, .ref h)]) hx hb dX7_digest_24 rfl hl (by decide) rfl (fun ls hl => ?_)
        refine lv_iinc (v := 3) (lv' := [(3, .int 3), (1, .long 171208877), (0, .ref h)]) hx hb dX7_digest_25 hl (k := 1) rfl (by decide) (by decide) rfl (fun ls hl => ?_)
        refine lv_goto (tgt := 6) hx hb dX7_digest_28 (by decide) ?_
        refine lv_iload_n hx hb dX7_digest_6 rfl (lv_at hl 0 rfl) ?_
        refine lv_bipush (v := 9) hx hb dX7_digest_7 (by decide) ?_
        refine lv_icmp_gt (tgt := 31) hx hb dX7_digest_9 (by decide) (fun c_19 => absurd c_19 (by decide)) (fun c_19 => ?_)
        refine lv_lload_n hx hb dX7_digest_12 rfl (lv_at hl 1 rfl) ?_
        refine lv_ldc2 (v := 31) hx hb hown (hts _ q362) dX7_digest_13 ?_
        refine lv_lmul hx hb dX7_digest_16 ?_
        refine lv_topl (fun x_20 ex_20 => ?_)
        have ex_20 : x_20 = (5307475187 : Int64) := ex_20.trans (by decide +kernel)
        subst ex_20
        refine lv_aload_n hx hb dX7_digest_17 rfl (lv_at hl 2 rfl) ?_
        refine lv_iload_n hx hb dX7_digest_18 rfl (lv_at hl 0 rfl) ?_
        have hcut : sx_cut [(h, .inr (9, [.ref b, .ref pl, .ref cr, .ref te, .ref ca])), (pl, .inr (6, [.ref a0, .ref a1, .int 0, .ref a3, .ref a4, .ref a5, .ref a6, .ref a7, .ref a8, .ref a9])), (cr, .inr (4, [.int 0, .ref c1, .ref c2, .ref c3, .ref c4, .ref c5])), (te, .inr (8, [.int 0, .ref t1, .ref t2, .ref t3])), (ca, .inr (3, [.int 0, .int 0, .ref k2, .ref k3, .ref k4, .ref k5, .ref k6, .ref k7, .ref k8, .ref k9, .ref k10, .ref k11, .ref k12, .ref k13, .ref k14]))] [(h, .inr (9, [.ref b, .ref pl, .ref cr, .ref te, .ref ca])), (pl, .inr (6, [.ref a0, .ref a1, .int 0, .ref a3, .ref a4, .ref a5, .ref a6, .ref a7, .ref a8, .ref a9])), (cr, .inr (4, [.int 0, .ref c1, .ref c2, .ref c3, .ref c4, .ref c5])), (te, .inr (8, [.int 0, .ref t1, .ref t2, .ref t3])), (ca, .inr (3, [.int 0, .int 0, .ref k2, .ref k3, .ref k4, .ref k5, .ref k6, .ref k7, .ref k8, .ref k9, .ref k10, .ref k11, .ref k12, .ref k13, .ref k14]))] [] [0, 1, 2, 3, 4] [] := ⟨rfl, rfl, by decide, by decide, by decide⟩
        refine sx_xki (sx_xrunV (As := [.int 3]) (rest := [.long 5307475187]) F (m_X7_many l hfl G H.size h b pl cr te ca a0 a1 a3 a4 a5 a6 a7 a8 a9 c1 c2 c3 c4 c5 t1 t2 t3 k2 k3 k4 k5 k6 k7 k8 k9 k10 k11 k12 k13 k14 3) mi_X7_many q364 qs_X7_many q363 ⟨⟨Nat.le_of_ble_eq_true rfl, Nat.le_of_ble_eq_true rfl⟩, Nat.le_of_ble_eq_true rfl, Nat.le_of_ble_eq_true rfl⟩ hcut hP hD hS 0 9 rfl rfl rfl hl.1 rfl (Nat.le_of_ble_eq_true rfl) dX7_digest_19) hcut hP hD hS hA (fun E ce q9 H locs hw9 hP hD hS hce hcv hcl => ?_) (fun r_23 u_21 H locs w_22 hP hD hS => ?_)
        · have hP : va_P (sx_D G) vwCl [] H := hP
          have hD : va_D A [] := hD
          exact absurd hw9.2 (by decide +kernel)
        · have hP : va_P (sx_D G) vwCl [(h, .inr (9, [.ref b, .ref pl, .ref cr, .ref te, .ref ca])), (pl, .inr (6, [.ref a0, .ref a1, .int 0, .ref a3, .ref a4, .ref a5, .ref a6, .ref a7, .ref a8, .ref a9])), (cr, .inr (4, [.int 0, .ref c1, .ref c2, .ref c3, .ref c4, .ref c5])), (te, .inr (8, [.int 0, .ref t1, .ref t2, .ref t3])), (ca, .inr (3, [.int 0, .int 0, .ref k2, .ref k3, .ref k4, .ref k5, .ref k6, .ref k7, .ref k8, .ref k9, .ref k10, .ref k11, .ref k12, .ref k13, .ref k14]))] H := hP
          have hD : va_D A [(h, .inr (9, [.ref b, .ref pl, .ref cr, .ref te, .ref ca])), (pl, .inr (6, [.ref a0, .ref a1, .int 0, .ref a3, .ref a4, .ref a5, .ref a6, .ref a7, .ref a8, .ref a9])), (cr, .inr (4, [.int 0, .ref c1, .ref c2, .ref c3, .ref c4, .ref c5])), (te, .inr (8, [.int 0, .ref t1, .ref t2, .ref t3])), (ca, .inr (3, [.int 0, .int 0, .ref k2, .ref k3, .ref k4, .ref k5, .ref k6, .ref k7, .ref k8, .ref k9, .ref k10, .ref k11, .ref k12, .ref k13, .ref k14]))] := hD
          have er_23 : r_23 = 0 := w_22.1
          subst er_23
          refine lv_i2l (v := 0) hx hb dX7_digest_22 (by decide) ?_
          refine lv_ladd hx hb dX7_digest_23 ?_
          refine lv_topl (fun x_24 ex_24 => ?_)
          have ex_24 : x_24 = (5307475187 : Int64) := ex_24.trans (by decide +kernel)
          subst ex_24
          refine lv_lstore_n (lv' := [(1, .long 5307475187), (3, .int 3), (0, .ref h)]) hx hb dX7_digest_24 rfl hl (by decide) rfl (fun ls hl => ?_)
          refine lv_iinc (v := 4) (lv' := [(3, .int 4), (1, .long 5307475187), (0, .ref h)]) hx hb dX7_digest_25 hl (k := 1) rfl (by decide) (by decide) rfl (fun ls hl => ?_)
          refine lv_goto (tgt := 6) hx hb dX7_digest_28 (by decide) ?_
          refine lv_iload_n hx hb dX7_digest_6 rfl (lv_at hl 0 rfl) ?_
          refine lv_bipush (v := 9) hx hb dX7_digest_7 (by decide) ?_
          refine lv_icmp_gt (tgt := 31) hx hb dX7_digest_9 (by decide) (fun c_25 => absurd c_25 (by decide)) (fun c_25 => ?_)
          refine lv_lload_n hx hb dX7_digest_12 rfl (lv_at hl 1 rfl) ?_
          refine lv_ldc2 (v := 31) hx hb hown (hts _ q362) dX7_digest_13 ?_
          refine lv_lmul hx hb dX7_digest_16 ?_
          refine lv_topl (fun x_26 ex_26 => ?_)
          have ex_26 : x_26 = (164531730797 : Int64) := ex_26.trans (by decide +kernel)
          subst ex_26
          refine lv_aload_n hx hb dX7_digest_17 rfl (lv_at hl 2 rfl) ?_
          refine lv_iload_n hx hb dX7_digest_18 rfl (lv_at hl 0 rfl) ?_
          have hcut : sx_cut [(h, .inr (9, [.ref b, .ref pl, .ref cr, .ref te, .ref ca])), (pl, .inr (6, [.ref a0, .ref a1, .int 0, .ref a3, .ref a4, .ref a5, .ref a6, .ref a7, .ref a8, .ref a9])), (cr, .inr (4, [.int 0, .ref c1, .ref c2, .ref c3, .ref c4, .ref c5])), (te, .inr (8, [.int 0, .ref t1, .ref t2, .ref t3])), (ca, .inr (3, [.int 0, .int 0, .ref k2, .ref k3, .ref k4, .ref k5, .ref k6, .ref k7, .ref k8, .ref k9, .ref k10, .ref k11, .ref k12, .ref k13, .ref k14]))] [(h, .inr (9, [.ref b, .ref pl, .ref cr, .ref te, .ref ca])), (pl, .inr (6, [.ref a0, .ref a1, .int 0, .ref a3, .ref a4, .ref a5, .ref a6, .ref a7, .ref a8, .ref a9])), (cr, .inr (4, [.int 0, .ref c1, .ref c2, .ref c3, .ref c4, .ref c5])), (te, .inr (8, [.int 0, .ref t1, .ref t2, .ref t3])), (ca, .inr (3, [.int 0, .int 0, .ref k2, .ref k3, .ref k4, .ref k5, .ref k6, .ref k7, .ref k8, .ref k9, .ref k10, .ref k11, .ref k12, .ref k13, .ref k14]))] [] [0, 1, 2, 3, 4] [] := ⟨rfl, rfl, by decide, by decide, by decide⟩
          refine sx_xki (sx_xrunV (As := [.int 4]) (rest := [.long 164531730797]) F (m_X7_many l hfl G H.size h b pl cr te ca a0 a1 a3 a4 a5 a6 a7 a8 a9 c1 c2 c3 c4 c5 t1 t2 t3 k2 k3 k4 k5 k6 k7 k8 k9 k10 k11 k12 k13 k14 4) mi_X7_many q364 qs_X7_many q363 ⟨⟨Nat.le_of_ble_eq_true rfl, Nat.le_of_ble_eq_true rfl⟩, Nat.le_of_ble_eq_true rfl, Nat.le_of_ble_eq_true rfl⟩ hcut hP hD hS 0 9 rfl rfl rfl hl.1 rfl (Nat.le_of_ble_eq_true rfl) dX7_digest_19) hcut hP hD hS hA (fun E ce q9 H locs hw9 hP hD hS hce hcv hcl => ?_) (fun r_29 u_27 H locs w_28 hP hD hS => ?_)
          · have hP : va_P (sx_D G) vwCl [] H := hP
            have hD : va_D A [] := hD
            exact absurd hw9.2 (by decide +kernel)
          · have hP : va_P (sx_D G) vwCl [(h, .inr (9, [.ref b, .ref pl, .ref cr, .ref te, .ref ca])), (pl, .inr (6, [.ref a0, .ref a1, .int 0, .ref a3, .ref a4, .ref a5, .ref a6, .ref a7, .ref a8, .ref a9])), (cr, .inr (4, [.int 0, .ref c1, .ref c2, .ref c3, .ref c4, .ref c5])), (te, .inr (8, [.int 0, .ref t1, .ref t2, .ref t3])), (ca, .inr (3, [.int 0, .int 0, .ref k2, .ref k3, .ref k4, .ref k5, .ref k6, .ref k7, .ref k8, .ref k9, .ref k10, .ref k11, .ref k12, .ref k13, .ref k14]))] H := hP
            have hD : va_D A [(h, .inr (9, [.ref b, .ref pl, .ref cr, .ref te, .ref ca])), (pl, .inr (6, [.ref a0, .ref a1, .int 0, .ref a3, .ref a4, .ref a5, .ref a6, .ref a7, .ref a8, .ref a9])), (cr, .inr (4, [.int 0, .ref c1, .ref c2, .ref c3, .ref c4, .ref c5])), (te, .inr (8, [.int 0, .ref t1, .ref t2, .ref t3])), (ca, .inr (3, [.int 0, .int 0, .ref k2, .ref k3, .ref k4, .ref k5, .ref k6, .ref k7, .ref k8, .ref k9, .ref k10, .ref k11, .ref k12, .ref k13, .ref k14]))] := hD
            have er_29 : r_29 = 0 := w_28.1
            subst er_29
            refine lv_i2l (v := 0) hx hb dX7_digest_22 (by decide) ?_
            refine lv_ladd hx hb dX7_digest_23 ?_
            refine lv_topl (fun x_30 ex_30 => ?_)
            have ex_30 : x_30 = (164531730797 : Int64) := ex_30.trans (by decide +kernel)
            subst ex_30
            refine lv_lstore_n (lv' := [(1, .long 164531730797), (3, .int 4), (0, .ref h)]) hx hb dX7_digest_24 rfl hl (by decide) rfl (fun ls hl => ?_)
            refine lv_iinc (v := 5) (lv' := [(3, .int 5), (1, .long 164531730797), (0, .ref h)]) hx hb dX7_digest_25 hl (k := 1) rfl (by decide) (by decide) rfl (fun ls hl => ?_)
            refine lv_goto (tgt := 6) hx hb dX7_digest_28 (by decide) ?_
            refine lv_iload_n hx hb dX7_digest_6 rfl (lv_at hl 0 rfl) ?_
            refine lv_bipush (v := 9) hx hb dX7_digest_7 (by decide) ?_
            refine lv_icmp_gt (tgt := 31) hx hb dX7_digest_9 (by decide) (fun c_31 => absurd c_31 (by decide)) (fun c_31 => ?_)
            refine lv_lload_n hx hb dX7_digest_12 rfl (lv_at hl 1 rfl) ?_
            refine lv_ldc2 (v := 31) hx hb hown (hts _ q362) dX7_digest_13 ?_
            refine lv_lmul hx hb dX7_digest_16 ?_
            refine lv_topl (fun x_32 ex_32 => ?_)
            have ex_32 : x_32 = (5100483654707 : Int64) := ex_32.trans (by decide +kernel)
            subst ex_32
            refine lv_aload_n hx hb dX7_digest_17 rfl (lv_at hl 2 rfl) ?_
            refine lv_iload_n hx hb dX7_digest_18 rfl (lv_at hl 0 rfl) ?_
            have hcut : sx_cut [(h, .inr (9, [.ref b, .ref pl, .ref cr, .ref te, .ref ca])), (pl, .inr (6, [.ref a0, .ref a1, .int 0, .ref a3, .ref a4, .ref a5, .ref a6, .ref a7, .ref a8, .ref a9])), (cr, .inr (4, [.int 0, .ref c1, .ref c2, .ref c3, .ref c4, .ref c5])), (te, .inr (8, [.int 0, .ref t1, .ref t2, .ref t3])), (ca, .inr (3, [.int 0, .int 0, .ref k2, .ref k3, .ref k4, .ref k5, .ref k6, .ref k7, .ref k8, .ref k9, .ref k10, .ref k11, .ref k12, .ref k13, .ref k14]))] [(h, .inr (9, [.ref b, .ref pl, .ref cr, .ref te, .ref ca])), (pl, .inr (6, [.ref a0, .ref a1, .int 0, .ref a3, .ref a4, .ref a5, .ref a6, .ref a7, .ref a8, .ref a9])), (cr, .inr (4, [.int 0, .ref c1, .ref c2, .ref c3, .ref c4, .ref c5])), (te, .inr (8, [.int 0, .ref t1, .ref t2, .ref t3])), (ca, .inr (3, [.int 0, .int 0, .ref k2, .ref k3, .ref k4, .ref k5, .ref k6, .ref k7, .ref k8, .ref k9, .ref k10, .ref k11, .ref k12, .ref k13, .ref k14]))] [] [0, 1, 2, 3, 4] [] := ⟨rfl, rfl, by decide, by decide, by decide⟩
            refine sx_xki (sx_xrunV (As := [.int 5]) (rest := [.long 5100483654707]) F (m_X7_many l hfl G H.size h b pl cr te ca a0 a1 a3 a4 a5 a6 a7 a8 a9 c1 c2 c3 c4 c5 t1 t2 t3 k2 k3 k4 k5 k6 k7 k8 k9 k10 k11 k12 k13 k14 5) mi_X7_many q364 qs_X7_many q363 ⟨⟨Nat.le_of_ble_eq_true rfl, Nat.le_of_ble_eq_true rfl⟩, Nat.le_of_ble_eq_true rfl, Nat.le_of_ble_eq_true rfl⟩ hcut hP hD hS 0 9 rfl rfl rfl hl.1 rfl (Nat.le_of_ble_eq_true rfl) dX7_digest_19) hcut hP hD hS hA (fun E ce q9 H locs hw9 hP hD hS hce hcv hcl => ?_) (fun r_35 u_33 H locs w_34 hP hD hS => ?_)
            · have hP : va_P (sx_D G) vwCl [] H := hP
              have hD : va_D A [] := hD
              exact absurd hw9.2 (by decide +kernel)
            · have hP : va_P (sx_D G) vwCl [(h, .inr (9, [.ref b, .ref pl, .ref cr, .ref te, .ref ca])), (pl, .inr (6, [.ref a0, .ref a1, .int 0, .ref a3, .ref a4, .ref a5, .ref a6, .ref a7, .ref a8, .ref a9])), (cr, .inr (4, [.int 0, .ref c1, .ref c2, .ref c3, .ref c4, .ref c5])), (te, .inr (8, [.int 0, .ref t1, .ref t2, .ref t3])), (ca, .inr (3, [.int 0, .int 0, .ref k2, .ref k3, .ref k4, .ref k5, .ref k6, .ref k7, .ref k8, .ref k9, .ref k10, .ref k11, .ref k12, .ref k13, .ref k14]))] H := hP
              have hD : va_D A [(h, .inr (9, [.ref b, .ref pl, .ref cr, .ref te, .ref ca])), (pl, .inr (6, [.ref a0, .ref a1, .int 0, .ref a3, .ref a4, .ref a5, .ref a6, .ref a7, .ref a8, .ref a9])), (cr, .inr (4, [.int 0, .ref c1, .ref c2, .ref c3, .ref c4, .ref c5])), (te, .inr (8, [.int 0, .ref t1, .ref t2, .ref t3])), (ca, .inr (3, [.int 0, .int 0, .ref k2, .ref k3, .ref k4, .ref k5, .ref k6, .ref k7, .ref k8, .ref k9, .ref k10, .ref k11, .ref k12, .ref k13, .ref k14]))] := hD
              have er_35 : r_35 = 0 := w_34.1
              subst er_35
              refine lv_i2l (v := 0) hx hb dX7_digest_22 (by decide) ?_
              refine lv_ladd hx hb dX7_digest_23 ?_
              refine lv_topl (fun x_36 ex_36 => ?_)
              have ex_36 : x_36 = (5100483654707 : Int64) := ex_36.trans (by decide +kernel)
              subst ex_36
              refine lv_lstore_n (lv' := [(1, .long 5100483654707), (3, .int 5), (0, .ref h)]) hx hb dX7_digest_24 rfl hl (by decide) rfl (fun ls hl => ?_)
              refine lv_iinc (v := 6) (lv' := [(3, .int 6), (1, .long 5100483654707), (0, .ref h)]) hx hb dX7_digest_25 hl (k := 1) rfl (by decide) (by decide) rfl (fun ls hl => ?_)
              refine lv_goto (tgt := 6) hx hb dX7_digest_28 (by decide) ?_
              refine lv_iload_n hx hb dX7_digest_6 rfl (lv_at hl 0 rfl) ?_
              refine lv_bipush (v := 9) hx hb dX7_digest_7 (by decide) ?_
              refine lv_icmp_gt (tgt := 31) hx hb dX7_digest_9 (by decide) (fun c_37 => absurd c_37 (by decide)) (fun c_37 => ?_)
              refine lv_lload_n hx hb dX7_digest_12 rfl (lv_at hl 1 rfl) ?_
              refine lv_ldc2 (v := 31) hx hb hown (hts _ q362) dX7_digest_13 ?_
              refine lv_lmul hx hb dX7_digest_16 ?_
              refine lv_topl (fun x_38 ex_38 => ?_)
              have ex_38 : x_38 = (158114993295917 : Int64) := ex_38.trans (by decide +kernel)
              subst ex_38
              refine lv_aload_n hx hb dX7_digest_17 rfl (lv_at hl 2 rfl) ?_
              refine lv_iload_n hx hb dX7_digest_18 rfl (lv_at hl 0 rfl) ?_
              have hcut : sx_cut [(h, .inr (9, [.ref b, .ref pl, .ref cr, .ref te, .ref ca])), (pl, .inr (6, [.ref a0, .ref a1, .int 0, .ref a3, .ref a4, .ref a5, .ref a6, .ref a7, .ref a8, .ref a9])), (cr, .inr (4, [.int 0, .ref c1, .ref c2, .ref c3, .ref c4, .ref c5])), (te, .inr (8, [.int 0, .ref t1, .ref t2, .ref t3])), (ca, .inr (3, [.int 0, .int 0, .ref k2, .ref k3, .ref k4, .ref k5, .ref k6, .ref k7, .ref k8, .ref k9, .ref k10, .ref k11, .ref k12, .ref k13, .ref k14]))] [(h, .inr (9, [.ref b, .ref pl, .ref cr, .ref te, .ref ca])), (pl, .inr (6, [.ref a0, .ref a1, .int 0, .ref a3, .ref a4, .ref a5, .ref a6, .ref a7, .ref a8, .ref a9])), (cr, .inr (4, [.int 0, .ref c1, .ref c2, .ref c3, .ref c4, .ref c5])), (te, .inr (8, [.int 0, .ref t1, .ref t2, .ref t3])), (ca, .inr (3, [.int 0, .int 0, .ref k2, .ref k3, .ref k4, .ref k5, .ref k6, .ref k7, .ref k8, .ref k9, .ref k10, .ref k11, .ref k12, .ref k13, .ref k14]))] [] [0, 1, 2, 3, 4] [] := ⟨rfl, rfl, by decide, by decide, by decide⟩
              refine sx_xki (sx_xrunV (As := [.int 6]) (rest := [.long 158114993295917]) F (m_X7_many l hfl G H.size h b pl cr te ca a0 a1 a3 a4 a5 a6 a7 a8 a9 c1 c2 c3 c4 c5 t1 t2 t3 k2 k3 k4 k5 k6 k7 k8 k9 k10 k11 k12 k13 k14 6) mi_X7_many q364 qs_X7_many q363 ⟨⟨Nat.le_of_ble_eq_true rfl, Nat.le_of_ble_eq_true rfl⟩, Nat.le_of_ble_eq_true rfl, Nat.le_of_ble_eq_true rfl⟩ hcut hP hD hS 0 9 rfl rfl rfl hl.1 rfl (Nat.le_of_ble_eq_true rfl) dX7_digest_19) hcut hP hD hS hA (fun E ce q9 H locs hw9 hP hD hS hce hcv hcl => ?_) (fun r_41 u_39 H locs w_40 hP hD hS => ?_)
              · have hP : va_P (sx_D G) vwCl [] H := hP
                have hD : va_D A [] := hD
                exact absurd hw9.2 (by decide +kernel)
              · have hP : va_P (sx_D G) vwCl [(h, .inr (9, [.ref b, .ref pl, .ref cr, .ref te, .ref ca])), (pl, .inr (6, [.ref a0, .ref a1, .int 0, .ref a3, .ref a4, .ref a5, .ref a6, .ref a7, .ref a8, .ref a9])), (cr, .inr (4, [.int 0, .ref c1, .ref c2, .ref c3, .ref c4, .ref c5])), (te, .inr (8, [.int 0, .ref t1, .ref t2, .ref t3])), (ca, .inr (3, [.int 0, .int 0, .ref k2, .ref k3, .ref k4, .ref k5, .ref k6, .ref k7, .ref k8, .ref k9, .ref k10, .ref k11, .ref k12, .ref k13, .ref k14]))] H := hP
                have hD : va_D A [(h, .inr (9, [.ref b, .ref pl, .ref cr, .ref te, .ref ca])), (pl, .inr (6, [.ref a0, .ref a1, .int 0, .ref a3, .ref a4, .ref a5, .ref a6, .ref a7, .ref a8, .ref a9])), (cr, .inr (4, [.int 0, .ref c1, .ref c2, .ref c3, .ref c4, .ref c5])), (te, .inr (8, [.int 0, .ref t1, .ref t2, .ref t3])), (ca, .inr (3, [.int 0, .int 0, .ref k2, .ref k3, .ref k4, .ref k5, .ref k6, .ref k7, .ref k8, .ref k9, .ref k10, .ref k11, .ref k12, .ref k13, .ref k14]))] := hD
                have er_41 : r_41 = 0 := w_40.1
                subst er_41
                refine lv_i2l (v := 0) hx hb dX7_digest_22 (by decide) ?_
                refine lv_ladd hx hb dX7_digest_23 ?_
                refine lv_topl (fun x_42 ex_42 => ?_)
                have ex_42 : x_42 = (158114993295917 : Int64) := ex_42.trans (by decide +kernel)
                subst ex_42
                refine lv_lstore_n (lv' := [(1, .long 158114993295917), (3, .int 6), (0, .ref h)]) hx hb dX7_digest_24 rfl hl (by decide) rfl (fun ls hl => ?_)
                refine lv_iinc (v := 7) (lv' := [(3, .int 7), (1, .long 158114993295917), (0, .ref h)]) hx hb dX7_digest_25 hl (k := 1) rfl (by decide) (by decide) rfl (fun ls hl => ?_)
                refine lv_goto (tgt := 6) hx hb dX7_digest_28 (by decide) ?_
                refine lv_iload_n hx hb dX7_digest_6 rfl (lv_at hl 0 rfl) ?_
                refine lv_bipush (v := 9) hx hb dX7_digest_7 (by decide) ?_
                refine lv_icmp_gt (tgt := 31) hx hb dX7_digest_9 (by decide) (fun c_43 => absurd c_43 (by decide)) (fun c_43 => ?_)
                refine lv_lload_n hx hb dX7_digest_12 rfl (lv_at hl 1 rfl) ?_
                refine lv_ldc2 (v := 31) hx hb hown (hts _ q362) dX7_digest_13 ?_
                refine lv_lmul hx hb dX7_digest_16 ?_
                refine lv_topl (fun x_44 ex_44 => ?_)
                have ex_44 : x_44 = (4901564792173427 : Int64) := ex_44.trans (by decide +kernel)
                subst ex_44
                refine lv_aload_n hx hb dX7_digest_17 rfl (lv_at hl 2 rfl) ?_
                refine lv_iload_n hx hb dX7_digest_18 rfl (lv_at hl 0 rfl) ?_
                have hcut : sx_cut [(h, .inr (9, [.ref b, .ref pl, .ref cr, .ref te, .ref ca])), (pl, .inr (6, [.ref a0, .ref a1, .int 0, .ref a3, .ref a4, .ref a5, .ref a6, .ref a7, .ref a8, .ref a9])), (cr, .inr (4, [.int 0, .ref c1, .ref c2, .ref c3, .ref c4, .ref c5])), (te, .inr (8, [.int 0, .ref t1, .ref t2, .ref t3])), (ca, .inr (3, [.int 0, .int 0, .ref k2, .ref k3, .ref k4, .ref k5, .ref k6, .ref k7, .ref k8, .ref k9, .ref k10, .ref k11, .ref k12, .ref k13, .ref k14]))] [(h, .inr (9, [.ref b, .ref pl, .ref cr, .ref te, .ref ca])), (pl, .inr (6, [.ref a0, .ref a1, .int 0, .ref a3, .ref a4, .ref a5, .ref a6, .ref a7, .ref a8, .ref a9])), (cr, .inr (4, [.int 0, .ref c1, .ref c2, .ref c3, .ref c4, .ref c5])), (te, .inr (8, [.int 0, .ref t1, .ref t2, .ref t3])), (ca, .inr (3, [.int 0, .int 0, .ref k2, .ref k3, .ref k4, .ref k5, .ref k6, .ref k7, .ref k8, .ref k9, .ref k10, .ref k11, .ref k12, .ref k13, .ref k14]))] [] [0, 1, 2, 3, 4] [] := ⟨rfl, rfl, by decide, by decide, by decide⟩
                refine sx_xki (sx_xrunV (As := [.int 7]) (rest := [.long 4901564792173427]) F (m_X7_many l hfl G H.size h b pl cr te ca a0 a1 a3 a4 a5 a6 a7 a8 a9 c1 c2 c3 c4 c5 t1 t2 t3 k2 k3 k4 k5 k6 k7 k8 k9 k10 k11 k12 k13 k14 7) mi_X7_many q364 qs_X7_many q363 ⟨⟨Nat.le_of_ble_eq_true rfl, Nat.le_of_ble_eq_true rfl⟩, Nat.le_of_ble_eq_true rfl, Nat.le_of_ble_eq_true rfl⟩ hcut hP hD hS 0 9 rfl rfl rfl hl.1 rfl (Nat.le_of_ble_eq_true rfl) dX7_digest_19) hcut hP hD hS hA (fun E ce q9 H locs hw9 hP hD hS hce hcv hcl => ?_) (fun r_47 u_45 H locs w_46 hP hD hS => ?_)
                · have hP : va_P (sx_D G) vwCl [] H := hP
                  have hD : va_D A [] := hD
                  exact absurd hw9.2 (by decide +kernel)
                · have hP : va_P (sx_D G) vwCl [(h, .inr (9, [.ref b, .ref pl, .ref cr, .ref te, .ref ca])), (pl, .inr (6, [.ref a0, .ref a1, .int 0, .ref a3, .ref a4, .ref a5, .ref a6, .ref a7, .ref a8, .ref a9])), (cr, .inr (4, [.int 0, .ref c1, .ref c2, .ref c3, .ref c4, .ref c5])), (te, .inr (8, [.int 0, .ref t1, .ref t2, .ref t3])), (ca, .inr (3, [.int 0, .int 0, .ref k2, .ref k3, .ref k4, .ref k5, .ref k6, .ref k7, .ref k8, .ref k9, .ref k10, .ref k11, .ref k12, .ref k13, .ref k14]))] H := hP
                  have hD : va_D A [(h, .inr (9, [.ref b, .ref pl, .ref cr, .ref te, .ref ca])), (pl, .inr (6, [.ref a0, .ref a1, .int 0, .ref a3, .ref a4, .ref a5, .ref a6, .ref a7, .ref a8, .ref a9])), (cr, .inr (4, [.int 0, .ref c1, .ref c2, .ref c3, .ref c4, .ref c5])), (te, .inr (8, [.int 0, .ref t1, .ref t2, .ref t3])), (ca, .inr (3, [.int 0, .int 0, .ref k2, .ref k3, .ref k4, .ref k5, .ref k6, .ref k7, .ref k8, .ref k9, .ref k10, .ref k11, .ref k12, .ref k13, .ref k14]))] := hD
                  have er_47 : r_47 = 0 := w_46.1
                  subst er_47
                  refine lv_i2l (v := 0) hx hb dX7_digest_22 (by decide) ?_
                  refine lv_ladd hx hb dX7_digest_23 ?_
                  refine lv_topl (fun x_48 ex_48 => ?_)
                  have ex_48 : x_48 = (4901564792173427 : Int64) := ex_48.trans (by decide +kernel)
                  subst ex_48
                  refine lv_lstore_n (lv' := [(1, .long 4901564792173427), (3, .int 7), (0, .ref h)]) hx hb dX7_digest_24 rfl hl (by decide) rfl (fun ls hl => ?_)
                  refine lv_iinc (v := 8) (lv' := [(3, .int 8), (1, .long 4901564792173427), (0, .ref h)]) hx hb dX7_digest_25 hl (k := 1) rfl (by decide) (by decide) rfl (fun ls hl => ?_)
                  refine lv_goto (tgt := 6) hx hb dX7_digest_28 (by decide) ?_
                  refine lv_iload_n hx hb dX7_digest_6 rfl (lv_at hl 0 rfl) ?_
                  refine lv_bipush (v := 9) hx hb dX7_digest_7 (by decide) ?_
                  refine lv_icmp_gt (tgt := 31) hx hb dX7_digest_9 (by decide) (fun c_49 => absurd c_49 (by decide)) (fun c_49 => ?_)
                  refine lv_lload_n hx hb dX7_digest_12 rfl (lv_at hl 1 rfl) ?_
                  refine lv_ldc2 (v := 31) hx hb hown (hts _ q362) dX7_digest_13 ?_
                  refine lv_lmul hx hb dX7_digest_16 ?_
                  refine lv_topl (fun x_50 ex_50 => ?_)
                  have ex_50 : x_50 = (151948508557376237 : Int64) := ex_50.trans (by decide +kernel)
                  subst ex_50
                  refine lv_aload_n hx hb dX7_digest_17 rfl (lv_at hl 2 rfl) ?_
                  refine lv_iload_n hx hb dX7_digest_18 rfl (lv_at hl 0 rfl) ?_
                  have hcut : sx_cut [(h, .inr (9, [.ref b, .ref pl, .ref cr, .ref te, .ref ca])), (pl, .inr (6, [.ref a0, .ref a1, .int 0, .ref a3, .ref a4, .ref a5, .ref a6, .ref a7, .ref a8, .ref a9])), (cr, .inr (4, [.int 0, .ref c1, .ref c2, .ref c3, .ref c4, .ref c5])), (te, .inr (8, [.int 0, .ref t1, .ref t2, .ref t3])), (ca, .inr (3, [.int 0, .int 0, .ref k2, .ref k3, .ref k4, .ref k5, .ref k6, .ref k7, .ref k8, .ref k9, .ref k10, .ref k11, .ref k12, .ref k13, .ref k14]))] [(h, .inr (9, [.ref b, .ref pl, .ref cr, .ref te, .ref ca])), (pl, .inr (6, [.ref a0, .ref a1, .int 0, .ref a3, .ref a4, .ref a5, .ref a6, .ref a7, .ref a8, .ref a9])), (cr, .inr (4, [.int 0, .ref c1, .ref c2, .ref c3, .ref c4, .ref c5])), (te, .inr (8, [.int 0, .ref t1, .ref t2, .ref t3])), (ca, .inr (3, [.int 0, .int 0, .ref k2, .ref k3, .ref k4, .ref k5, .ref k6, .ref k7, .ref k8, .ref k9, .ref k10, .ref k11, .ref k12, .ref k13, .ref k14]))] [] [0, 1, 2, 3, 4] [] := ⟨rfl, rfl, by decide, by decide, by decide⟩
                  refine sx_xki (sx_xrunV (As := [.int 8]) (rest := [.long 151948508557376237]) F (m_X7_many l hfl G H.size h b pl cr te ca a0 a1 a3 a4 a5 a6 a7 a8 a9 c1 c2 c3 c4 c5 t1 t2 t3 k2 k3 k4 k5 k6 k7 k8 k9 k10 k11 k12 k13 k14 8) mi_X7_many q364 qs_X7_many q363 ⟨⟨Nat.le_of_ble_eq_true rfl, Nat.le_of_ble_eq_true rfl⟩, Nat.le_of_ble_eq_true rfl, Nat.le_of_ble_eq_true rfl⟩ hcut hP hD hS 0 9 rfl rfl rfl hl.1 rfl (Nat.le_of_ble_eq_true rfl) dX7_digest_19) hcut hP hD hS hA (fun E ce q9 H locs hw9 hP hD hS hce hcv hcl => ?_) (fun r_53 u_51 H locs w_52 hP hD hS => ?_)
                  · have hP : va_P (sx_D G) vwCl [] H := hP
                    have hD : va_D A [] := hD
                    exact absurd hw9.2 (by decide +kernel)
                  · have hP : va_P (sx_D G) vwCl [(h, .inr (9, [.ref b, .ref pl, .ref cr, .ref te, .ref ca])), (pl, .inr (6, [.ref a0, .ref a1, .int 0, .ref a3, .ref a4, .ref a5, .ref a6, .ref a7, .ref a8, .ref a9])), (cr, .inr (4, [.int 0, .ref c1, .ref c2, .ref c3, .ref c4, .ref c5])), (te, .inr (8, [.int 0, .ref t1, .ref t2, .ref t3])), (ca, .inr (3, [.int 0, .int 0, .ref k2, .ref k3, .ref k4, .ref k5, .ref k6, .ref k7, .ref k8, .ref k9, .ref k10, .ref k11, .ref k12, .ref k13, .ref k14]))] H := hP
                    have hD : va_D A [(h, .inr (9, [.ref b, .ref pl, .ref cr, .ref te, .ref ca])), (pl, .inr (6, [.ref a0, .ref a1, .int 0, .ref a3, .ref a4, .ref a5, .ref a6, .ref a7, .ref a8, .ref a9])), (cr, .inr (4, [.int 0, .ref c1, .ref c2, .ref c3, .ref c4, .ref c5])), (te, .inr (8, [.int 0, .ref t1, .ref t2, .ref t3])), (ca, .inr (3, [.int 0, .int 0, .ref k2, .ref k3, .ref k4, .ref k5, .ref k6, .ref k7, .ref k8, .ref k9, .ref k10, .ref k11, .ref k12, .ref k13, .ref k14]))] := hD
                    have er_53 : r_53 = 0 := w_52.1
                    subst er_53
                    refine lv_i2l (v := 0) hx hb dX7_digest_22 (by decide) ?_
                    refine lv_ladd hx hb dX7_digest_23 ?_
                    refine lv_topl (fun x_54 ex_54 => ?_)
                    have ex_54 : x_54 = (151948508557376237 : Int64) := ex_54.trans (by decide +kernel)
                    subst ex_54
                    refine lv_lstore_n (lv' := [(1, .long 151948508557376237), (3, .int 8), (0, .ref h)]) hx hb dX7_digest_24 rfl hl (by decide) rfl (fun ls hl => ?_)
                    refine lv_iinc (v := 9) (lv' := [(3, .int 9), (1, .long 151948508557376237), (0, .ref h)]) hx hb dX7_digest_25 hl (k := 1) rfl (by decide) (by decide) rfl (fun ls hl => ?_)
                    refine lv_goto (tgt := 6) hx hb dX7_digest_28 (by decide) ?_
                    refine lv_iload_n hx hb dX7_digest_6 rfl (lv_at hl 0 rfl) ?_
                    refine lv_bipush (v := 9) hx hb dX7_digest_7 (by decide) ?_
                    refine lv_icmp_gt (tgt := 31) hx hb dX7_digest_9 (by decide) (fun c_55 => absurd c_55 (by decide)) (fun c_55 => ?_)
                    refine lv_lload_n hx hb dX7_digest_12 rfl (lv_at hl 1 rfl) ?_
                    refine lv_ldc2 (v := 31) hx hb hown (hts _ q362) dX7_digest_13 ?_
                    refine lv_lmul hx hb dX7_digest_16 ?_
                    refine lv_topl (fun x_56 ex_56 => ?_)
                    have ex_56 : x_56 = (4710403765278663347 : Int64) := ex_56.trans (by decide +kernel)
                    subst ex_56
                    refine lv_aload_n hx hb dX7_digest_17 rfl (lv_at hl 2 rfl) ?_
                    refine lv_iload_n hx hb dX7_digest_18 rfl (lv_at hl 0 rfl) ?_
                    have hcut : sx_cut [(h, .inr (9, [.ref b, .ref pl, .ref cr, .ref te, .ref ca])), (pl, .inr (6, [.ref a0, .ref a1, .int 0, .ref a3, .ref a4, .ref a5, .ref a6, .ref a7, .ref a8, .ref a9])), (cr, .inr (4, [.int 0, .ref c1, .ref c2, .ref c3, .ref c4, .ref c5])), (te, .inr (8, [.int 0, .ref t1, .ref t2, .ref t3])), (ca, .inr (3, [.int 0, .int 0, .ref k2, .ref k3, .ref k4, .ref k5, .ref k6, .ref k7, .ref k8, .ref k9, .ref k10, .ref k11, .ref k12, .ref k13, .ref k14]))] [(h, .inr (9, [.ref b, .ref pl, .ref cr, .ref te, .ref ca])), (pl, .inr (6, [.ref a0, .ref a1, .int 0, .ref a3, .ref a4, .ref a5, .ref a6, .ref a7, .ref a8, .ref a9])), (cr, .inr (4, [.int 0, .ref c1, .ref c2, .ref c3, .ref c4, .ref c5])), (te, .inr (8, [.int 0, .ref t1, .ref t2, .ref t3])), (ca, .inr (3, [.int 0, .int 0, .ref k2, .ref k3, .ref k4, .ref k5, .ref k6, .ref k7, .ref k8, .ref k9, .ref k10, .ref k11, .ref k12, .ref k13, .ref k14]))] [] [0, 1, 2, 3, 4] [] := ⟨rfl, rfl, by decide, by decide, by decide⟩
                    refine sx_xki (sx_xrunV (As := [.int 9]) (rest := [.long 4710403765278663347]) F (m_X7_many l hfl G H.size h b pl cr te ca a0 a1 a3 a4 a5 a6 a7 a8 a9 c1 c2 c3 c4 c5 t1 t2 t3 k2 k3 k4 k5 k6 k7 k8 k9 k10 k11 k12 k13 k14 9) mi_X7_many q364 qs_X7_many q363 ⟨⟨Nat.le_of_ble_eq_true rfl, Nat.le_of_ble_eq_true rfl⟩, Nat.le_of_ble_eq_true rfl, Nat.le_of_ble_eq_true rfl⟩ hcut hP hD hS 0 9 rfl rfl rfl hl.1 rfl (Nat.le_of_ble_eq_true rfl) dX7_digest_19) hcut hP hD hS hA (fun E ce q9 H locs hw9 hP hD hS hce hcv hcl => ?_) (fun r_59 u_57 H locs w_58 hP hD hS => ?_)
                    · have hP : va_P (sx_D G) vwCl [] H := hP
                      have hD : va_D A [] := hD
                      exact absurd hw9.2 (by decide +kernel)
                    · have hP : va_P (sx_D G) vwCl [(h, .inr (9, [.ref b, .ref pl, .ref cr, .ref te, .ref ca])), (pl, .inr (6, [.ref a0, .ref a1, .int 0, .ref a3, .ref a4, .ref a5, .ref a6, .ref a7, .ref a8, .ref a9])), (cr, .inr (4, [.int 0, .ref c1, .ref c2, .ref c3, .ref c4, .ref c5])), (te, .inr (8, [.int 0, .ref t1, .ref t2, .ref t3])), (ca, .inr (3, [.int 0, .int 0, .ref k2, .ref k3, .ref k4, .ref k5, .ref k6, .ref k7, .ref k8, .ref k9, .ref k10, .ref k11, .ref k12, .ref k13, .ref k14]))] H := hP
                      have hD : va_D A [(h, .inr (9, [.ref b, .ref pl, .ref cr, .ref te, .ref ca])), (pl, .inr (6, [.ref a0, .ref a1, .int 0, .ref a3, .ref a4, .ref a5, .ref a6, .ref a7, .ref a8, .ref a9])), (cr, .inr (4, [.int 0, .ref c1, .ref c2, .ref c3, .ref c4, .ref c5])), (te, .inr (8, [.int 0, .ref t1, .ref t2, .ref t3])), (ca, .inr (3, [.int 0, .int 0, .ref k2, .ref k3, .ref k4, .ref k5, .ref k6, .ref k7, .ref k8, .ref k9, .ref k10, .ref k11, .ref k12, .ref k13, .ref k14]))] := hD
                      have er_59 : r_59 = 0 := w_58.1
                      subst er_59
                      refine lv_i2l (v := 0) hx hb dX7_digest_22 (by decide) ?_
                      refine lv_ladd hx hb dX7_digest_23 ?_
                      refine lv_topl (fun x_60 ex_60 => ?_)
                      have ex_60 : x_60 = (4710403765278663347 : Int64) := ex_60.trans (by decide +kernel)
                      subst ex_60
                      refine lv_lstore_n (lv' := [(1, .long 4710403765278663347), (3, .int 9), (0, .ref h)]) hx hb dX7_digest_24 rfl hl (by decide) rfl (fun ls hl => ?_)
                      refine lv_iinc (v := 10) (lv' := [(3, .int 10), (1, .long 4710403765278663347), (0, .ref h)]) hx hb dX7_digest_25 hl (k := 1) rfl (by decide) (by decide) rfl (fun ls hl => ?_)
                      refine lv_goto (tgt := 6) hx hb dX7_digest_28 (by decide) ?_
                      refine lv_iload_n hx hb dX7_digest_6 rfl (lv_at hl 0 rfl) ?_
                      refine lv_bipush (v := 9) hx hb dX7_digest_7 (by decide) ?_
                      refine lv_icmp_gt (tgt := 31) hx hb dX7_digest_9 (by decide) (fun c_61 => ?_) (fun c_61 => absurd (by decide) c_61)
                      refine lv_iconst (v := 0) hx hb dX7_digest_31 (by decide) ?_
                      refine lv_istore_n (lv' := [(3, .int 0), (1, .long 4710403765278663347), (0, .ref h)]) hx hb dX7_digest_32 rfl hl (by decide) rfl (fun ls hl => ?_)
                      refine lv_iload_n hx hb dX7_digest_33 rfl (lv_at hl 0 rfl) ?_
                      refine lv_aload_n hx hb dX7_digest_34 rfl (lv_at hl 2 rfl) ?_
                      refine va_get (D := sx_D G) (ci := 9) (v := .ref pl) (C := RX7) (T := TX7) (N := 5) hx hb hts inX7 hown hK hP 0 rfl rfl 1 (by decide) (hts _ q334) (fun _ h9 => h9) rfl dX7_digest_35 ?_
                      refine va_getN (D := sx_D G) (ci := 6) (v := .int 0) (C := RX4) (T := TX4) (N := 10) hx hb hts inX4 hown hK hP 1 rfl rfl 2 (by decide) (hts _ q60) (fun _ h9 => h9) rfl dX7_digest_38 ?_
                      refine lv_icmp_ge (tgt := 81) hx hb dX7_digest_41 (by decide) (fun c_62 => ?_) (fun c_62 => absurd (by decide) c_62)
                      refine lv_iconst (v := 0) hx hb dX7_digest_81 (by decide) ?_
                      refine lv_istore_n (lv' := [(3, .int 0), (1, .long 4710403765278663347), (0, .ref h)]) hx hb dX7_digest_82 rfl hl (by decide) rfl (fun ls hl => ?_)
                      refine lv_iload_n hx hb dX7_digest_83 rfl (lv_at hl 0 rfl) ?_
                      refine lv_aload_n hx hb dX7_digest_84 rfl (lv_at hl 2 rfl) ?_
                      refine va_get (D := sx_D G) (ci := 9) (v := .ref cr) (C := RX7) (T := TX7) (N := 5) hx hb hts inX7 hown hK hP 0 rfl rfl 2 (by decide) (hts _ q335) (fun _ h9 => h9) rfl dX7_digest_85 ?_
                      refine va_getN (D := sx_D G) (ci := 4) (v := .int 0) (C := RX2) (T := TX2) (N := 6) hx hb hts inX2 hown hK hP 2 rfl rfl 0 (by decide) (hts _ q114) (fun _ h9 => h9) rfl dX7_digest_88 ?_
                      refine lv_icmp_ge (tgt := 130) hx hb dX7_digest_91 (by decide) (fun c_63 => ?_) (fun c_63 => absurd (by decide) c_63)
                      refine lv_iconst (v := 0) hx hb dX7_digest_130 (by decide) ?_
                      refine lv_istore_n (lv' := [(3, .int 0), (1, .long 4710403765278663347), (0, .ref h)]) hx hb dX7_digest_131 rfl hl (by decide) rfl (fun ls hl => ?_)
                      refine lv_iload_n hx hb dX7_digest_132 rfl (lv_at hl 0 rfl) ?_
                      refine lv_aload_n hx hb dX7_digest_133 rfl (lv_at hl 2 rfl) ?_
                      refine va_get (D := sx_D G) (ci := 9) (v := .ref te) (C := RX7) (T := TX7) (N := 5) hx hb hts inX7 hown hK hP 0 rfl rfl 3 (by decide) (hts _ q336) (fun _ h9 => h9) rfl dX7_digest_134 ?_
                      refine va_getN (D := sx_D G) (ci := 8) (v := .int 0) (C := RX6) (T := TX6) (N := 4) hx hb hts inX6 hown hK hP 3 rfl rfl 0 (by decide) (hts _ q149) (fun _ h9 => h9) rfl dX7_digest_137 ?_
                      refine lv_icmp_ge (tgt := 218) hx hb dX7_digest_140 (by decide) (fun c_64 => ?_) (fun c_64 => absurd (by decide) c_64)
                      refine lv_iconst (v := 0) hx hb dX7_digest_218 (by decide) ?_
                      refine lv_istore_n (lv' := [(3, .int 0), (1, .long 4710403765278663347), (0, .ref h)]) hx hb dX7_digest_219 rfl hl (by decide) rfl (fun ls hl => ?_)
                      refine lv_iload_n hx hb dX7_digest_220 rfl (lv_at hl 0 rfl) ?_
                      refine lv_aload_n hx hb dX7_digest_221 rfl (lv_at hl 2 rfl) ?_
                      refine va_get (D := sx_D G) (ci := 9) (v := .ref ca) (C := RX7) (T := TX7) (N := 5) hx hb hts inX7 hown hK hP 0 rfl rfl 4 (by decide) (hts _ q337) (fun _ h9 => h9) rfl dX7_digest_222 ?_
                      refine va_getN (D := sx_D G) (ci := 3) (v := .int 0) (C := RX1) (T := TX1) (N := 15) hx hb hts inX1 hown hK hP 4 rfl rfl 0 (by decide) (hts _ q178) (fun _ h9 => h9) rfl dX7_digest_225 ?_
                      refine lv_icmp_ge (tgt := 268) hx hb dX7_digest_228 (by decide) (fun c_65 => ?_) (fun c_65 => absurd (by decide) c_65)
                      refine lv_iconst (v := 0) hx hb dX7_digest_268 (by decide) ?_
                      refine lv_istore_n (lv' := [(3, .int 0), (1, .long 4710403765278663347), (0, .ref h)]) hx hb dX7_digest_269 rfl hl (by decide) rfl (fun ls hl => ?_)
                      refine lv_iload_n hx hb dX7_digest_270 rfl (lv_at hl 0 rfl) ?_
                      refine lv_bipush (v := 8) hx hb dX7_digest_271 (by decide) ?_
                      refine lv_icmp_ge (tgt := 295) hx hb dX7_digest_273 (by decide) (fun c_66 => absurd c_66 (by decide)) (fun c_66 => ?_)
                      refine lv_lload_n hx hb dX7_digest_276 rfl (lv_at hl 1 rfl) ?_
                      refine lv_ldc2 (v := 31) hx hb hown (hts _ q362) dX7_digest_277 ?_
                      refine lv_lmul hx hb dX7_digest_280 ?_
                      refine lv_topl (fun x_67 ex_67 => ?_)
                      have ex_67 : x_67 = ((-1551435866037849171) : Int64) := ex_67.trans (by decide +kernel)
                      subst ex_67
                      refine lv_aload_n hx hb dX7_digest_281 rfl (lv_at hl 2 rfl) ?_
                      refine lv_iload_n hx hb dX7_digest_282 rfl (lv_at hl 0 rfl) ?_
                      have hcut : sx_cut [(h, .inr (9, [.ref b, .ref pl, .ref cr, .ref te, .ref ca])), (pl, .inr (6, [.ref a0, .ref a1, .int 0, .ref a3, .ref a4, .ref a5, .ref a6, .ref a7, .ref a8, .ref a9])), (cr, .inr (4, [.int 0, .ref c1, .ref c2, .ref c3, .ref c4, .ref c5])), (te, .inr (8, [.int 0, .ref t1, .ref t2, .ref t3])), (ca, .inr (3, [.int 0, .int 0, .ref k2, .ref k3, .ref k4, .ref k5, .ref k6, .ref k7, .ref k8, .ref k9, .ref k10, .ref k11, .ref k12, .ref k13, .ref k14]))] [(h, .inr (9, [.ref b, .ref pl, .ref cr, .ref te, .ref ca])), (pl, .inr (6, [.ref a0, .ref a1, .int 0, .ref a3, .ref a4, .ref a5, .ref a6, .ref a7, .ref a8, .ref a9])), (ca, .inr (3, [.int 0, .int 0, .ref k2, .ref k3, .ref k4, .ref k5, .ref k6, .ref k7, .ref k8, .ref k9, .ref k10, .ref k11, .ref k12, .ref k13, .ref k14]))] [(cr, .inr (4, [.int 0, .ref c1, .ref c2, .ref c3, .ref c4, .ref c5])), (te, .inr (8, [.int 0, .ref t1, .ref t2, .ref t3]))] [0, 1, 4] [2, 3] := ⟨rfl, rfl, by decide, by decide, by decide⟩
                      refine sx_xki (sx_xrunV (As := [.int 0]) (rest := [.long (-1551435866037849171)]) F (m_X7_touched l hfl G H.size h b pl cr te ca a0 a1 a3 a4 a5 a6 a7 a8 a9 k2 k3 k4 k5 k6 k7 k8 k9 k10 k11 k12 k13 k14 0) mi_X7_touched q652 qs_X7_touched q651 ⟨⟨Nat.le_of_ble_eq_true rfl, Nat.le_of_ble_eq_true rfl⟩, Nat.le_of_ble_eq_true rfl, Nat.le_of_ble_eq_true rfl⟩ hcut hP hD hS 0 9 rfl rfl rfl hl.1 rfl (Nat.le_of_ble_eq_true rfl) dX7_digest_283) hcut hP hD hS hA (fun E ce q9 H locs hw9 hP hD hS hce hcv hcl => ?_) (fun r_70 u_68 H locs w_69 hP hD hS => ?_)
                      · have hP : va_P (sx_D G) vwCl [(cr, .inr (4, [.int 0, .ref c1, .ref c2, .ref c3, .ref c4, .ref c5])), (te, .inr (8, [.int 0, .ref t1, .ref t2, .ref t3]))] H := hP
                        have hD : va_D A [(cr, .inr (4, [.int 0, .ref c1, .ref c2, .ref c3, .ref c4, .ref c5])), (te, .inr (8, [.int 0, .ref t1, .ref t2, .ref t3]))] := hD
                        exact absurd hw9.2 (by decide +kernel)
                      · have hP : va_P (sx_D G) vwCl [(cr, .inr (4, [.int 0, .ref c1, .ref c2, .ref c3, .ref c4, .ref c5])), (te, .inr (8, [.int 0, .ref t1, .ref t2, .ref t3])), (h, .inr (9, [.ref b, .ref pl, .ref cr, .ref te, .ref ca])), (pl, .inr (6, [.ref a0, .ref a1, .int 0, .ref a3, .ref a4, .ref a5, .ref a6, .ref a7, .ref a8, .ref a9])), (ca, .inr (3, [.int 0, .int 0, .ref k2, .ref k3, .ref k4, .ref k5, .ref k6, .ref k7, .ref k8, .ref k9, .ref k10, .ref k11, .ref k12, .ref k13, .ref k14]))] H := hP
                        have hD : va_D A [(cr, .inr (4, [.int 0, .ref c1, .ref c2, .ref c3, .ref c4, .ref c5])), (te, .inr (8, [.int 0, .ref t1, .ref t2, .ref t3])), (h, .inr (9, [.ref b, .ref pl, .ref cr, .ref te, .ref ca])), (pl, .inr (6, [.ref a0, .ref a1, .int 0, .ref a3, .ref a4, .ref a5, .ref a6, .ref a7, .ref a8, .ref a9])), (ca, .inr (3, [.int 0, .int 0, .ref k2, .ref k3, .ref k4, .ref k5, .ref k6, .ref k7, .ref k8, .ref k9, .ref k10, .ref k11, .ref k12, .ref k13, .ref k14]))] := hD
                        have er_70 : r_70 = 0 := w_69.1
                        subst er_70
                        refine lv_i2l (v := 0) hx hb dX7_digest_286 (by decide) ?_
                        refine lv_ladd hx hb dX7_digest_287 ?_
                        refine lv_topl (fun x_71 ex_71 => ?_)
                        have ex_71 : x_71 = ((-1551435866037849171) : Int64) := ex_71.trans (by decide +kernel)
                        subst ex_71
                        refine lv_lstore_n (lv' := [(1, .long (-1551435866037849171)), (3, .int 0), (0, .ref h)]) hx hb dX7_digest_288 rfl hl (by decide) rfl (fun ls hl => ?_)
                        refine lv_iinc (v := 1) (lv' := [(3, .int 1), (1, .long (-1551435866037849171)), (0, .ref h)]) hx hb dX7_digest_289 hl (k := 1) rfl (by decide) (by decide) rfl (fun ls hl => ?_)
                        refine lv_goto (tgt := 270) hx hb dX7_digest_292 (by decide) ?_
                        refine lv_iload_n hx hb dX7_digest_270 rfl (lv_at hl 0 rfl) ?_
                        refine lv_bipush (v := 8) hx hb dX7_digest_271 (by decide) ?_
                        refine lv_icmp_ge (tgt := 295) hx hb dX7_digest_273 (by decide) (fun c_72 => absurd c_72 (by decide)) (fun c_72 => ?_)
                        refine lv_lload_n hx hb dX7_digest_276 rfl (lv_at hl 1 rfl) ?_
                        refine lv_ldc2 (v := 31) hx hb hown (hts _ q362) dX7_digest_277 ?_
                        refine lv_lmul hx hb dX7_digest_280 ?_
                        refine lv_topl (fun x_73 ex_73 => ?_)
                        have ex_73 : x_73 = (7245720373955330547 : Int64) := ex_73.trans (by decide +kernel)
                        subst ex_73
                        refine lv_aload_n hx hb dX7_digest_281 rfl (lv_at hl 2 rfl) ?_
                        refine lv_iload_n hx hb dX7_digest_282 rfl (lv_at hl 0 rfl) ?_
                        have hcut : sx_cut [(cr, .inr (4, [.int 0, .ref c1, .ref c2, .ref c3, .ref c4, .ref c5])), (te, .inr (8, [.int 0, .ref t1, .ref t2, .ref t3])), (h, .inr (9, [.ref b, .ref pl, .ref cr, .ref te, .ref ca])), (pl, .inr (6, [.ref a0, .ref a1, .int 0, .ref a3, .ref a4, .ref a5, .ref a6, .ref a7, .ref a8, .ref a9])), (ca, .inr (3, [.int 0, .int 0, .ref k2, .ref k3, .ref k4, .ref k5, .ref k6, .ref k7, .ref k8, .ref k9, .ref k10, .ref k11, .ref k12, .ref k13, .ref k14]))] [(h, .inr (9, [.ref b, .ref pl, .ref cr, .ref te, .ref ca])), (pl, .inr (6, [.ref a0, .ref a1, .int 0, .ref a3, .ref a4, .ref a5, .ref a6, .ref a7, .ref a8, .ref a9])), (ca, .inr (3, [.int 0, .int 0, .ref k2, .ref k3, .ref k4, .ref k5, .ref k6, .ref k7, .ref k8, .ref k9, .ref k10, .ref k11, .ref k12, .ref k13, .ref k14]))] [(cr, .inr (4, [.int 0, .ref c1, .ref c2, .ref c3, .ref c4, .ref c5])), (te, .inr (8, [.int 0, .ref t1, .ref t2, .ref t3]))] [2, 3, 4] [0, 1] := ⟨rfl, rfl, by decide, by decide, by decide⟩
                        refine sx_xki (sx_xrunV (As := [.int 1]) (rest := [.long 7245720373955330547]) F (m_X7_touched l hfl G H.size h b pl cr te ca a0 a1 a3 a4 a5 a6 a7 a8 a9 k2 k3 k4 k5 k6 k7 k8 k9 k10 k11 k12 k13 k14 1) mi_X7_touched q652 qs_X7_touched q651 ⟨⟨Nat.le_of_ble_eq_true rfl, Nat.le_of_ble_eq_true rfl⟩, Nat.le_of_ble_eq_true rfl, Nat.le_of_ble_eq_true rfl⟩ hcut hP hD hS 2 9 rfl rfl rfl hl.1 rfl (Nat.le_of_ble_eq_true rfl) dX7_digest_283) hcut hP hD hS hA (fun E ce q9 H locs hw9 hP hD hS hce hcv hcl => ?_) (fun r_76 u_74 H locs w_75 hP hD hS => ?_)
                        · have hP : va_P (sx_D G) vwCl [(cr, .inr (4, [.int 0, .ref c1, .ref c2, .ref c3, .ref c4, .ref c5])), (te, .inr (8, [.int 0, .ref t1, .ref t2, .ref t3]))] H := hP
                          have hD : va_D A [(cr, .inr (4, [.int 0, .ref c1, .ref c2, .ref c3, .ref c4, .ref c5])), (te, .inr (8, [.int 0, .ref t1, .ref t2, .ref t3]))] := hD
                          exact absurd hw9.2 (by decide +kernel)
                        · have hP : va_P (sx_D G) vwCl [(cr, .inr (4, [.int 0, .ref c1, .ref c2, .ref c3, .ref c4, .ref c5])), (te, .inr (8, [.int 0, .ref t1, .ref t2, .ref t3])), (h, .inr (9, [.ref b, .ref pl, .ref cr, .ref te, .ref ca])), (pl, .inr (6, [.ref a0, .ref a1, .int 0, .ref a3, .ref a4, .ref a5, .ref a6, .ref a7, .ref a8, .ref a9])), (ca, .inr (3, [.int 0, .int 0, .ref k2, .ref k3, .ref k4, .ref k5, .ref k6, .ref k7, .ref k8, .ref k9, .ref k10, .ref k11, .ref k12, .ref k13, .ref k14]))] H := hP
                          have hD : va_D A [(cr, .inr (4, [.int 0, .ref c1, .ref c2, .ref c3, .ref c4, .ref c5])), (te, .inr (8, [.int 0, .ref t1, .ref t2, .ref t3])), (h, .inr (9, [.ref b, .ref pl, .ref cr, .ref te, .ref ca])), (pl, .inr (6, [.ref a0, .ref a1, .int 0, .ref a3, .ref a4, .ref a5, .ref a6, .ref a7, .ref a8, .ref a9])), (ca, .inr (3, [.int 0, .int 0, .ref k2, .ref k3, .ref k4, .ref k5, .ref k6, .ref k7, .ref k8, .ref k9, .ref k10, .ref k11, .ref k12, .ref k13, .ref k14]))] := hD
                          have er_76 : r_76 = 0 := w_75.1
                          subst er_76
                          refine lv_i2l (v := 0) hx hb dX7_digest_286 (by decide) ?_
                          refine lv_ladd hx hb dX7_digest_287 ?_
                          refine lv_topl (fun x_77 ex_77 => ?_)
                          have ex_77 : x_77 = (7245720373955330547 : Int64) := ex_77.trans (by decide +kernel)
                          subst ex_77
                          refine lv_lstore_n (lv' := [(1, .long 7245720373955330547), (3, .int 1), (0, .ref h)]) hx hb dX7_digest_288 rfl hl (by decide) rfl (fun ls hl => ?_)
                          refine lv_iinc (v := 2) (lv' := [(3, .int 2), (1, .long 7245720373955330547), (0, .ref h)]) hx hb dX7_digest_289 hl (k := 1) rfl (by decide) (by decide) rfl (fun ls hl => ?_)
                          refine lv_goto (tgt := 270) hx hb dX7_digest_292 (by decide) ?_
                          refine lv_iload_n hx hb dX7_digest_270 rfl (lv_at hl 0 rfl) ?_
                          refine lv_bipush (v := 8) hx hb dX7_digest_271 (by decide) ?_
                          refine lv_icmp_ge (tgt := 295) hx hb dX7_digest_273 (by decide) (fun c_78 => absurd c_78 (by decide)) (fun c_78 => ?_)
                          refine lv_lload_n hx hb dX7_digest_276 rfl (lv_at hl 1 rfl) ?_
                          refine lv_ldc2 (v := 31) hx hb hown (hts _ q362) dX7_digest_277 ?_
                          refine lv_lmul hx hb dX7_digest_280 ?_
                          refine lv_topl (fun x_79 ex_79 => ?_)
                          have ex_79 : x_79 = (3256402708100627565 : Int64) := ex_79.trans (by decide +kernel)
                          subst ex_79
                          refine lv_aload_n hx hb dX7_digest_281 rfl (lv_at hl 2 rfl) ?_
                          refine lv_iload_n hx hb dX7_digest_282 rfl (lv_at hl 0 rfl) ?_
                          have hcut : sx_cut [(cr, .inr (4, [.int 0, .ref c1, .ref c2, .ref c3, .ref c4, .ref c5])), (te, .inr (8, [.int 0, .ref t1, .ref t2, .ref t3])), (h, .inr (9, [.ref b, .ref pl, .ref cr, .ref te, .ref ca])), (pl, .inr (6, [.ref a0, .ref a1, .int 0, .ref a3, .ref a4, .ref a5, .ref a6, .ref a7, .ref a8, .ref a9])), (ca, .inr (3, [.int 0, .int 0, .ref k2, .ref k3, .ref k4, .ref k5, .ref k6, .ref k7, .ref k8, .ref k9, .ref k10, .ref k11, .ref k12, .ref k13, .ref k14]))] [(h, .inr (9, [.ref b, .ref pl, .ref cr, .ref te, .ref ca])), (pl, .inr (6, [.ref a0, .ref a1, .int 0, .ref a3, .ref a4, .ref a5, .ref a6, .ref a7, .ref a8, .ref a9])), (ca, .inr (3, [.int 0, .int 0, .ref k2, .ref k3, .ref k4, .ref k5, .ref k6, .ref k7, .ref k8, .ref k9, .ref k10, .ref k11, .ref k12, .ref k13, .ref k14]))] [(cr, .inr (4, [.int 0, .ref c1, .ref c2, .ref c3, .ref c4, .ref c5])), (te, .inr (8, [.int 0, .ref t1, .ref t2, .ref t3]))] [2, 3, 4] [0, 1] := ⟨rfl, rfl, by decide, by decide, by decide⟩
                          refine sx_xki (sx_xrunV (As := [.int 2]) (rest := [.long 3256402708100627565]) F (m_X7_touched l hfl G H.size h b pl cr te ca a0 a1 a3 a4 a5 a6 a7 a8 a9 k2 k3 k4 k5 k6 k7 k8 k9 k10 k11 k12 k13 k14 2) mi_X7_touched q652 qs_X7_touched q651 ⟨⟨Nat.le_of_ble_eq_true rfl, Nat.le_of_ble_eq_true rfl⟩, Nat.le_of_ble_eq_true rfl, Nat.le_of_ble_eq_true rfl⟩ hcut hP hD hS 2 9 rfl rfl rfl hl.1 rfl (Nat.le_of_ble_eq_true rfl) dX7_digest_283) hcut hP hD hS hA (fun E ce q9 H locs hw9 hP hD hS hce hcv hcl => ?_) (fun r_82 u_80 H locs w_81 hP hD hS => ?_)
                          · have hP : va_P (sx_D G) vwCl [(cr, .inr (4, [.int 0, .ref c1, .ref c2, .ref c3, .ref c4, .ref c5])), (te, .inr (8, [.int 0, .ref t1, .ref t2, .ref t3]))] H := hP
                            have hD : va_D A [(cr, .inr (4, [.int 0, .ref c1, .ref c2, .ref c3, .ref c4, .ref c5])), (te, .inr (8, [.int 0, .ref t1, .ref t2, .ref t3]))] := hD
                            exact absurd hw9.2 (by decide +kernel)
                          · have hP : va_P (sx_D G) vwCl [(cr, .inr (4, [.int 0, .ref c1, .ref c2, .ref c3, .ref c4, .ref c5])), (te, .inr (8, [.int 0, .ref t1, .ref t2, .ref t3])), (h, .inr (9, [.ref b, .ref pl, .ref cr, .ref te, .ref ca])), (pl, .inr (6, [.ref a0, .ref a1, .int 0, .ref a3, .ref a4, .ref a5, .ref a6, .ref a7, .ref a8, .ref a9])), (ca, .inr (3, [.int 0, .int 0, .ref k2, .ref k3, .ref k4, .ref k5, .ref k6, .ref k7, .ref k8, .ref k9, .ref k10, .ref k11, .ref k12, .ref k13, .ref k14]))] H := hP
                            have hD : va_D A [(cr, .inr (4, [.int 0, .ref c1, .ref c2, .ref c3, .ref c4, .ref c5])), (te, .inr (8, [.int 0, .ref t1, .ref t2, .ref t3])), (h, .inr (9, [.ref b, .ref pl, .ref cr, .ref te, .ref ca])), (pl, .inr (6, [.ref a0, .ref a1, .int 0, .ref a3, .ref a4, .ref a5, .ref a6, .ref a7, .ref a8, .ref a9])), (ca, .inr (3, [.int 0, .int 0, .ref k2, .ref k3, .ref k4, .ref k5, .ref k6, .ref k7, .ref k8, .ref k9, .ref k10, .ref k11, .ref k12, .ref k13, .ref k14]))] := hD
                            have er_82 : r_82 = 0 := w_81.1
                            subst er_82
                            refine lv_i2l (v := 0) hx hb dX7_digest_286 (by decide) ?_
                            refine lv_ladd hx hb dX7_digest_287 ?_
                            refine lv_topl (fun x_83 ex_83 => ?_)
                            have ex_83 : x_83 = (3256402708100627565 : Int64) := ex_83.trans (by decide +kernel)
                            subst ex_83
                            refine lv_lstore_n (lv' := [(1, .long 3256402708100627565), (3, .int 2), (0, .ref h)]) hx hb dX7_digest_288 rfl hl (by decide) rfl (fun ls hl => ?_)
                            refine lv_iinc (v := 3) (lv' := [(3, .int 3), (1, .long 3256402708100627565), (0, .ref h)]) hx hb dX7_digest_289 hl (k := 1) rfl (by decide) (by decide) rfl (fun ls hl => ?_)
                            refine lv_goto (tgt := 270) hx hb dX7_digest_292 (by decide) ?_
                            refine lv_iload_n hx hb dX7_digest_270 rfl (lv_at hl 0 rfl) ?_
                            refine lv_bipush (v := 8) hx hb dX7_digest_271 (by decide) ?_
                            refine lv_icmp_ge (tgt := 295) hx hb dX7_digest_273 (by decide) (fun c_84 => absurd c_84 (by decide)) (fun c_84 => ?_)
                            refine lv_lload_n hx hb dX7_digest_276 rfl (lv_at hl 1 rfl) ?_
                            refine lv_ldc2 (v := 31) hx hb hown (hts _ q362) dX7_digest_277 ?_
                            refine lv_lmul hx hb dX7_digest_280 ?_
                            refine lv_topl (fun x_85 ex_85 => ?_)
                            have ex_85 : x_85 = (8714763582571696435 : Int64) := ex_85.trans (by decide +kernel)
                            subst ex_85
                            refine lv_aload_n hx hb dX7_digest_281 rfl (lv_at hl 2 rfl) ?_
                            refine lv_iload_n hx hb dX7_digest_282 rfl (lv_at hl 0 rfl) ?_
                            have hcut : sx_cut [(cr, .inr (4, [.int 0, .ref c1, .ref c2, .ref c3, .ref c4, .ref c5])), (te, .inr (8, [.int 0, .ref t1, .ref t2, .ref t3])), (h, .inr (9, [.ref b, .ref pl, .ref cr, .ref te, .ref ca])), (pl, .inr (6, [.ref a0, .ref a1, .int 0, .ref a3, .ref a4, .ref a5, .ref a6, .ref a7, .ref a8, .ref a9])), (ca, .inr (3, [.int 0, .int 0, .ref k2, .ref k3, .ref k4, .ref k5, .ref k6, .ref k7, .ref k8, .ref k9, .ref k10, .ref k11, .ref k12, .ref k13, .ref k14]))] [(h, .inr (9, [.ref b, .ref pl, .ref cr, .ref te, .ref ca])), (pl, .inr (6, [.ref a0, .ref a1, .int 0, .ref a3, .ref a4, .ref a5, .ref a6, .ref a7, .ref a8, .ref a9])), (ca, .inr (3, [.int 0, .int 0, .ref k2, .ref k3, .ref k4, .ref k5, .ref k6, .ref k7, .ref k8, .ref k9, .ref k10, .ref k11, .ref k12, .ref k13, .ref k14]))] [(cr, .inr (4, [.int 0, .ref c1, .ref c2, .ref c3, .ref c4, .ref c5])), (te, .inr (8, [.int 0, .ref t1, .ref t2, .ref t3]))] [2, 3, 4] [0, 1] := ⟨rfl, rfl, by decide, by decide, by decide⟩
                            refine sx_xki (sx_xrunV (As := [.int 3]) (rest := [.long 8714763582571696435]) F (m_X7_touched l hfl G H.size h b pl cr te ca a0 a1 a3 a4 a5 a6 a7 a8 a9 k2 k3 k4 k5 k6 k7 k8 k9 k10 k11 k12 k13 k14 3) mi_X7_touched q652 qs_X7_touched q651 ⟨⟨Nat.le_of_ble_eq_true rfl, Nat.le_of_ble_eq_true rfl⟩, Nat.le_of_ble_eq_true rfl, Nat.le_of_ble_eq_true rfl⟩ hcut hP hD hS 2 9 rfl rfl rfl hl.1 rfl (Nat.le_of_ble_eq_true rfl) dX7_digest_283) hcut hP hD hS hA (fun E ce q9 H locs hw9 hP hD hS hce hcv hcl => ?_) (fun r_88 u_86 H locs w_87 hP hD hS => ?_)
                            · have hP : va_P (sx_D G) vwCl [(cr, .inr (4, [.int 0, .ref c1, .ref c2, .ref c3, .ref c4, .ref c5])), (te, .inr (8, [.int 0, .ref t1, .ref t2, .ref t3]))] H := hP
                              have hD : va_D A [(cr, .inr (4, [.int 0, .ref c1, .ref c2, .ref c3, .ref c4, .ref c5])), (te, .inr (8, [.int 0, .ref t1, .ref t2, .ref t3]))] := hD
                              exact absurd hw9.2 (by decide +kernel)
                            · have hP : va_P (sx_D G) vwCl [(cr, .inr (4, [.int 0, .ref c1, .ref c2, .ref c3, .ref c4, .ref c5])), (te, .inr (8, [.int 0, .ref t1, .ref t2, .ref t3])), (h, .inr (9, [.ref b, .ref pl, .ref cr, .ref te, .ref ca])), (pl, .inr (6, [.ref a0, .ref a1, .int 0, .ref a3, .ref a4, .ref a5, .ref a6, .ref a7, .ref a8, .ref a9])), (ca, .inr (3, [.int 0, .int 0, .ref k2, .ref k3, .ref k4, .ref k5, .ref k6, .ref k7, .ref k8, .ref k9, .ref k10, .ref k11, .ref k12, .ref k13, .ref k14]))] H := hP
                              have hD : va_D A [(cr, .inr (4, [.int 0, .ref c1, .ref c2, .ref c3, .ref c4, .ref c5])), (te, .inr (8, [.int 0, .ref t1, .ref t2, .ref t3])), (h, .inr (9, [.ref b, .ref pl, .ref cr, .ref te, .ref ca])), (pl, .inr (6, [.ref a0, .ref a1, .int 0, .ref a3, .ref a4, .ref a5, .ref a6, .ref a7, .ref a8, .ref a9])), (ca, .inr (3, [.int 0, .int 0, .ref k2, .ref k3, .ref k4, .ref k5, .ref k6, .ref k7, .ref k8, .ref k9, .ref k10, .ref k11, .ref k12, .ref k13, .ref k14]))] := hD
                              have er_88 : r_88 = 0 := w_87.1
                              subst er_88
                              refine lv_i2l (v := 0) hx hb dX7_digest_286 (by decide) ?_
                              refine lv_ladd hx hb dX7_digest_287 ?_
                              refine lv_topl (fun x_89 ex_89 => ?_)
                              have ex_89 : x_89 = (8714763582571696435 : Int64) := ex_89.trans (by decide +kernel)
                              subst ex_89
                              refine lv_lstore_n (lv' := [(1, .long 8714763582571696435), (3, .int 3), (0, .ref h)]) hx hb dX7_digest_288 rfl hl (by decide) rfl (fun ls hl => ?_)
                              refine lv_iinc (v := 4) (lv' := [(3, .int 4), (1, .long 8714763582571696435), (0, .ref h)]) hx hb dX7_digest_289 hl (k := 1) rfl (by decide) (by decide) rfl (fun ls hl => ?_)
                              refine lv_goto (tgt := 270) hx hb dX7_digest_292 (by decide) ?_
                              refine lv_iload_n hx hb dX7_digest_270 rfl (lv_at hl 0 rfl) ?_
                              refine lv_bipush (v := 8) hx hb dX7_digest_271 (by decide) ?_
                              refine lv_icmp_ge (tgt := 295) hx hb dX7_digest_273 (by decide) (fun c_90 => absurd c_90 (by decide)) (fun c_90 => ?_)
                              refine lv_lload_n hx hb dX7_digest_276 rfl (lv_at hl 1 rfl) ?_
                              refine lv_ldc2 (v := 31) hx hb hown (hts _ q362) dX7_digest_277 ?_
                              refine lv_lmul hx hb dX7_digest_280 ?_
                              refine lv_topl (fun x_91 ex_91 => ?_)
                              have ex_91 : x_91 = ((-6543490045920684755) : Int64) := ex_91.trans (by decide +kernel)
                              subst ex_91
                              refine lv_aload_n hx hb dX7_digest_281 rfl (lv_at hl 2 rfl) ?_
                              refine lv_iload_n hx hb dX7_digest_282 rfl (lv_at hl 0 rfl) ?_
                              have hcut : sx_cut [(cr, .inr (4, [.int 0, .ref c1, .ref c2, .ref c3, .ref c4, .ref c5])), (te, .inr (8, [.int 0, .ref t1, .ref t2, .ref t3])), (h, .inr (9, [.ref b, .ref pl, .ref cr, .ref te, .ref ca])), (pl, .inr (6, [.ref a0, .ref a1, .int 0, .ref a3, .ref a4, .ref a5, .ref a6, .ref a7, .ref a8, .ref a9])), (ca, .inr (3, [.int 0, .int 0, .ref k2, .ref k3, .ref k4, .ref k5, .ref k6, .ref k7, .ref k8, .ref k9, .ref k10, .ref k11, .ref k12, .ref k13, .ref k14]))] [(h, .inr (9, [.ref b, .ref pl, .ref cr, .ref te, .ref ca])), (pl, .inr (6, [.ref a0, .ref a1, .int 0, .ref a3, .ref a4, .ref a5, .ref a6, .ref a7, .ref a8, .ref a9])), (ca, .inr (3, [.int 0, .int 0, .ref k2, .ref k3, .ref k4, .ref k5, .ref k6, .ref k7, .ref k8, .ref k9, .ref k10, .ref k11, .ref k12, .ref k13, .ref k14]))] [(cr, .inr (4, [.int 0, .ref c1, .ref c2, .ref c3, .ref c4, .ref c5])), (te, .inr (8, [.int 0, .ref t1, .ref t2, .ref t3]))] [2, 3, 4] [0, 1] := ⟨rfl, rfl, by decide, by decide, by decide⟩
                              refine sx_xki (sx_xrunV (As := [.int 4]) (rest := [.long (-6543490045920684755)]) F (m_X7_touched l hfl G H.size h b pl cr te ca a0 a1 a3 a4 a5 a6 a7 a8 a9 k2 k3 k4 k5 k6 k7 k8 k9 k10 k11 k12 k13 k14 4) mi_X7_touched q652 qs_X7_touched q651 ⟨⟨Nat.le_of_ble_eq_true rfl, Nat.le_of_ble_eq_true rfl⟩, Nat.le_of_ble_eq_true rfl, Nat.le_of_ble_eq_true rfl⟩ hcut hP hD hS 2 9 rfl rfl rfl hl.1 rfl (Nat.le_of_ble_eq_true rfl) dX7_digest_283) hcut hP hD hS hA (fun E ce q9 H locs hw9 hP hD hS hce hcv hcl => ?_) (fun r_94 u_92 H locs w_93 hP hD hS => ?_)
                              · have hP : va_P (sx_D G) vwCl [(cr, .inr (4, [.int 0, .ref c1, .ref c2, .ref c3, .ref c4, .ref c5])), (te, .inr (8, [.int 0, .ref t1, .ref t2, .ref t3]))] H := hP
                                have hD : va_D A [(cr, .inr (4, [.int 0, .ref c1, .ref c2, .ref c3, .ref c4, .ref c5])), (te, .inr (8, [.int 0, .ref t1, .ref t2, .ref t3]))] := hD
                                exact absurd hw9.2 (by decide +kernel)
                              · have hP : va_P (sx_D G) vwCl [(cr, .inr (4, [.int 0, .ref c1, .ref c2, .ref c3, .ref c4, .ref c5])), (te, .inr (8, [.int 0, .ref t1, .ref t2, .ref t3])), (h, .inr (9, [.ref b, .ref pl, .ref cr, .ref te, .ref ca])), (pl, .inr (6, [.ref a0, .ref a1, .int 0, .ref a3, .ref a4, .ref a5, .ref a6, .ref a7, .ref a8, .ref a9])), (ca, .inr (3, [.int 0, .int 0, .ref k2, .ref k3, .ref k4, .ref k5, .ref k6, .ref k7, .ref k8, .ref k9, .ref k10, .ref k11, .ref k12, .ref k13, .ref k14]))] H := hP
                                have hD : va_D A [(cr, .inr (4, [.int 0, .ref c1, .ref c2, .ref c3, .ref c4, .ref c5])), (te, .inr (8, [.int 0, .ref t1, .ref t2, .ref t3])), (h, .inr (9, [.ref b, .ref pl, .ref cr, .ref te, .ref ca])), (pl, .inr (6, [.ref a0, .ref a1, .int 0, .ref a3, .ref a4, .ref a5, .ref a6, .ref a7, .ref a8, .ref a9])), (ca, .inr (3, [.int 0, .int 0, .ref k2, .ref k3, .ref k4, .ref k5, .ref k6, .ref k7, .ref k8, .ref k9, .ref k10, .ref k11, .ref k12, .ref k13, .ref k14]))] := hD
                                have er_94 : r_94 = 0 := w_93.1
                                subst er_94
                                refine lv_i2l (v := 0) hx hb dX7_digest_286 (by decide) ?_
                                refine lv_ladd hx hb dX7_digest_287 ?_
                                refine lv_topl (fun x_95 ex_95 => ?_)
                                have ex_95 : x_95 = ((-6543490045920684755) : Int64) := ex_95.trans (by decide +kernel)
                                subst ex_95
                                refine lv_lstore_n (lv' := [(1, .long (-6543490045920684755)), (3, .int 4), (0, .ref h)]) hx hb dX7_digest_288 rfl hl (by decide) rfl (fun ls hl => ?_)
                                refine lv_iinc (v := 5) (lv' := [(3, .int 5), (1, .long (-6543490045920684755)), (0, .ref h)]) hx hb dX7_digest_289 hl (k := 1) rfl (by decide) (by decide) rfl (fun ls hl => ?_)
                                refine lv_goto (tgt := 270) hx hb dX7_digest_292 (by decide) ?_
                                refine lv_iload_n hx hb dX7_digest_270 rfl (lv_at hl 0 rfl) ?_
                                refine lv_bipush (v := 8) hx hb dX7_digest_271 (by decide) ?_
                                refine lv_icmp_ge (tgt := 295) hx hb dX7_digest_273 (by decide) (fun c_96 => absurd c_96 (by decide)) (fun c_96 => ?_)
                                refine lv_lload_n hx hb dX7_digest_276 rfl (lv_at hl 1 rfl) ?_
                                refine lv_ldc2 (v := 31) hx hb hown (hts _ q362) dX7_digest_277 ?_
                                refine lv_lmul hx hb dX7_digest_280 ?_
                                refine lv_topl (fun x_97 ex_97 => ?_)
                                have ex_97 : x_97 = (65993387263840371 : Int64) := ex_97.trans (by decide +kernel)
                                subst ex_97
                                refine lv_aload_n hx hb dX7_digest_281 rfl (lv_at hl 2 rfl) ?_
                                refine lv_iload_n hx hb dX7_digest_282 rfl (lv_at hl 0 rfl) ?_
                                have hcut : sx_cut [(cr, .inr (4, [.int 0, .ref c1, .ref c2, .ref c3, .ref c4, .ref c5])), (te, .inr (8, [.int 0, .ref t1, .ref t2, .ref t3])), (h, .inr (9, [.ref b, .ref pl, .ref cr, .ref te, .ref ca])), (pl, .inr (6, [.ref a0, .ref a1, .int 0, .ref a3, .ref a4, .ref a5, .ref a6, .ref a7, .ref a8, .ref a9])), (ca, .inr (3, [.int 0, .int 0, .ref k2, .ref k3, .ref k4, .ref k5, .ref k6, .ref k7, .ref k8, .ref k9, .ref k10, .ref k11, .ref k12, .ref k13, .ref k14]))] [(h, .inr (9, [.ref b, .ref pl, .ref cr, .ref te, .ref ca])), (pl, .inr (6, [.ref a0, .ref a1, .int 0, .ref a3, .ref a4, .ref a5, .ref a6, .ref a7, .ref a8, .ref a9])), (ca, .inr (3, [.int 0, .int 0, .ref k2, .ref k3, .ref k4, .ref k5, .ref k6, .ref k7, .ref k8, .ref k9, .ref k10, .ref k11, .ref k12, .ref k13, .ref k14]))] [(cr, .inr (4, [.int 0, .ref c1, .ref c2, .ref c3, .ref c4, .ref c5])), (te, .inr (8, [.int 0, .ref t1, .ref t2, .ref t3]))] [2, 3, 4] [0, 1] := ⟨rfl, rfl, by decide, by decide, by decide⟩
                                refine sx_xki (sx_xrunV (As := [.int 5]) (rest := [.long 65993387263840371]) F (m_X7_touched l hfl G H.size h b pl cr te ca a0 a1 a3 a4 a5 a6 a7 a8 a9 k2 k3 k4 k5 k6 k7 k8 k9 k10 k11 k12 k13 k14 5) mi_X7_touched q652 qs_X7_touched q651 ⟨⟨Nat.le_of_ble_eq_true rfl, Nat.le_of_ble_eq_true rfl⟩, Nat.le_of_ble_eq_true rfl, Nat.le_of_ble_eq_true rfl⟩ hcut hP hD hS 2 9 rfl rfl rfl hl.1 rfl (Nat.le_of_ble_eq_true rfl) dX7_digest_283) hcut hP hD hS hA (fun E ce q9 H locs hw9 hP hD hS hce hcv hcl => ?_) (fun r_100 u_98 H locs w_99 hP hD hS => ?_)
                                · have hP : va_P (sx_D G) vwCl [(cr, .inr (4, [.int 0, .ref c1, .ref c2, .ref c3, .ref c4, .ref c5])), (te, .inr (8, [.int 0, .ref t1, .ref t2, .ref t3]))] H := hP
                                  have hD : va_D A [(cr, .inr (4, [.int 0, .ref c1, .ref c2, .ref c3, .ref c4, .ref c5])), (te, .inr (8, [.int 0, .ref t1, .ref t2, .ref t3]))] := hD
                                  exact absurd hw9.2 (by decide +kernel)
                                · have hP : va_P (sx_D G) vwCl [(cr, .inr (4, [.int 0, .ref c1, .ref c2, .ref c3, .ref c4, .ref c5])), (te, .inr (8, [.int 0, .ref t1, .ref t2, .ref t3])), (h, .inr (9, [.ref b, .ref pl, .ref cr, .ref te, .ref ca])), (pl, .inr (6, [.ref a0, .ref a1, .int 0, .ref a3, .ref a4, .ref a5, .ref a6, .ref a7, .ref a8, .ref a9])), (ca, .inr (3, [.int 0, .int 0, .ref k2, .ref k3, .ref k4, .ref k5, .ref k6, .ref k7, .ref k8, .ref k9, .ref k10, .ref k11, .ref k12, .ref k13, .ref k14]))] H := hP
                                  have hD : va_D A [(cr, .inr (4, [.int 0, .ref c1, .ref c2, .ref c3, .ref c4, .ref c5])), (te, .inr (8, [.int 0, .ref t1, .ref t2, .ref t3])), (h, .inr (9, [.ref b, .ref pl, .ref cr, .ref te, .ref ca])), (pl, .inr (6, [.ref a0, .ref a1, .int 0, .ref a3, .ref a4, .ref a5, .ref a6, .ref a7, .ref a8, .ref a9])), (ca, .inr (3, [.int 0, .int 0, .ref k2, .ref k3, .ref k4, .ref k5, .ref k6, .ref k7, .ref k8, .ref k9, .ref k10, .ref k11, .ref k12, .ref k13, .ref k14]))] := hD
                                  have er_100 : r_100 = 0 := w_99.1
                                  subst er_100
                                  refine lv_i2l (v := 0) hx hb dX7_digest_286 (by decide) ?_
                                  refine lv_ladd hx hb dX7_digest_287 ?_
                                  refine lv_topl (fun x_101 ex_101 => ?_)
                                  have ex_101 : x_101 = (65993387263840371 : Int64) := ex_101.trans (by decide +kernel)
                                  subst ex_101
                                  refine lv_lstore_n (lv' := [(1, .long 65993387263840371), (3, .int 5), (0, .ref h)]) hx hb dX7_digest_288 rfl hl (by decide) rfl (fun ls hl => ?_)
                                  refine lv_iinc (v := 6) (lv' := [(3, .int 6), (1, .long 65993387263840371), (0, .ref h)]) hx hb dX7_digest_289 hl (k := 1) rfl (by decide) (by decide) rfl (fun ls hl => ?_)
                                  refine lv_goto (tgt := 270) hx hb dX7_digest_292 (by decide) ?_
                                  refine lv_iload_n hx hb dX7_digest_270 rfl (lv_at hl 0 rfl) ?_
                                  refine lv_bipush (v := 8) hx hb dX7_digest_271 (by decide) ?_
                                  refine lv_icmp_ge (tgt := 295) hx hb dX7_digest_273 (by decide) (fun c_102 => absurd c_102 (by decide)) (fun c_102 => ?_)
                                  refine lv_lload_n hx hb dX7_digest_276 rfl (lv_at hl 1 rfl) ?_
                                  refine lv_ldc2 (v := 31) hx hb hown (hts _ q362) dX7_digest_277 ?_
                                  refine lv_lmul hx hb dX7_digest_280 ?_
                                  refine lv_topl (fun x_103 ex_103 => ?_)
                                  have ex_103 : x_103 = (2045795005179051501 : Int64) := ex_103.trans (by decide +kernel)
                                  subst ex_103
                                  refine lv_aload_n hx hb dX7_digest_281 rfl (lv_at hl 2 rfl) ?_
                                  refine lv_iload_n hx hb dX7_digest_282 rfl (lv_at hl 0 rfl) ?_
                                  have hcut : sx_cut [(cr, .inr (4, [.int 0, .ref c1, .ref c2, .ref c3, .ref c4, .ref c5])), (te, .inr (8, [.int 0, .ref t1, .ref t2, .ref t3])), (h, .inr (9, [.ref b, .ref pl, .ref cr, .ref te, .ref ca])), (pl, .inr (6, [.ref a0, .ref a1, .int 0, .ref a3, .ref a4, .ref a5, .ref a6, .ref a7, .ref a8, .ref a9])), (ca, .inr (3, [.int 0, .int 0, .ref k2, .ref k3, .ref k4, .ref k5, .ref k6, .ref k7, .ref k8, .ref k9, .ref k10, .ref k11, .ref k12, .ref k13, .ref k14]))] [(h, .inr (9, [.ref b, .ref pl, .ref cr, .ref te, .ref ca])), (pl, .inr (6, [.ref a0, .ref a1, .int 0, .ref a3, .ref a4, .ref a5, .ref a6, .ref a7, .ref a8, .ref a9])), (ca, .inr (3, [.int 0, .int 0, .ref k2, .ref k3, .ref k4, .ref k5, .ref k6, .ref k7, .ref k8, .ref k9, .ref k10, .ref k11, .ref k12, .ref k13, .ref k14]))] [(cr, .inr (4, [.int 0, .ref c1, .ref c2, .ref c3, .ref c4, .ref c5])), (te, .inr (8, [.int 0, .ref t1, .ref t2, .ref t3]))] [2, 3, 4] [0, 1] := ⟨rfl, rfl, by decide, by decide, by decide⟩
                                  refine sx_xki (sx_xrunV (As := [.int 6]) (rest := [.long 2045795005179051501]) F (m_X7_touched l hfl G H.size h b pl cr te ca a0 a1 a3 a4 a5 a6 a7 a8 a9 k2 k3 k4 k5 k6 k7 k8 k9 k10 k11 k12 k13 k14 6) mi_X7_touched q652 qs_X7_touched q651 ⟨⟨Nat.le_of_ble_eq_true rfl, Nat.le_of_ble_eq_true rfl⟩, Nat.le_of_ble_eq_true rfl, Nat.le_of_ble_eq_true rfl⟩ hcut hP hD hS 2 9 rfl rfl rfl hl.1 rfl (Nat.le_of_ble_eq_true rfl) dX7_digest_283) hcut hP hD hS hA (fun E ce q9 H locs hw9 hP hD hS hce hcv hcl => ?_) (fun r_106 u_104 H locs w_105 hP hD hS => ?_)
                                  · have hP : va_P (sx_D G) vwCl [(cr, .inr (4, [.int 0, .ref c1, .ref c2, .ref c3, .ref c4, .ref c5])), (te, .inr (8, [.int 0, .ref t1, .ref t2, .ref t3]))] H := hP
                                    have hD : va_D A [(cr, .inr (4, [.int 0, .ref c1, .ref c2, .ref c3, .ref c4, .ref c5])), (te, .inr (8, [.int 0, .ref t1, .ref t2, .ref t3]))] := hD
                                    exact absurd hw9.2 (by decide +kernel)
                                  · have hP : va_P (sx_D G) vwCl [(cr, .inr (4, [.int 0, .ref c1, .ref c2, .ref c3, .ref c4, .ref c5])), (te, .inr (8, [.int 0, .ref t1, .ref t2, .ref t3])), (h, .inr (9, [.ref b, .ref pl, .ref cr, .ref te, .ref ca])), (pl, .inr (6, [.ref a0, .ref a1, .int 0, .ref a3, .ref a4, .ref a5, .ref a6, .ref a7, .ref a8, .ref a9])), (ca, .inr (3, [.int 0, .int 0, .ref k2, .ref k3, .ref k4, .ref k5, .ref k6, .ref k7, .ref k8, .ref k9, .ref k10, .ref k11, .ref k12, .ref k13, .ref k14]))] H := hP
                                    have hD : va_D A [(cr, .inr (4, [.int 0, .ref c1, .ref c2, .ref c3, .ref c4, .ref c5])), (te, .inr (8, [.int 0, .ref t1, .ref t2, .ref t3])), (h, .inr (9, [.ref b, .ref pl, .ref cr, .ref te, .ref ca])), (pl, .inr (6, [.ref a0, .ref a1, .int 0, .ref a3, .ref a4, .ref a5, .ref a6, .ref a7, .ref a8, .ref a9])), (ca, .inr (3, [.int 0, .int 0, .ref k2, .ref k3, .ref k4, .ref k5, .ref k6, .ref k7, .ref k8, .ref k9, .ref k10, .ref k11, .ref k12, .ref k13, .ref k14]))] := hD
                                    have er_106 : r_106 = 0 := w_105.1
                                    subst er_106
                                    refine lv_i2l (v := 0) hx hb dX7_digest_286 (by decide) ?_
                                    refine lv_ladd hx hb dX7_digest_287 ?_
                                    refine lv_topl (fun x_107 ex_107 => ?_)
                                    have ex_107 : x_107 = (2045795005179051501 : Int64) := ex_107.trans (by decide +kernel)
                                    subst ex_107
                                    refine lv_lstore_n (lv' := [(1, .long 2045795005179051501), (3, .int 6), (0, .ref h)]) hx hb dX7_digest_288 rfl hl (by decide) rfl (fun ls hl => ?_)
                                    refine lv_iinc (v := 7) (lv' := [(3, .int 7), (1, .long 2045795005179051501), (0, .ref h)]) hx hb dX7_digest_289 hl (k := 1) rfl (by decide) (by decide) rfl (fun ls hl => ?_)
                                    refine lv_goto (tgt := 270) hx hb dX7_digest_292 (by decide) ?_
                                    refine lv_iload_n hx hb dX7_digest_270 rfl (lv_at hl 0 rfl) ?_
                                    refine lv_bipush (v := 8) hx hb dX7_digest_271 (by decide) ?_
                                    refine lv_icmp_ge (tgt := 295) hx hb dX7_digest_273 (by decide) (fun c_108 => absurd c_108 (by decide)) (fun c_108 => ?_)
                                    refine lv_lload_n hx hb dX7_digest_276 rfl (lv_at hl 1 rfl) ?_
                                    refine lv_ldc2 (v := 31) hx hb hown (hts _ q362) dX7_digest_277 ?_
                                    refine lv_lmul hx hb dX7_digest_280 ?_
                                    refine lv_topl (fun x_109 ex_109 => ?_)
                                    have ex_109 : x_109 = (8079412939421941683 : Int64) := ex_109.trans (by decide +kernel)
                                    subst ex_109
                                    refine lv_aload_n hx hb dX7_digest_281 rfl (lv_at hl 2 rfl) ?_
                                    refine lv_iload_n hx hb dX7_digest_282 rfl (lv_at hl 0 rfl) ?_
                                    have hcut : sx_cut [(cr, .inr (4, [.int 0, .ref c1, .ref c2, .ref c3, .ref c4, .ref c5])), (te, .inr (8, [.int 0, .ref t1, .ref t2, .ref t3])), (h, .inr (9, [.ref b, .ref pl, .ref cr, .ref te, .ref ca])), (pl, .inr (6, [.ref a0, .ref a1, .int 0, .ref a3, .ref a4, .ref a5, .ref a6, .ref a7, .ref a8, .ref a9])), (ca, .inr (3, [.int 0, .int 0, .ref k2, .ref k3, .ref k4, .ref k5, .ref k6, .ref k7, .ref k8, .ref k9, .ref k10, .ref k11, .ref k12, .ref k13, .ref k14]))] [(h, .inr (9, [.ref b, .ref pl, .ref cr, .ref te, .ref ca])), (pl, .inr (6, [.ref a0, .ref a1, .int 0, .ref a3, .ref a4, .ref a5, .ref a6, .ref a7, .ref a8, .ref a9])), (ca, .inr (3, [.int 0, .int 0, .ref k2, .ref k3, .ref k4, .ref k5, .ref k6, .ref k7, .ref k8, .ref k9, .ref k10, .ref k11, .ref k12, .ref k13, .ref k14]))] [(cr, .inr (4, [.int 0, .ref c1, .ref c2, .ref c3, .ref c4, .ref c5])), (te, .inr (8, [.int 0, .ref t1, .ref t2, .ref t3]))] [2, 3, 4] [0, 1] := ⟨rfl, rfl, by decide, by decide, by decide⟩
                                    refine sx_xki (sx_xrunV (As := [.int 7]) (rest := [.long 8079412939421941683]) F (m_X7_touched l hfl G H.size h b pl cr te ca a0 a1 a3 a4 a5 a6 a7 a8 a9 k2 k3 k4 k5 k6 k7 k8 k9 k10 k11 k12 k13 k14 7) mi_X7_touched q652 qs_X7_touched q651 ⟨⟨Nat.le_of_ble_eq_true rfl, Nat.le_of_ble_eq_true rfl⟩, Nat.le_of_ble_eq_true rfl, Nat.le_of_ble_eq_true rfl⟩ hcut hP hD hS 2 9 rfl rfl rfl hl.1 rfl (Nat.le_of_ble_eq_true rfl) dX7_digest_283) hcut hP hD hS hA (fun E ce q9 H locs hw9 hP hD hS hce hcv hcl => ?_) (fun r_112 u_110 H locs w_111 hP hD hS => ?_)
                                    · have hP : va_P (sx_D G) vwCl [(cr, .inr (4, [.int 0, .ref c1, .ref c2, .ref c3, .ref c4, .ref c5])), (te, .inr (8, [.int 0, .ref t1, .ref t2, .ref t3]))] H := hP
                                      have hD : va_D A [(cr, .inr (4, [.int 0, .ref c1, .ref c2, .ref c3, .ref c4, .ref c5])), (te, .inr (8, [.int 0, .ref t1, .ref t2, .ref t3]))] := hD
                                      exact absurd hw9.2 (by decide +kernel)
                                    · have hP : va_P (sx_D G) vwCl [(cr, .inr (4, [.int 0, .ref c1, .ref c2, .ref c3, .ref c4, .ref c5])), (te, .inr (8, [.int 0, .ref t1, .ref t2, .ref t3])), (h, .inr (9, [.ref b, .ref pl, .ref cr, .ref te, .ref ca])), (pl, .inr (6, [.ref a0, .ref a1, .int 0, .ref a3, .ref a4, .ref a5, .ref a6, .ref a7, .ref a8, .ref a9])), (ca, .inr (3, [.int 0, .int 0, .ref k2, .ref k3, .ref k4, .ref k5, .ref k6, .ref k7, .ref k8, .ref k9, .ref k10, .ref k11, .ref k12, .ref k13, .ref k14]))] H := hP
                                      have hD : va_D A [(cr, .inr (4, [.int 0, .ref c1, .ref c2, .ref c3, .ref c4, .ref c5])), (te, .inr (8, [.int 0, .ref t1, .ref t2, .ref t3])), (h, .inr (9, [.ref b, .ref pl, .ref cr, .ref te, .ref ca])), (pl, .inr (6, [.ref a0, .ref a1, .int 0, .ref a3, .ref a4, .ref a5, .ref a6, .ref a7, .ref a8, .ref a9])), (ca, .inr (3, [.int 0, .int 0, .ref k2, .ref k3, .ref k4, .ref k5, .ref k6, .ref k7, .ref k8, .ref k9, .ref k10, .ref k11, .ref k12, .ref k13, .ref k14]))] := hD
                                      have er_112 : r_112 = 0 := w_111.1
                                      subst er_112
                                      refine lv_i2l (v := 0) hx hb dX7_digest_286 (by decide) ?_
                                      refine lv_ladd hx hb dX7_digest_287 ?_
                                      refine lv_topl (fun x_113 ex_113 => ?_)
                                      have ex_113 : x_113 = (8079412939421941683 : Int64) := ex_113.trans (by decide +kernel)
                                      subst ex_113
                                      refine lv_lstore_n (lv' := [(1, .long 8079412939421941683), (3, .int 7), (0, .ref h)]) hx hb dX7_digest_288 rfl hl (by decide) rfl (fun ls hl => ?_)
                                      refine lv_iinc (v := 8) (lv' := [(3, .int 8), (1, .long 8079412939421941683), (0, .ref h)]) hx hb dX7_digest_289 hl (k := 1) rfl (by decide) (by decide) rfl (fun ls hl => ?_)
                                      refine lv_goto (tgt := 270) hx hb dX7_digest_292 (by decide) ?_
                                      refine lv_iload_n hx hb dX7_digest_270 rfl (lv_at hl 0 rfl) ?_
                                      refine lv_bipush (v := 8) hx hb dX7_digest_271 (by decide) ?_
                                      refine lv_icmp_ge (tgt := 295) hx hb dX7_digest_273 (by decide) (fun c_114 => ?_) (fun c_114 => absurd (by decide) c_114)
                                      refine lv_lload_n hx hb dX7_digest_295 rfl (lv_at hl 1 rfl) ?_
                                      have hP := hP.sub (ws' := []) [] rfl
                                      have hD := hD.sub (ws' := []) [] (by decide) rfl
                                      exact (sx_lret (v := 8079412939421941683) () hx hb hr hlk hP hD hS rfl dX7_digest_296 rfl rfl)
