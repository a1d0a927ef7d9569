/-! what the class's calls answer on a fresh object: 0 returned, 1 and 2 what was thrown -/
def z_file (a b : Int32) : Int32 := z2 (zw 0 7 a) (zw 0 99 b)
def z_set (a b : Int32) : Int32 := z2 (zw 0 5 a) (zw 0 9 b)
def z_action (a b c d e f : Int32) : Int32 := z1 (zw 0 255 a && (decide (b &&& (0 ^^^ (-1)) = 0) && (zw 0 63 c && (decide (d &&& (c ^^^ (-1)) = 0) && (zw 1 50 e && zw 1 20 f)))))
theorem z2_1 {a b : Bool} (h : a = false) : z2 a b = 1 := by rw [h]; rfl
theorem z2_2 {a b : Bool} (h : a = true) (h2 : b = false) : z2 a b = 2 := by rw [h, h2]; rfl
theorem z2_0 {a b : Bool} (h : a = true) (h2 : b = true) : z2 a b = 0 := by rw [h, h2]; rfl
theorem z1_1 {a : Bool} (h : a = false) : z1 a = 1 := by rw [h]; rfl
theorem z1_0 {a : Bool} (h : a = true) : z1 a = 0 := by rw [h]; rfl
theorem z_and {a b : Bool} (h : a = true) (h2 : b = true) : (a && b) = true := by rw [h, h2]; rfl
theorem z_n1 {a b : Bool} (h : a = false) : (a && b) = false := by rw [h]; rfl
theorem z_n2 {a b : Bool} (h : b = false) : (a && b) = false := by rw [h]; cases a <;> rfl
theorem z87 {i : Int32} {b : Bool} (h : zw 0 (8 - 1) i = b) : zw 0 7 i = b := h
theorem z65 {i : Int32} {b : Bool} (h : zw 0 (6 - 1) i = b) : zw 0 5 i = b := h
theorem zw_nat {hi n : Int32} {m : Nat} (h : zw 0 hi n = true) (hm : hi = nI m) (h31 : m < 2 ^ 31) : ∃ j : Nat, j ≤ m ∧ n = nI j := by
  have h1 := of_decide_eq_true h
  have h2 : ¬ n < 0 := Int32.not_lt.mpr h1.1
  exact nI_of2 (by rw [hm, nI_toInt h31]) h2 h1.2
set_option maxHeartbeats 4000000 in
set_option maxRecDepth 100000 in
theorem m_X7_file (l : Launch) (hfl : l.stackTraces = false) (G : sx_G) (sz : Nat) (h : Nat) (b : Nat) (pl : Nat) (cr : Nat) (te : Nat) (ca : Nat) (a0 : Nat) (a1 : Nat) (a3 : Nat) (a4 : Nat) (a5 : Nat) (a6 : Nat) (a7 : Nat) (a8 : Nat) (a9 : Nat) (p0 : Int32) (p1 : Int32) : sx_MetX l yX7_file cX7_file 4 (some .int) 7 103 2 12 G [.ref h, .int p0, .int p1] [(h, .inr (9, [.ref b, .ref pl, .ref cr, .ref te, .ref ca])), (pl, .inr (6, [.ref a0, .ref a1, .int 0, .ref a3, .ref a4, .ref a5, .ref a6, .ref a7, .ref a8, .ref a9])), (a0, .inl (G.2.1, 8, .inl (fun _ => 0)))] sz (sx_Qi G (fun (r : Int32) (u : Unit) => r = 0 ∧ z_file p0 p1 = 0) (fun (u : Unit) => [])) (fun E => (E = "java/lang/IndexOutOfBoundsException" ∧ z_file p0 p1 = 1) ∨ (E = "java/lang/IllegalArgumentException" ∧ z_file p0 p1 = 2)) := by
  refine sx_startX (by decide) rfl (fun p e s m below meth c A ls F hr hlk hnm hex hP hD hS hl => ?_)
  obtain ⟨hx, hb, hml, hown, hts, hK, hE, hA⟩ := id F
  have hown : s.vm.findClass RX7 = some m.cls := hown
  generalize hHe : s.heap = H at hP
  have hS : va_S A s.heap H [] := by rw [← hHe]; exact va_S.rf
  have hl : lv_has ls 4 [(0, .ref h), (1, .int p0), (2, .int p1)] := hl
  refine lv_iload_n hx hb dX7_file_0 rfl (lv_at hl 1 rfl) ?_
  refine lv_bipush (v := 8) hx hb dX7_file_1 (by decide) ?_
  have hcut : sx_cut [(h, .inr (9, [.ref b, .ref pl, .ref cr, .ref te, .ref ca])), (pl, .inr (6, [.ref a0, .ref a1, .int 0, .ref a3, .ref a4, .ref a5, .ref a6, .ref a7, .ref a8, .ref a9])), (a0, .inl (G.2.1, 8, .inl (fun _ => 0)))] [] [(h, .inr (9, [.ref b, .ref pl, .ref cr, .ref te, .ref ca])), (pl, .inr (6, [.ref a0, .ref a1, .int 0, .ref a3, .ref a4, .ref a5, .ref a6, .ref a7, .ref a8, .ref a9])), (a0, .inl (G.2.1, 8, .inl (fun _ => 0)))] [] [0, 1, 2] := ⟨rfl, rfl, by decide, by decide, by decide⟩
  refine sx_xkv (sx_xrunS (As := [.int p0, .int 8]) (rest := []) F (m_X7_needIndex l hfl G H.size p0 8) mi_X7_needIndex q454 q453 ⟨⟨Nat.le_of_ble_eq_true rfl, Nat.le_of_ble_eq_true rfl⟩, Nat.le_of_ble_eq_true rfl, Nat.le_of_ble_eq_true rfl⟩ hcut hP hD hS rfl hl.1 rfl (Nat.le_of_ble_eq_true rfl) dX7_file_3) hcut hP hD hS hA (fun E ce q9 H locs hw9 hP hD hS hce hcv hcl => ?_) (fun u_1 H locs w_2 hP hD hS => ?_)
  · have hP : va_P (sx_D G) vwCl [(h, .inr (9, [.ref b, .ref pl, .ref cr, .ref te, .ref ca])), (pl, .inr (6, [.ref a0, .ref a1, .int 0, .ref a3, .ref a4, .ref a5, .ref a6, .ref a7, .ref a8, .ref a9])), (a0, .inl (G.2.1, 8, .inl (fun _ => 0)))] H := hP
    have hD : va_D A [(h, .inr (9, [.ref b, .ref pl, .ref cr, .ref te, .ref ca])), (pl, .inr (6, [.ref a0, .ref a1, .int 0, .ref a3, .ref a4, .ref a5, .ref a6, .ref a7, .ref a8, .ref a9])), (a0, .inl (G.2.1, 8, .inl (fun _ => 0)))] := hD
    exact sx_out (rest := []) hex hlk hce hcv hcl (Or.inl ⟨hw9.1, z2_1 (z87 hw9.2)⟩) hS rfl rfl
  · have hP : va_P (sx_D G) vwCl [(h, .inr (9, [.ref b, .ref pl, .ref cr, .ref te, .ref ca])), (pl, .inr (6, [.ref a0, .ref a1, .int 0, .ref a3, .ref a4, .ref a5, .ref a6, .ref a7, .ref a8, .ref a9])), (a0, .inl (G.2.1, 8, .inl (fun _ => 0)))] H := hP
    have hD : va_D A [(h, .inr (9, [.ref b, .ref pl, .ref cr, .ref te, .ref ca])), (pl, .inr (6, [.ref a0, .ref a1, .int 0, .ref a3, .ref a4, .ref a5, .ref a6, .ref a7, .ref a8, .ref a9])), (a0, .inl (G.2.1, 8, .inl (fun _ => 0)))] := hD
    refine lv_iload_n hx hb dX7_file_6 rfl (lv_at hl 2 rfl) ?_
    refine lv_iconst (v := 0) hx hb dX7_file_7 (by decide) ?_
    refine lv_bipush (v := 99) hx hb dX7_file_8 (by decide) ?_
    have hcut : sx_cut [(h, .inr (9, [.ref b, .ref pl, .ref cr, .ref te, .ref ca])), (pl, .inr (6, [.ref a0, .ref a1, .int 0, .ref a3, .ref a4, .ref a5, .ref a6, .ref a7, .ref a8, .ref a9])), (a0, .inl (G.2.1, 8, .inl (fun _ => 0)))] [] [(h, .inr (9, [.ref b, .ref pl, .ref cr, .ref te, .ref ca])), (pl, .inr (6, [.ref a0, .ref a1, .int 0, .ref a3, .ref a4, .ref a5, .ref a6, .ref a7, .ref a8, .ref a9])), (a0, .inl (G.2.1, 8, .inl (fun _ => 0)))] [] [0, 1, 2] := ⟨rfl, rfl, by decide, by decide, by decide⟩
    refine sx_ki (sx_runS (As := [.int p1, .int 0, .int 99]) (rest := []) F (m_X7_isWithin l G H.size p1 0 99) mi_X7_isWithin q368 q367 ⟨⟨Nat.le_of_ble_eq_true rfl, Nat.le_of_ble_eq_true rfl⟩, Nat.le_of_ble_eq_true rfl, Nat.le_of_ble_eq_true rfl⟩ hcut hP hD hS rfl hl.1 rfl (Nat.le_of_ble_eq_true rfl) dX7_file_10) hcut hP hD hS hA (fun r_6 u_4 H locs w_5 hP hD hS => ?_)
    have hP : va_P (sx_D G) vwCl [(h, .inr (9, [.ref b, .ref pl, .ref cr, .ref te, .ref ca])), (pl, .inr (6, [.ref a0, .ref a1, .int 0, .ref a3, .ref a4, .ref a5, .ref a6, .ref a7, .ref a8, .ref a9])), (a0, .inl (G.2.1, 8, .inl (fun _ => 0)))] H := hP
    have hD : va_D A [(h, .inr (9, [.ref b, .ref pl, .ref cr, .ref te, .ref ca])), (pl, .inr (6, [.ref a0, .ref a1, .int 0, .ref a3, .ref a4, .ref a5, .ref a6, .ref a7, .ref a8, .ref a9])), (a0, .inl (G.2.1, 8, .inl (fun _ => 0)))] := hD
    have w_5 : r_6 = zb (zw 0 99 p1) := w_5
    have hcut : sx_cut [(h, .inr (9, [.ref b, .ref pl, .ref cr, .ref te, .ref ca])), (pl, .inr (6, [.ref a0, .ref a1, .int 0, .ref a3, .ref a4, .ref a5, .ref a6, .ref a7, .ref a8, .ref a9])), (a0, .inl (G.2.1, 8, .inl (fun _ => 0)))] [] [(h, .inr (9, [.ref b, .ref pl, .ref cr, .ref te, .ref ca])), (pl, .inr (6, [.ref a0, .ref a1, .int 0, .ref a3, .ref a4, .ref a5, .ref a6, .ref a7, .ref a8, .ref a9])), (a0, .inl (G.2.1, 8, .inl (fun _ => 0)))] [] [0, 1, 2] := ⟨rfl, rfl, by decide, by decide, by decide⟩
    refine sx_xkv (sx_xrunS (As := [.int r_6]) (rest := []) F (m_X7_needArgument l hfl G H.size r_6) mi_X7_needArgument q371 q370 ⟨⟨Nat.le_of_ble_eq_true rfl, Nat.le_of_ble_eq_true rfl⟩, Nat.le_of_ble_eq_true rfl, Nat.le_of_ble_eq_true rfl⟩ hcut hP hD hS rfl hl.1 rfl (Nat.le_of_ble_eq_true rfl) dX7_file_13) hcut hP hD hS hA (fun E ce q9 H locs hw9 hP hD hS hce hcv hcl => ?_) (fun u_7 H locs w_8 hP hD hS => ?_)
    · have hP : va_P (sx_D G) vwCl [(h, .inr (9, [.ref b, .ref pl, .ref cr, .ref te, .ref ca])), (pl, .inr (6, [.ref a0, .ref a1, .int 0, .ref a3, .ref a4, .ref a5, .ref a6, .ref a7, .ref a8, .ref a9])), (a0, .inl (G.2.1, 8, .inl (fun _ => 0)))] H := hP
      have hD : va_D A [(h, .inr (9, [.ref b, .ref pl, .ref cr, .ref te, .ref ca])), (pl, .inr (6, [.ref a0, .ref a1, .int 0, .ref a3, .ref a4, .ref a5, .ref a6, .ref a7, .ref a8, .ref a9])), (a0, .inl (G.2.1, 8, .inl (fun _ => 0)))] := hD
      exact sx_out (rest := []) hex hlk hce hcv hcl (Or.inr ⟨hw9.1, z2_2 (z87 w_2) (zb_f w_5 hw9.2)⟩) hS rfl rfl
    · have hP : va_P (sx_D G) vwCl [(h, .inr (9, [.ref b, .ref pl, .ref cr, .ref te, .ref ca])), (pl, .inr (6, [.ref a0, .ref a1, .int 0, .ref a3, .ref a4, .ref a5, .ref a6, .ref a7, .ref a8, .ref a9])), (a0, .inl (G.2.1, 8, .inl (fun _ => 0)))] H := hP
      have hD : va_D A [(h, .inr (9, [.ref b, .ref pl, .ref cr, .ref te, .ref ca])), (pl, .inr (6, [.ref a0, .ref a1, .int 0, .ref a3, .ref a4, .ref a5, .ref a6, .ref a7, .ref a8, .ref a9])), (a0, .inl (G.2.1, 8, .inl (fun _ => 0)))] := hD
      refine lv_aload_n hx hb dX7_file_16 rfl (lv_at hl 0 rfl) ?_
      refine va_get (D := sx_D G) (ci := 9) (v := .ref pl) (C := RX7) (T := TX7) (N := 5) hx hb hts inX7 hown hK hP 0 rfl rfl 1 (by decide) (hts _ q334) (fun _ h9 => h9) rfl dX7_file_17 ?_
      refine va_getN (D := sx_D G) (ci := 6) (v := .ref a0) (C := RX4) (T := TX4) (N := 10) hx hb hts inX4 hown hK hP 1 rfl rfl 0 (by decide) (hts _ q54) (fun _ h9 => h9) rfl dX7_file_20 ?_
      refine lv_iload_n hx hb dX7_file_23 rfl (lv_at hl 1 rfl) ?_
      refine va_iald (D := sx_D G) (tys := sx_tys G) hx hb hK hP 2 0 rfl rfl (zw_vin (z87 w_2) (by decide)) dX7_file_24 ?_
      refine lv_topi (fun x_10 ex_10 => ?_)
      have ex_10 : x_10 = (0 : Int32) := ex_10
      subst ex_10
      refine lv_istore_n (lv' := [(3, .int 0), (0, .ref h), (1, .int p0), (2, .int p1)]) hx hb dX7_file_25 rfl hl (by decide) rfl (fun ls hl => ?_)
      refine lv_aload_n hx hb dX7_file_26 rfl (lv_at hl 1 rfl) ?_
      refine va_get (D := sx_D G) (ci := 9) (v := .ref pl) (C := RX7) (T := TX7) (N := 5) hx hb hts inX7 hown hK hP 0 rfl rfl 1 (by decide) (hts _ q334) (fun _ h9 => h9) rfl dX7_file_27 ?_
      refine va_getN (D := sx_D G) (ci := 6) (v := .ref a0) (C := RX4) (T := TX4) (N := 10) hx hb hts inX4 hown hK hP 1 rfl rfl 0 (by decide) (hts _ q54) (fun _ h9 => h9) rfl dX7_file_30 ?_
      refine lv_iload_n hx hb dX7_file_33 rfl (lv_at hl 2 rfl) ?_
      refine lv_iload_n hx hb dX7_file_34 rfl (lv_at hl 3 rfl) ?_
      refine va_iast (D := sx_D G) (tys := sx_tys G) hx hb hK hP hD hS 2 0 rfl rfl (zw_vin (z87 w_2) (by decide)) dX7_file_35 (fun H locs hP hD hS => ?_)
      have hP : va_P (sx_D G) vwCl [(h, .inr (9, [.ref b, .ref pl, .ref cr, .ref te, .ref ca])), (pl, .inr (6, [.ref a0, .ref a1, .int 0, .ref a3, .ref a4, .ref a5, .ref a6, .ref a7, .ref a8, .ref a9])), (a0, .inl (G.2.1, 8, .inl (upd (fun _ => 0) p0.toNatClampNeg p1)))] H := hP
      have hD : va_D A [(h, .inr (9, [.ref b, .ref pl, .ref cr, .ref te, .ref ca])), (pl, .inr (6, [.ref a0, .ref a1, .int 0, .ref a3, .ref a4, .ref a5, .ref a6, .ref a7, .ref a8, .ref a9])), (a0, .inl (G.2.1, 8, .inl (upd (fun _ => 0) p0.toNatClampNeg p1)))] := hD
      refine lv_iload_n hx hb dX7_file_36 rfl (lv_at hl 0 rfl) ?_
      have hP := hP.sub (ws' := []) [] rfl
      have hD := hD.sub (ws' := []) [] (by decide) rfl
      exact vx_ret (sx_iret (v := 0) () hx hb hr rfl hlk hP hD hS ⟨rfl, z2_0 (z87 w_2) (zb_t w_5 w_8)⟩ dX7_file_37 rfl rfl)
set_option maxHeartbeats 4000000 in
set_option maxRecDepth 100000 in
theorem m_X7_set (l : Launch) (hfl : l.stackTraces = false) (G : sx_G) (sz : Nat) (h : Nat) (b : Nat) (pl : Nat) (cr : Nat) (te : Nat) (ca : Nat) (a0 : Nat) (a1 : Nat) (a3 : Nat) (a4 : Nat) (a5 : Nat) (a6 : Nat) (a7 : Nat) (a8 : Nat) (a9 : Nat) (p0 : Int32) (p1 : Int32) : sx_MetX l yX7_set cX7_set 4 (some .int) 7 103 2 12 G [.ref h, .int p0, .int p1] [(h, .inr (9, [.ref b, .ref pl, .ref cr, .ref te, .ref ca])), (pl, .inr (6, [.ref a0, .ref a1, .int 0, .ref a3, .ref a4, .ref a5, .ref a6, .ref a7, .ref a8, .ref a9])), (a1, .inl (G.2.1, 6, .inl (fun _ => 0)))] sz (sx_Qi G (fun (r : Int32) (u : Unit) => r = 0 ∧ z_set p0 p1 = 0) (fun (u : Unit) => [])) (fun E => (E = "java/lang/IndexOutOfBoundsException" ∧ z_set p0 p1 = 1) ∨ (E = "java/lang/IllegalArgumentException" ∧ z_set p0 p1 = 2)) := by
  refine sx_startX (by decide) rfl (fun p e s m below meth c A ls F hr hlk hnm hex hP hD hS hl => ?_)
  obtain ⟨hx, hb, hml, hown, hts, hK, hE, hA⟩ := id F
  have hown : s.vm.findClass RX7 = some m.cls := hown
  generalize hHe : s.heap = H at hP
  have hS : va_S A s.heap H [] := by rw [← hHe]; exact va_S.rf
  have hl : lv_has ls 4 [(0, .ref h), (1, .int p0), (2, .int p1)] := hl
  refine lv_iload_n hx hb dX7_set_0 rfl (lv_at hl 1 rfl) ?_
  refine lv_bipush (v := 6) hx hb dX7_set_1 (by decide) ?_
  have hcut : sx_cut [(h, .inr (9, [.ref b, .ref pl, .ref cr, .ref te, .ref ca])), (pl, .inr (6, [.ref a0, .ref a1, .int 0, .ref a3, .ref a4, .ref a5, .ref a6, .ref a7, .ref a8, .ref a9])), (a1, .inl (G.2.1, 6, .inl (fun _ => 0)))] [] [(h, .inr (9, [.ref b, .ref pl, .ref cr, .ref te, .ref ca])), (pl, .inr (6, [.ref a0, .ref a1, .int 0, .ref a3, .ref a4, .ref a5, .ref a6, .ref a7, .ref a8, .ref a9])), (a1, .inl (G.2.1, 6, .inl (fun _ => 0)))] [] [0, 1, 2] := ⟨rfl, rfl, by decide, by decide, by decide⟩
  refine sx_xkv (sx_xrunS (As := [.int p0, .int 6]) (rest := []) F (m_X7_needIndex l hfl G H.size p0 6) mi_X7_needIndex q454 q453 ⟨⟨Nat.le_of_ble_eq_true rfl, Nat.le_of_ble_eq_true rfl⟩, Nat.le_of_ble_eq_true rfl, Nat.le_of_ble_eq_true rfl⟩ hcut hP hD hS rfl hl.1 rfl (Nat.le_of_ble_eq_true rfl) dX7_set_3) hcut hP hD hS hA (fun E ce q9 H locs hw9 hP hD hS hce hcv hcl => ?_) (fun u_1 H locs w_2 hP hD hS => ?_)
  · have hP : va_P (sx_D G) vwCl [(h, .inr (9, [.ref b, .ref pl, .ref cr, .ref te, .ref ca])), (pl, .inr (6, [.ref a0, .ref a1, .int 0, .ref a3, .ref a4, .ref a5, .ref a6, .ref a7, .ref a8, .ref a9])), (a1, .inl (G.2.1, 6, .inl (fun _ => 0)))] H := hP
    have hD : va_D A [(h, .inr (9, [.ref b, .ref pl, .ref cr, .ref te, .ref ca])), (pl, .inr (6, [.ref a0, .ref a1, .int 0, .ref a3, .ref a4, .ref a5, .ref a6, .ref a7, .ref a8, .ref a9])), (a1, .inl (G.2.1, 6, .inl (fun _ => 0)))] := hD
    exact sx_out (rest := []) hex hlk hce hcv hcl (Or.inl ⟨hw9.1, z2_1 (z65 hw9.2)⟩) hS rfl rfl
  · have hP : va_P (sx_D G) vwCl [(h, .inr (9, [.ref b, .ref pl, .ref cr, .ref te, .ref ca])), (pl, .inr (6, [.ref a0, .ref a1, .int 0, .ref a3, .ref a4, .ref a5, .ref a6, .ref a7, .ref a8, .ref a9])), (a1, .inl (G.2.1, 6, .inl (fun _ => 0)))] H := hP
    have hD : va_D A [(h, .inr (9, [.ref b, .ref pl, .ref cr, .ref te, .ref ca])), (pl, .inr (6, [.ref a0, .ref a1, .int 0, .ref a3, .ref a4, .ref a5, .ref a6, .ref a7, .ref a8, .ref a9])), (a1, .inl (G.2.1, 6, .inl (fun _ => 0)))] := hD
    refine lv_iload_n hx hb dX7_set_6 rfl (lv_at hl 2 rfl) ?_
    refine lv_iconst (v := 0) hx hb dX7_set_7 (by decide) ?_
    refine lv_bipush (v := 9) hx hb dX7_set_8 (by decide) ?_
    have hcut : sx_cut [(h, .inr (9, [.ref b, .ref pl, .ref cr, .ref te, .ref ca])), (pl, .inr (6, [.ref a0, .ref a1, .int 0, .ref a3, .ref a4, .ref a5, .ref a6, .ref a7, .ref a8, .ref a9])), (a1, .inl (G.2.1, 6, .inl (fun _ => 0)))] [] [(h, .inr (9, [.ref b, .ref pl, .ref cr, .ref te, .ref ca])), (pl, .inr (6, [.ref a0, .ref a1, .int 0, .ref a3, .ref a4, .ref a5, .ref a6, .ref a7, .ref a8, .ref a9])), (a1, .inl (G.2.1, 6, .inl (fun _ => 0)))] [] [0, 1, 2] := ⟨rfl, rfl, by decide, by decide, by decide⟩
    refine sx_ki (sx_runS (As := [.int p1, .int 0, .int 9]) (rest := []) F (m_X7_isWithin l G H.size p1 0 9) mi_X7_isWithin q368 q367 ⟨⟨Nat.le_of_ble_eq_true rfl, Nat.le_of_ble_eq_true rfl⟩, Nat.le_of_ble_eq_true rfl, Nat.le_of_ble_eq_true rfl⟩ hcut hP hD hS rfl hl.1 rfl (Nat.le_of_ble_eq_true rfl) dX7_set_10) hcut hP hD hS hA (fun r_6 u_4 H locs w_5 hP hD hS => ?_)
    have hP : va_P (sx_D G) vwCl [(h, .inr (9, [.ref b, .ref pl, .ref cr, .ref te, .ref ca])), (pl, .inr (6, [.ref a0, .ref a1, .int 0, .ref a3, .ref a4, .ref a5, .ref a6, .ref a7, .ref a8, .ref a9])), (a1, .inl (G.2.1, 6, .inl (fun _ => 0)))] H := hP
    have hD : va_D A [(h, .inr (9, [.ref b, .ref pl, .ref cr, .ref te, .ref ca])), (pl, .inr (6, [.ref a0, .ref a1, .int 0, .ref a3, .ref a4, .ref a5, .ref a6, .ref a7, .ref a8, .ref a9])), (a1, .inl (G.2.1, 6, .inl (fun _ => 0)))] := hD
    have w_5 : r_6 = zb (zw 0 9 p1) := w_5
    have hcut : sx_cut [(h, .inr (9, [.ref b, .ref pl, .ref cr, .ref te, .ref ca])), (pl, .inr (6, [.ref a0, .ref a1, .int 0, .ref a3, .ref a4, .ref a5, .ref a6, .ref a7, .ref a8, .ref a9])), (a1, .inl (G.2.1, 6, .inl (fun _ => 0)))] [] [(h, .inr (9, [.ref b, .ref pl, .ref cr, .ref te, .ref ca])), (pl, .inr (6, [.ref a0, .ref a1, .int 0, .ref a3, .ref a4, .ref a5, .ref a6, .ref a7, .ref a8, .ref a9])), (a1, .inl (G.2.1, 6, .inl (fun _ => 0)))] [] [0, 1, 2] := ⟨rfl, rfl, by decide, by decide, by decide⟩
    refine sx_xkv (sx_xrunS (As := [.int r_6]) (rest := []) F (m_X7_needArgument l hfl G H.size r_6) mi_X7_needArgument q371 q370 ⟨⟨Nat.le_of_ble_eq_true rfl, Nat.le_of_ble_eq_true rfl⟩, Nat.le_of_ble_eq_true rfl, Nat.le_of_ble_eq_true rfl⟩ hcut hP hD hS rfl hl.1 rfl (Nat.le_of_ble_eq_true rfl) dX7_set_13) hcut hP hD hS hA (fun E ce q9 H locs hw9 hP hD hS hce hcv hcl => ?_) (fun u_7 H locs w_8 hP hD hS => ?_)
    · have hP : va_P (sx_D G) vwCl [(h, .inr (9, [.ref b, .ref pl, .ref cr, .ref te, .ref ca])), (pl, .inr (6, [.ref a0, .ref a1, .int 0, .ref a3, .ref a4, .ref a5, .ref a6, .ref a7, .ref a8, .ref a9])), (a1, .inl (G.2.1, 6, .inl (fun _ => 0)))] H := hP
      have hD : va_D A [(h, .inr (9, [.ref b, .ref pl, .ref cr, .ref te, .ref ca])), (pl, .inr (6, [.ref a0, .ref a1, .int 0, .ref a3, .ref a4, .ref a5, .ref a6, .ref a7, .ref a8, .ref a9])), (a1, .inl (G.2.1, 6, .inl (fun _ => 0)))] := hD
      exact sx_out (rest := []) hex hlk hce hcv hcl (Or.inr ⟨hw9.1, z2_2 (z65 w_2) (zb_f w_5 hw9.2)⟩) hS rfl rfl
    · have hP : va_P (sx_D G) vwCl [(h, .inr (9, [.ref b, .ref pl, .ref cr, .ref te, .ref ca])), (pl, .inr (6, [.ref a0, .ref a1, .int 0, .ref a3, .ref a4, .ref a5, .ref a6, .ref a7, .ref a8, .ref a9])), (a1, .inl (G.2.1, 6, .inl (fun _ => 0)))] H := hP
      have hD : va_D A [(h, .inr (9, [.ref b, .ref pl, .ref cr, .ref te, .ref ca])), (pl, .inr (6, [.ref a0, .ref a1, .int 0, .ref a3, .ref a4, .ref a5, .ref a6, .ref a7, .ref a8, .ref a9])), (a1, .inl (G.2.1, 6, .inl (fun _ => 0)))] := hD
      refine lv_aload_n hx hb dX7_set_16 rfl (lv_at hl 0 rfl) ?_
      refine va_get (D := sx_D G) (ci := 9) (v := .ref pl) (C := RX7) (T := TX7) (N := 5) hx hb hts inX7 hown hK hP 0 rfl rfl 1 (by decide) (hts _ q334) (fun _ h9 => h9) rfl dX7_set_17 ?_
      refine va_getN (D := sx_D G) (ci := 6) (v := .ref a1) (C := RX4) (T := TX4) (N := 10) hx hb hts inX4 hown hK hP 1 rfl rfl 1 (by decide) (hts _ q57) (fun _ h9 => h9) rfl dX7_set_20 ?_
      refine lv_iload_n hx hb dX7_set_23 rfl (lv_at hl 1 rfl) ?_
      refine va_iald (D := sx_D G) (tys := sx_tys G) hx hb hK hP 2 0 rfl rfl (zw_vin (z65 w_2) (by decide)) dX7_set_24 ?_
      refine lv_topi (fun x_10 ex_10 => ?_)
      have ex_10 : x_10 = (0 : Int32) := ex_10
      subst ex_10
      refine lv_istore_n (lv' := [(3, .int 0), (0, .ref h), (1, .int p0), (2, .int p1)]) hx hb dX7_set_25 rfl hl (by decide) rfl (fun ls hl => ?_)
      refine lv_aload_n hx hb dX7_set_26 rfl (lv_at hl 1 rfl) ?_
      refine va_get (D := sx_D G) (ci := 9) (v := .ref pl) (C := RX7) (T := TX7) (N := 5) hx hb hts inX7 hown hK hP 0 rfl rfl 1 (by decide) (hts _ q334) (fun _ h9 => h9) rfl dX7_set_27 ?_
      refine va_getN (D := sx_D G) (ci := 6) (v := .ref a1) (C := RX4) (T := TX4) (N := 10) hx hb hts inX4 hown hK hP 1 rfl rfl 1 (by decide) (hts _ q57) (fun _ h9 => h9) rfl dX7_set_30 ?_
      refine lv_iload_n hx hb dX7_set_33 rfl (lv_at hl 2 rfl) ?_
      refine lv_iload_n hx hb dX7_set_34 rfl (lv_at hl 3 rfl) ?_
      refine va_iast (D := sx_D G) (tys := sx_tys G) hx hb hK hP hD hS 2 0 rfl rfl (zw_vin (z65 w_2) (by decide)) dX7_set_35 (fun H locs hP hD hS => ?_)
      have hP : va_P (sx_D G) vwCl [(h, .inr (9, [.ref b, .ref pl, .ref cr, .ref te, .ref ca])), (pl, .inr (6, [.ref a0, .ref a1, .int 0, .ref a3, .ref a4, .ref a5, .ref a6, .ref a7, .ref a8, .ref a9])), (a1, .inl (G.2.1, 6, .inl (upd (fun _ => 0) p0.toNatClampNeg p1)))] H := hP
      have hD : va_D A [(h, .inr (9, [.ref b, .ref pl, .ref cr, .ref te, .ref ca])), (pl, .inr (6, [.ref a0, .ref a1, .int 0, .ref a3, .ref a4, .ref a5, .ref a6, .ref a7, .ref a8, .ref a9])), (a1, .inl (G.2.1, 6, .inl (upd (fun _ => 0) p0.toNatClampNeg p1)))] := hD
      refine lv_iload_n hx hb dX7_set_36 rfl (lv_at hl 0 rfl) ?_
      have hP := hP.sub (ws' := []) [] rfl
      have hD := hD.sub (ws' := []) [] (by decide) rfl
      exact vx_ret (sx_iret (v := 0) () hx hb hr rfl hlk hP hD hS ⟨rfl, z2_0 (z65 w_2) (zb_t w_5 w_8)⟩ dX7_set_37 rfl rfl)
set_option maxHeartbeats 4000000 in
set_option maxRecDepth 100000 in
theorem m_X7_ofAction (l : Launch) (hfl : l.stackTraces = false) (G : sx_G) (sz : Nat) (h : Nat) (b : Nat) (pl : Nat) (cr : Nat) (te : Nat) (ca : Nat) (a0 : Nat) (a1 : Nat) (a3 : Nat) (a4 : Nat) (a5 : Nat) (a6 : Nat) (a7 : Nat) (a8 : Nat) (a9 : Nat) (p0 : Int32) (p1 : Int32) : sx_MetX l yX7_ofAction cX7_ofAction 3 (some .int) 7 103 1 6 G [.ref h, .int p0, .int p1] [(h, .inr (9, [.ref b, .ref pl, .ref cr, .ref te, .ref ca])), (pl, .inr (6, [.ref a0, .ref a1, .int 0, .ref a3, .ref a4, .ref a5, .ref a6, .ref a7, .ref a8, .ref a9]))] sz (sx_Qi G (fun (r : Int32) (u : Unit) => False) (fun (u : Unit) => [])) (fun E => E = "java/lang/IndexOutOfBoundsException") := by
  refine sx_startX (by decide) rfl (fun p e s m below meth c A ls F hr hlk hnm hex hP hD hS hl => ?_)
  obtain ⟨hx, hb, hml, hown, hts, hK, hE, hA⟩ := id F
  have hown : s.vm.findClass RX7 = some m.cls := hown
  generalize hHe : s.heap = H at hP
  have hS : va_S A s.heap H [] := by rw [← hHe]; exact va_S.rf
  have hl : lv_has ls 3 [(0, .ref h), (1, .int p0), (2, .int p1)] := hl
  refine lv_iload_n hx hb dX7_ofAction_0 rfl (lv_at hl 1 rfl) ?_
  refine lv_aload_n hx hb dX7_ofAction_1 rfl (lv_at hl 0 rfl) ?_
  refine va_get (D := sx_D G) (ci := 9) (v := .ref pl) (C := RX7) (T := TX7) (N := 5) hx hb hts inX7 hown hK hP 0 rfl rfl 1 (by decide) (hts _ q334) (fun _ h9 => h9) rfl dX7_ofAction_2 ?_
  refine va_getN (D := sx_D G) (ci := 6) (v := .int 0) (C := RX4) (T := TX4) (N := 10) hx hb hts inX4 hown hK hP 1 rfl rfl 2 (by decide) (hts _ q60) (fun _ h9 => h9) rfl dX7_ofAction_5 ?_
  have hcut : sx_cut [(h, .inr (9, [.ref b, .ref pl, .ref cr, .ref te, .ref ca])), (pl, .inr (6, [.ref a0, .ref a1, .int 0, .ref a3, .ref a4, .ref a5, .ref a6, .ref a7, .ref a8, .ref a9]))] [] [(h, .inr (9, [.ref b, .ref pl, .ref cr, .ref te, .ref ca])), (pl, .inr (6, [.ref a0, .ref a1, .int 0, .ref a3, .ref a4, .ref a5, .ref a6, .ref a7, .ref a8, .ref a9]))] [] [0, 1] := ⟨rfl, rfl, by decide, by decide, by decide⟩
  refine sx_xkv (sx_xrunS (As := [.int p0, .int 0]) (rest := []) F (m_X7_needIndex l hfl G H.size p0 0) mi_X7_needIndex q454 q453 ⟨⟨Nat.le_of_ble_eq_true rfl, Nat.le_of_ble_eq_true rfl⟩, Nat.le_of_ble_eq_true rfl, Nat.le_of_ble_eq_true rfl⟩ hcut hP hD hS rfl hl.1 rfl (Nat.le_of_ble_eq_true rfl) dX7_ofAction_8) hcut hP hD hS hA (fun E ce q9 H locs hw9 hP hD hS hce hcv hcl => ?_) (fun u_1 H locs w_2 hP hD hS => ?_)
  · have hP : va_P (sx_D G) vwCl [(h, .inr (9, [.ref b, .ref pl, .ref cr, .ref te, .ref ca])), (pl, .inr (6, [.ref a0, .ref a1, .int 0, .ref a3, .ref a4, .ref a5, .ref a6, .ref a7, .ref a8, .ref a9]))] H := hP
    have hD : va_D A [(h, .inr (9, [.ref b, .ref pl, .ref cr, .ref te, .ref ca])), (pl, .inr (6, [.ref a0, .ref a1, .int 0, .ref a3, .ref a4, .ref a5, .ref a6, .ref a7, .ref a8, .ref a9]))] := hD
    exact sx_out (rest := []) hex hlk hce hcv hcl hw9.1 hS rfl rfl
  · have hP : va_P (sx_D G) vwCl [(h, .inr (9, [.ref b, .ref pl, .ref cr, .ref te, .ref ca])), (pl, .inr (6, [.ref a0, .ref a1, .int 0, .ref a3, .ref a4, .ref a5, .ref a6, .ref a7, .ref a8, .ref a9]))] H := hP
    have hD : va_D A [(h, .inr (9, [.ref b, .ref pl, .ref cr, .ref te, .ref ca])), (pl, .inr (6, [.ref a0, .ref a1, .int 0, .ref a3, .ref a4, .ref a5, .ref a6, .ref a7, .ref a8, .ref a9]))] := hD
    exact absurd (w_2) (by rw [zw_none]; decide)
set_option maxHeartbeats 4000000 in
set_option maxRecDepth 100000 in
theorem m_X7_ofWorker (l : Launch) (hfl : l.stackTraces = false) (G : sx_G) (sz : Nat) (h : Nat) (b : Nat) (pl : Nat) (cr : Nat) (te : Nat) (ca : Nat) (c1 : Nat) (c2 : Nat) (c3 : Nat) (c4 : Nat) (c5 : Nat) (p0 : Int32) (p1 : Int32) : sx_MetX l yX7_ofWorker cX7_ofWorker 3 (some .int) 7 103 1 6 G [.ref h, .int p0, .int p1] [(h, .inr (9, [.ref b, .ref pl, .ref cr, .ref te, .ref ca])), (cr, .inr (4, [.int 0, .ref c1, .ref c2, .ref c3, .ref c4, .ref c5]))] sz (sx_Qi G (fun (r : Int32) (u : Unit) => False) (fun (u : Unit) => [])) (fun E => E = "java/lang/IndexOutOfBoundsException") := by
  refine sx_startX (by decide) rfl (fun p e s m below meth c A ls F hr hlk hnm hex hP hD hS hl => ?_)
  obtain ⟨hx, hb, hml, hown, hts, hK, hE, hA⟩ := id F
  have hown : s.vm.findClass RX7 = some m.cls := hown
  generalize hHe : s.heap = H at hP
  have hS : va_S A s.heap H [] := by rw [← hHe]; exact va_S.rf
  have hl : lv_has ls 3 [(0, .ref h), (1, .int p0), (2, .int p1)] := hl
  refine lv_iload_n hx hb dX7_ofWorker_0 rfl (lv_at hl 1 rfl) ?_
  refine lv_aload_n hx hb dX7_ofWorker_1 rfl (lv_at hl 0 rfl) ?_
  refine va_get (D := sx_D G) (ci := 9) (v := .ref cr) (C := RX7) (T := TX7) (N := 5) hx hb hts inX7 hown hK hP 0 rfl rfl 2 (by decide) (hts _ q335) (fun _ h9 => h9) rfl dX7_ofWorker_2 ?_
  refine va_getN (D := sx_D G) (ci := 4) (v := .int 0) (C := RX2) (T := TX2) (N := 6) hx hb hts inX2 hown hK hP 1 rfl rfl 0 (by decide) (hts _ q114) (fun _ h9 => h9) rfl dX7_ofWorker_5 ?_
  have hcut : sx_cut [(h, .inr (9, [.ref b, .ref pl, .ref cr, .ref te, .ref ca])), (cr, .inr (4, [.int 0, .ref c1, .ref c2, .ref c3, .ref c4, .ref c5]))] [] [(h, .inr (9, [.ref b, .ref pl, .ref cr, .ref te, .ref ca])), (cr, .inr (4, [.int 0, .ref c1, .ref c2, .ref c3, .ref c4, .ref c5]))] [] [0, 1] := ⟨rfl, rfl, by decide, by decide, by decide⟩
  refine sx_xkv (sx_xrunS (As := [.int p0, .int 0]) (rest := []) F (m_X7_needIndex l hfl G H.size p0 0) mi_X7_needIndex q454 q453 ⟨⟨Nat.le_of_ble_eq_true rfl, Nat.le_of_ble_eq_true rfl⟩, Nat.le_of_ble_eq_true rfl, Nat.le_of_ble_eq_true rfl⟩ hcut hP hD hS rfl hl.1 rfl (Nat.le_of_ble_eq_true rfl) dX7_ofWorker_8) hcut hP hD hS hA (fun E ce q9 H locs hw9 hP hD hS hce hcv hcl => ?_) (fun u_1 H locs w_2 hP hD hS => ?_)
  · have hP : va_P (sx_D G) vwCl [(h, .inr (9, [.ref b, .ref pl, .ref cr, .ref te, .ref ca])), (cr, .inr (4, [.int 0, .ref c1, .ref c2, .ref c3, .ref c4, .ref c5]))] H := hP
    have hD : va_D A [(h, .inr (9, [.ref b, .ref pl, .ref cr, .ref te, .ref ca])), (cr, .inr (4, [.int 0, .ref c1, .ref c2, .ref c3, .ref c4, .ref c5]))] := hD
    exact sx_out (rest := []) hex hlk hce hcv hcl hw9.1 hS rfl rfl
  · have hP : va_P (sx_D G) vwCl [(h, .inr (9, [.ref b, .ref pl, .ref cr, .ref te, .ref ca])), (cr, .inr (4, [.int 0, .ref c1, .ref c2, .ref c3, .ref c4, .ref c5]))] H := hP
    have hD : va_D A [(h, .inr (9, [.ref b, .ref pl, .ref cr, .ref te, .ref ca])), (cr, .inr (4, [.int 0, .ref c1, .ref c2, .ref c3, .ref c4, .ref c5]))] := hD
    exact absurd (w_2) (by rw [zw_none]; decide)
set_option maxHeartbeats 4000000 in
set_option maxRecDepth 100000 in
theorem m_X7_mend (l : Launch) (hfl : l.stackTraces = false) (G : sx_G) (sz : Nat) (h : Nat) (b : Nat) (pl : Nat) (cr : Nat) (te : Nat) (ca : Nat) (c1 : Nat) (c2 : Nat) (c3 : Nat) (c4 : Nat) (c5 : Nat) (p0 : Int32) (p1 : Int32) : sx_MetX l yX7_mend cX7_mend 4 (some .int) 7 103 1 6 G [.ref h, .int p0, .int p1] [(h, .inr (9, [.ref b, .ref pl, .ref cr, .ref te, .ref ca])), (cr, .inr (4, [.int 0, .ref c1, .ref c2, .ref c3, .ref c4, .ref c5]))] sz (sx_Qi G (fun (r : Int32) (u : Unit) => False) (fun (u : Unit) => [])) (fun E => E = "java/lang/IndexOutOfBoundsException") := by
  refine sx_startX (by decide) rfl (fun p e s m below meth c A ls F hr hlk hnm hex hP hD hS hl => ?_)
  obtain ⟨hx, hb, hml, hown, hts, hK, hE, hA⟩ := id F
  have hown : s.vm.findClass RX7 = some m.cls := hown
  generalize hHe : s.heap = H at hP
  have hS : va_S A s.heap H [] := by rw [← hHe]; exact va_S.rf
  have hl : lv_has ls 4 [(0, .ref h), (1, .int p0), (2, .int p1)] := hl
  refine lv_iload_n hx hb dX7_mend_0 rfl (lv_at hl 1 rfl) ?_
  refine lv_aload_n hx hb dX7_mend_1 rfl (lv_at hl 0 rfl) ?_
  refine va_get (D := sx_D G) (ci := 9) (v := .ref cr) (C := RX7) (T := TX7) (N := 5) hx hb hts inX7 hown hK hP 0 rfl rfl 2 (by decide) (hts _ q335) (fun _ h9 => h9) rfl dX7_mend_2 ?_
  refine va_getN (D := sx_D G) (ci := 4) (v := .int 0) (C := RX2) (T := TX2) (N := 6) hx hb hts inX2 hown hK hP 1 rfl rfl 0 (by decide) (hts _ q114) (fun _ h9 => h9) rfl dX7_mend_5 ?_
  have hcut : sx_cut [(h, .inr (9, [.ref b, .ref pl, .ref cr, .ref te, .ref ca])), (cr, .inr (4, [.int 0, .ref c1, .ref c2, .ref c3, .ref c4, .ref c5]))] [] [(h, .inr (9, [.ref b, .ref pl, .ref cr, .ref te, .ref ca])), (cr, .inr (4, [.int 0, .ref c1, .ref c2, .ref c3, .ref c4, .ref c5]))] [] [0, 1] := ⟨rfl, rfl, by decide, by decide, by decide⟩
  refine sx_xkv (sx_xrunS (As := [.int p0, .int 0]) (rest := []) F (m_X7_needIndex l hfl G H.size p0 0) mi_X7_needIndex q454 q453 ⟨⟨Nat.le_of_ble_eq_true rfl, Nat.le_of_ble_eq_true rfl⟩, Nat.le_of_ble_eq_true rfl, Nat.le_of_ble_eq_true rfl⟩ hcut hP hD hS rfl hl.1 rfl (Nat.le_of_ble_eq_true rfl) dX7_mend_8) hcut hP hD hS hA (fun E ce q9 H locs hw9 hP hD hS hce hcv hcl => ?_) (fun u_1 H locs w_2 hP hD hS => ?_)
  · have hP : va_P (sx_D G) vwCl [(h, .inr (9, [.ref b, .ref pl, .ref cr, .ref te, .ref ca])), (cr, .inr (4, [.int 0, .ref c1, .ref c2, .ref c3, .ref c4, .ref c5]))] H := hP
    have hD : va_D A [(h, .inr (9, [.ref b, .ref pl, .ref cr, .ref te, .ref ca])), (cr, .inr (4, [.int 0, .ref c1, .ref c2, .ref c3, .ref c4, .ref c5]))] := hD
    exact sx_out (rest := []) hex hlk hce hcv hcl hw9.1 hS rfl rfl
  · have hP : va_P (sx_D G) vwCl [(h, .inr (9, [.ref b, .ref pl, .ref cr, .ref te, .ref ca])), (cr, .inr (4, [.int 0, .ref c1, .ref c2, .ref c3, .ref c4, .ref c5]))] H := hP
    have hD : va_D A [(h, .inr (9, [.ref b, .ref pl, .ref cr, .ref te, .ref ca])), (cr, .inr (4, [.int 0, .ref c1, .ref c2, .ref c3, .ref c4, .ref c5]))] := hD
    exact absurd (w_2) (by rw [zw_none]; decide)
set_option maxHeartbeats 4000000 in
set_option maxRecDepth 100000 in
theorem m_X7_quota (l : Launch) (hfl : l.stackTraces = false) (G : sx_G) (sz : Nat) (h : Nat) (b : Nat) (pl : Nat) (cr : Nat) (te : Nat) (ca : Nat) (t1 : Nat) (t2 : Nat) (t3 : Nat) (p0 : Int32) (p1 : Int32) : sx_MetX l yX7_quota cX7_quota 3 (some .int) 7 103 1 6 G [.ref h, .int p0, .int p1] [(h, .inr (9, [.ref b, .ref pl, .ref cr, .ref te, .ref ca])), (te, .inr (8, [.int 0, .ref t1, .ref t2, .ref t3]))] sz (sx_Qi G (fun (r : Int32) (u : Unit) => False) (fun (u : Unit) => [])) (fun E => E = "java/lang/IndexOutOfBoundsException") := by
  refine sx_startX (by decide) rfl (fun p e s m below meth c A ls F hr hlk hnm hex hP hD hS hl => ?_)
  obtain ⟨hx, hb, hml, hown, hts, hK, hE, hA⟩ := id F
  have hown : s.vm.findClass RX7 = some m.cls := hown
  generalize hHe : s.heap = H at hP
  have hS : va_S A s.heap H [] := by rw [← hHe]; exact va_S.rf
  have hl : lv_has ls 3 [(0, .ref h), (1, .int p0), (2, .int p1)] := hl
  refine lv_iload_n hx hb dX7_quota_0 rfl (lv_at hl 1 rfl) ?_
  refine lv_aload_n hx hb dX7_quota_1 rfl (lv_at hl 0 rfl) ?_
  refine va_get (D := sx_D G) (ci := 9) (v := .ref te) (C := RX7) (T := TX7) (N := 5) hx hb hts inX7 hown hK hP 0 rfl rfl 3 (by decide) (hts _ q336) (fun _ h9 => h9) rfl dX7_quota_2 ?_
  refine va_getN (D := sx_D G) (ci := 8) (v := .int 0) (C := RX6) (T := TX6) (N := 4) hx hb hts inX6 hown hK hP 1 rfl rfl 0 (by decide) (hts _ q149) (fun _ h9 => h9) rfl dX7_quota_5 ?_
  have hcut : sx_cut [(h, .inr (9, [.ref b, .ref pl, .ref cr, .ref te, .ref ca])), (te, .inr (8, [.int 0, .ref t1, .ref t2, .ref t3]))] [] [(h, .inr (9, [.ref b, .ref pl, .ref cr, .ref te, .ref ca])), (te, .inr (8, [.int 0, .ref t1, .ref t2, .ref t3]))] [] [0, 1] := ⟨rfl, rfl, by decide, by decide, by decide⟩
  refine sx_xkv (sx_xrunS (As := [.int p0, .int 0]) (rest := []) F (m_X7_needIndex l hfl G H.size p0 0) mi_X7_needIndex q454 q453 ⟨⟨Nat.le_of_ble_eq_true rfl, Nat.le_of_ble_eq_true rfl⟩, Nat.le_of_ble_eq_true rfl, Nat.le_of_ble_eq_true rfl⟩ hcut hP hD hS rfl hl.1 rfl (Nat.le_of_ble_eq_true rfl) dX7_quota_8) hcut hP hD hS hA (fun E ce q9 H locs hw9 hP hD hS hce hcv hcl => ?_) (fun u_1 H locs w_2 hP hD hS => ?_)
  · have hP : va_P (sx_D G) vwCl [(h, .inr (9, [.ref b, .ref pl, .ref cr, .ref te, .ref ca])), (te, .inr (8, [.int 0, .ref t1, .ref t2, .ref t3]))] H := hP
    have hD : va_D A [(h, .inr (9, [.ref b, .ref pl, .ref cr, .ref te, .ref ca])), (te, .inr (8, [.int 0, .ref t1, .ref t2, .ref t3]))] := hD
    exact sx_out (rest := []) hex hlk hce hcv hcl hw9.1 hS rfl rfl
  · have hP : va_P (sx_D G) vwCl [(h, .inr (9, [.ref b, .ref pl, .ref cr, .ref te, .ref ca])), (te, .inr (8, [.int 0, .ref t1, .ref t2, .ref t3]))] H := hP
    have hD : va_D A [(h, .inr (9, [.ref b, .ref pl, .ref cr, .ref te, .ref ca])), (te, .inr (8, [.int 0, .ref t1, .ref t2, .ref t3]))] := hD
    exact absurd (w_2) (by rw [zw_none]; decide)
set_option maxHeartbeats 4000000 in
set_option maxRecDepth 100000 in
theorem m_X7_ofTeam (l : Launch) (hfl : l.stackTraces = false) (G : sx_G) (sz : Nat) (h : Nat) (b : Nat) (pl : Nat) (cr : Nat) (te : Nat) (ca : Nat) (t1 : Nat) (t2 : Nat) (t3 : Nat) (p0 : Int32) (p1 : Int32) : sx_MetX l yX7_ofTeam cX7_ofTeam 3 (some .int) 7 103 1 6 G [.ref h, .int p0, .int p1] [(h, .inr (9, [.ref b, .ref pl, .ref cr, .ref te, .ref ca])), (te, .inr (8, [.int 0, .ref t1, .ref t2, .ref t3]))] sz (sx_Qi G (fun (r : Int32) (u : Unit) => False) (fun (u : Unit) => [])) (fun E => E = "java/lang/IndexOutOfBoundsException") := by
  refine sx_startX (by decide) rfl (fun p e s m below meth c A ls F hr hlk hnm hex hP hD hS hl => ?_)
  obtain ⟨hx, hb, hml, hown, hts, hK, hE, hA⟩ := id F
  have hown : s.vm.findClass RX7 = some m.cls := hown
  generalize hHe : s.heap = H at hP
  have hS : va_S A s.heap H [] := by rw [← hHe]; exact va_S.rf
  have hl : lv_has ls 3 [(0, .ref h), (1, .int p0), (2, .int p1)] := hl
  refine lv_iload_n hx hb dX7_ofTeam_0 rfl (lv_at hl 1 rfl) ?_
  refine lv_aload_n hx hb dX7_ofTeam_1 rfl (lv_at hl 0 rfl) ?_
  refine va_get (D := sx_D G) (ci := 9) (v := .ref te) (C := RX7) (T := TX7) (N := 5) hx hb hts inX7 hown hK hP 0 rfl rfl 3 (by decide) (hts _ q336) (fun _ h9 => h9) rfl dX7_ofTeam_2 ?_
  refine va_getN (D := sx_D G) (ci := 8) (v := .int 0) (C := RX6) (T := TX6) (N := 4) hx hb hts inX6 hown hK hP 1 rfl rfl 0 (by decide) (hts _ q149) (fun _ h9 => h9) rfl dX7_ofTeam_5 ?_
  have hcut : sx_cut [(h, .inr (9, [.ref b, .ref pl, .ref cr, .ref te, .ref ca])), (te, .inr (8, [.int 0, .ref t1, .ref t2, .ref t3]))] [] [(h, .inr (9, [.ref b, .ref pl, .ref cr, .ref te, .ref ca])), (te, .inr (8, [.int 0, .ref t1, .ref t2, .ref t3]))] [] [0, 1] := ⟨rfl, rfl, by decide, by decide, by decide⟩
  refine sx_xkv (sx_xrunS (As := [.int p0, .int 0]) (rest := []) F (m_X7_needIndex l hfl G H.size p0 0) mi_X7_needIndex q454 q453 ⟨⟨Nat.le_of_ble_eq_true rfl, Nat.le_of_ble_eq_true rfl⟩, Nat.le_of_ble_eq_true rfl, Nat.le_of_ble_eq_true rfl⟩ hcut hP hD hS rfl hl.1 rfl (Nat.le_of_ble_eq_true rfl) dX7_ofTeam_8) hcut hP hD hS hA (fun E ce q9 H locs hw9 hP hD hS hce hcv hcl => ?_) (fun u_1 H locs w_2 hP hD hS => ?_)
  · have hP : va_P (sx_D G) vwCl [(h, .inr (9, [.ref b, .ref pl, .ref cr, .ref te, .ref ca])), (te, .inr (8, [.int 0, .ref t1, .ref t2, .ref t3]))] H := hP
    have hD : va_D A [(h, .inr (9, [.ref b, .ref pl, .ref cr, .ref te, .ref ca])), (te, .inr (8, [.int 0, .ref t1, .ref t2, .ref t3]))] := hD
    exact sx_out (rest := []) hex hlk hce hcv hcl hw9.1 hS rfl rfl
  · have hP : va_P (sx_D G) vwCl [(h, .inr (9, [.ref b, .ref pl, .ref cr, .ref te, .ref ca])), (te, .inr (8, [.int 0, .ref t1, .ref t2, .ref t3]))] H := hP
    have hD : va_D A [(h, .inr (9, [.ref b, .ref pl, .ref cr, .ref te, .ref ca])), (te, .inr (8, [.int 0, .ref t1, .ref t2, .ref t3]))] := hD
    exact absurd (w_2) (by rw [zw_none]; decide)
set_option maxHeartbeats 4000000 in
set_option maxRecDepth 100000 in
theorem m_X7_build (l : Launch) (hfl : l.stackTraces = false) (G : sx_G) (sz : Nat) (h : Nat) (b : Nat) (pl : Nat) (cr : Nat) (te : Nat) (ca : Nat) (t1 : Nat) (t2 : Nat) (t3 : Nat) (p0 : Int32) (p1 : Int32) : sx_MetX l yX7_build cX7_build 4 (some .int) 7 103 1 6 G [.ref h, .int p0, .int p1] [(h, .inr (9, [.ref b, .ref pl, .ref cr, .ref te, .ref ca])), (te, .inr (8, [.int 0, .ref t1, .ref t2, .ref t3]))] sz (sx_Qi G (fun (r : Int32) (u : Unit) => False) (fun (u : Unit) => [])) (fun E => E = "java/lang/IndexOutOfBoundsException") := by
  refine sx_startX (by decide) rfl (fun p e s m below meth c A ls F hr hlk hnm hex hP hD hS hl => ?_)
  obtain ⟨hx, hb, hml, hown, hts, hK, hE, hA⟩ := id F
  have hown : s.vm.findClass RX7 = some m.cls := hown
  generalize hHe : s.heap = H at hP
  have hS : va_S A s.heap H [] := by rw [← hHe]; exact va_S.rf
  have hl : lv_has ls 4 [(0, .ref h), (1, .int p0), (2, .int p1)] := hl
  refine lv_iload_n hx hb dX7_build_0 rfl (lv_at hl 1 rfl) ?_
  refine lv_aload_n hx hb dX7_build_1 rfl (lv_at hl 0 rfl) ?_
  refine va_get (D := sx_D G) (ci := 9) (v := .ref te) (C := RX7) (T := TX7) (N := 5) hx hb hts inX7 hown hK hP 0 rfl rfl 3 (by decide) (hts _ q336) (fun _ h9 => h9) rfl dX7_build_2 ?_
  refine va_getN (D := sx_D G) (ci := 8) (v := .int 0) (C := RX6) (T := TX6) (N := 4) hx hb hts inX6 hown hK hP 1 rfl rfl 0 (by decide) (hts _ q149) (fun _ h9 => h9) rfl dX7_build_5 ?_
  have hcut : sx_cut [(h, .inr (9, [.ref b, .ref pl, .ref cr, .ref te, .ref ca])), (te, .inr (8, [.int 0, .ref t1, .ref t2, .ref t3]))] [] [(h, .inr (9, [.ref b, .ref pl, .ref cr, .ref te, .ref ca])), (te, .inr (8, [.int 0, .ref t1, .ref t2, .ref t3]))] [] [0, 1] := ⟨rfl, rfl, by decide, by decide, by decide⟩
  refine sx_xkv (sx_xrunS (As := [.int p0, .int 0]) (rest := []) F (m_X7_needIndex l hfl G H.size p0 0) mi_X7_needIndex q454 q453 ⟨⟨Nat.le_of_ble_eq_true rfl, Nat.le_of_ble_eq_true rfl⟩, Nat.le_of_ble_eq_true rfl, Nat.le_of_ble_eq_true rfl⟩ hcut hP hD hS rfl hl.1 rfl (Nat.le_of_ble_eq_true rfl) dX7_build_8) hcut hP hD hS hA (fun E ce q9 H locs hw9 hP hD hS hce hcv hcl => ?_) (fun u_1 H locs w_2 hP hD hS => ?_)
  · have hP : va_P (sx_D G) vwCl [(h, .inr (9, [.ref b, .ref pl, .ref cr, .ref te, .ref ca])), (te, .inr (8, [.int 0, .ref t1, .ref t2, .ref t3]))] H := hP
    have hD : va_D A [(h, .inr (9, [.ref b, .ref pl, .ref cr, .ref te, .ref ca])), (te, .inr (8, [.int 0, .ref t1, .ref t2, .ref t3]))] := hD
    exact sx_out (rest := []) hex hlk hce hcv hcl hw9.1 hS rfl rfl
  · have hP : va_P (sx_D G) vwCl [(h, .inr (9, [.ref b, .ref pl, .ref cr, .ref te, .ref ca])), (te, .inr (8, [.int 0, .ref t1, .ref t2, .ref t3]))] H := hP
    have hD : va_D A [(h, .inr (9, [.ref b, .ref pl, .ref cr, .ref te, .ref ca])), (te, .inr (8, [.int 0, .ref t1, .ref t2, .ref t3]))] := hD
    exact absurd (w_2) (by rw [zw_none]; decide)
set_option maxHeartbeats 4000000 in
set_option maxRecDepth 100000 in
theorem m_X7_recheck (l : Launch) (hfl : l.stackTraces = false) (G : sx_G) (sz : Nat) (h : Nat) (b : Nat) (pl : Nat) (cr : Nat) (te : Nat) (ca : Nat) (k2 : Nat) (k3 : Nat) (k4 : Nat) (k5 : Nat) (k6 : Nat) (k7 : Nat) (k8 : Nat) (k9 : Nat) (k10 : Nat) (k11 : Nat) (k12 : Nat) (k13 : Nat) (k14 : Nat) (p0 : Int32) : sx_MetX l yX7_recheck cX7_recheck 2 (some .int) 7 103 1 6 G [.ref h, .int p0] [(h, .inr (9, [.ref b, .ref pl, .ref cr, .ref te, .ref ca])), (ca, .inr (3, [.int 0, .int 0, .ref k2, .ref k3, .ref k4, .ref k5, .ref k6, .ref k7, .ref k8, .ref k9, .ref k10, .ref k11, .ref k12, .ref k13, .ref k14]))] sz (sx_Qi G (fun (r : Int32) (u : Unit) => False) (fun (u : Unit) => [])) (fun E => E = "java/lang/IndexOutOfBoundsException") := by
  refine sx_startX (by decide) rfl (fun p e s m below meth c A ls F hr hlk hnm hex hP hD hS hl => ?_)
  obtain ⟨hx, hb, hml, hown, hts, hK, hE, hA⟩ := id F
  have hown : s.vm.findClass RX7 = some m.cls := hown
  generalize hHe : s.heap = H at hP
  have hS : va_S A s.heap H [] := by rw [← hHe]; exact va_S.rf
  have hl : lv_has ls 2 [(0, .ref h), (1, .int p0)] := hl
  refine lv_iload_n hx hb dX7_recheck_0 rfl (lv_at hl 1 rfl) ?_
  refine lv_aload_n hx hb dX7_recheck_1 rfl (lv_at hl 0 rfl) ?_
  refine va_get (D := sx_D G) (ci := 9) (v := .ref ca) (C := RX7) (T := TX7) (N := 5) hx hb hts inX7 hown hK hP 0 rfl rfl 4 (by decide) (hts _ q337) (fun _ h9 => h9) rfl dX7_recheck_2 ?_
  refine va_getN (D := sx_D G) (ci := 3) (v := .int 0) (C := RX1) (T := TX1) (N := 15) hx hb hts inX1 hown hK hP 1 rfl rfl 0 (by decide) (hts _ q178) (fun _ h9 => h9) rfl dX7_recheck_5 ?_
  have hcut : sx_cut [(h, .inr (9, [.ref b, .ref pl, .ref cr, .ref te, .ref ca])), (ca, .inr (3, [.int 0, .int 0, .ref k2, .ref k3, .ref k4, .ref k5, .ref k6, .ref k7, .ref k8, .ref k9, .ref k10, .ref k11, .ref k12, .ref k13, .ref k14]))] [] [(h, .inr (9, [.ref b, .ref pl, .ref cr, .ref te, .ref ca])), (ca, .inr (3, [.int 0, .int 0, .ref k2, .ref k3, .ref k4, .ref k5, .ref k6, .ref k7, .ref k8, .ref k9, .ref k10, .ref k11, .ref k12, .ref k13, .ref k14]))] [] [0, 1] := ⟨rfl, rfl, by decide, by decide, by decide⟩
  refine sx_xkv (sx_xrunS (As := [.int p0, .int 0]) (rest := []) F (m_X7_needIndex l hfl G H.size p0 0) mi_X7_needIndex q454 q453 ⟨⟨Nat.le_of_ble_eq_true rfl, Nat.le_of_ble_eq_true rfl⟩, Nat.le_of_ble_eq_true rfl, Nat.le_of_ble_eq_true rfl⟩ hcut hP hD hS rfl hl.1 rfl (Nat.le_of_ble_eq_true rfl) dX7_recheck_8) hcut hP hD hS hA (fun E ce q9 H locs hw9 hP hD hS hce hcv hcl => ?_) (fun u_1 H locs w_2 hP hD hS => ?_)
  · have hP : va_P (sx_D G) vwCl [(h, .inr (9, [.ref b, .ref pl, .ref cr, .ref te, .ref ca])), (ca, .inr (3, [.int 0, .int 0, .ref k2, .ref k3, .ref k4, .ref k5, .ref k6, .ref k7, .ref k8, .ref k9, .ref k10, .ref k11, .ref k12, .ref k13, .ref k14]))] H := hP
    have hD : va_D A [(h, .inr (9, [.ref b, .ref pl, .ref cr, .ref te, .ref ca])), (ca, .inr (3, [.int 0, .int 0, .ref k2, .ref k3, .ref k4, .ref k5, .ref k6, .ref k7, .ref k8, .ref k9, .ref k10, .ref k11, .ref k12, .ref k13, .ref k14]))] := hD
    exact sx_out (rest := []) hex hlk hce hcv hcl hw9.1 hS rfl rfl
  · have hP : va_P (sx_D G) vwCl [(h, .inr (9, [.ref b, .ref pl, .ref cr, .ref te, .ref ca])), (ca, .inr (3, [.int 0, .int 0, .ref k2, .ref k3, .ref k4, .ref k5, .ref k6, .ref k7, .ref k8, .ref k9, .ref k10, .ref k11, .ref k12, .ref k13, .ref k14]))] H := hP
    have hD : va_D A [(h, .inr (9, [.ref b, .ref pl, .ref cr, .ref te, .ref ca])), (ca, .inr (3, [.int 0, .int 0, .ref k2, .ref k3, .ref k4, .ref k5, .ref k6, .ref k7, .ref k8, .ref k9, .ref k10, .ref k11, .ref k12, .ref k13, .ref k14]))] := hD
    exact absurd (w_2) (by rw [zw_none]; decide)
set_option maxHeartbeats 4000000 in
set_option maxRecDepth 100000 in
theorem m_X7_ofEntry (l : Launch) (hfl : l.stackTraces = false) (G : sx_G) (sz : Nat) (h : Nat) (b : Nat) (pl : Nat) (cr : Nat) (te : Nat) (ca : Nat) (k2 : Nat) (k3 : Nat) (k4 : Nat) (k5 : Nat) (k6 : Nat) (k7 : Nat) (k8 : Nat) (k9 : Nat) (k10 : Nat) (k11 : Nat) (k12 : Nat) (k13 : Nat) (k14 : Nat) (p0 : Int32) (p1 : Int32) : sx_MetX l yX7_ofEntry cX7_ofEntry 3 (some .int) 7 103 1 6 G [.ref h, .int p0, .int p1] [(h, .inr (9, [.ref b, .ref pl, .ref cr, .ref te, .ref ca])), (ca, .inr (3, [.int 0, .int 0, .ref k2, .ref k3, .ref k4, .ref k5, .ref k6, .ref k7, .ref k8, .ref k9, .ref k10, .ref k11, .ref k12, .ref k13, .ref k14]))] sz (sx_Qi G (fun (r : Int32) (u : Unit) => False) (fun (u : Unit) => [])) (fun E => E = "java/lang/IndexOutOfBoundsException") := by
  refine sx_startX (by decide) rfl (fun p e s m below meth c A ls F hr hlk hnm hex hP hD hS hl => ?_)
  obtain ⟨hx, hb, hml, hown, hts, hK, hE, hA⟩ := id F
  have hown : s.vm.findClass RX7 = some m.cls := hown
  generalize hHe : s.heap = H at hP
  have hS : va_S A s.heap H [] := by rw [← hHe]; exact va_S.rf
  have hl : lv_has ls 3 [(0, .ref h), (1, .int p0), (2, .int p1)] := hl
  refine lv_iload_n hx hb dX7_ofEntry_0 rfl (lv_at hl 1 rfl) ?_
  refine lv_aload_n hx hb dX7_ofEntry_1 rfl (lv_at hl 0 rfl) ?_
  refine va_get (D := sx_D G) (ci := 9) (v := .ref ca) (C := RX7) (T := TX7) (N := 5) hx hb hts inX7 hown hK hP 0 rfl rfl 4 (by decide) (hts _ q337) (fun _ h9 => h9) rfl dX7_ofEntry_2 ?_
  refine va_getN (D := sx_D G) (ci := 3) (v := .int 0) (C := RX1) (T := TX1) (N := 15) hx hb hts inX1 hown hK hP 1 rfl rfl 0 (by decide) (hts _ q178) (fun _ h9 => h9) rfl dX7_ofEntry_5 ?_
  have hcut : sx_cut [(h, .inr (9, [.ref b, .ref pl, .ref cr, .ref te, .ref ca])), (ca, .inr (3, [.int 0, .int 0, .ref k2, .ref k3, .ref k4, .ref k5, .ref k6, .ref k7, .ref k8, .ref k9, .ref k10, .ref k11, .ref k12, .ref k13, .ref k14]))] [] [(h, .inr (9, [.ref b, .ref pl, .ref cr, .ref te, .ref ca])), (ca, .inr (3, [.int 0, .int 0, .ref k2, .ref k3, .ref k4, .ref k5, .ref k6, .ref k7, .ref k8, .ref k9, .ref k10, .ref k11, .ref k12, .ref k13, .ref k14]))] [] [0, 1] := ⟨rfl, rfl, by decide, by decide, by decide⟩
  refine sx_xkv (sx_xrunS (As := [.int p0, .int 0]) (rest := []) F (m_X7_needIndex l hfl G H.size p0 0) mi_X7_needIndex q454 q453 ⟨⟨Nat.le_of_ble_eq_true rfl, Nat.le_of_ble_eq_true rfl⟩, Nat.le_of_ble_eq_true rfl, Nat.le_of_ble_eq_true rfl⟩ hcut hP hD hS rfl hl.1 rfl (Nat.le_of_ble_eq_true rfl) dX7_ofEntry_8) hcut hP hD hS hA (fun E ce q9 H locs hw9 hP hD hS hce hcv hcl => ?_) (fun u_1 H locs w_2 hP hD hS => ?_)
  · have hP : va_P (sx_D G) vwCl [(h, .inr (9, [.ref b, .ref pl, .ref cr, .ref te, .ref ca])), (ca, .inr (3, [.int 0, .int 0, .ref k2, .ref k3, .ref k4, .ref k5, .ref k6, .ref k7, .ref k8, .ref k9, .ref k10, .ref k11, .ref k12, .ref k13, .ref k14]))] H := hP
    have hD : va_D A [(h, .inr (9, [.ref b, .ref pl, .ref cr, .ref te, .ref ca])), (ca, .inr (3, [.int 0, .int 0, .ref k2, .ref k3, .ref k4, .ref k5, .ref k6, .ref k7, .ref k8, .ref k9, .ref k10, .ref k11, .ref k12, .ref k13, .ref k14]))] := hD
    exact sx_out (rest := []) hex hlk hce hcv hcl hw9.1 hS rfl rfl
  · have hP : va_P (sx_D G) vwCl [(h, .inr (9, [.ref b, .ref pl, .ref cr, .ref te, .ref ca])), (ca, .inr (3, [.int 0, .int 0, .ref k2, .ref k3, .ref k4, .ref k5, .ref k6, .ref k7, .ref k8, .ref k9, .ref k10, .ref k11, .ref k12, .ref k13, .ref k14]))] H := hP
    have hD : va_D A [(h, .inr (9, [.ref b, .ref pl, .ref cr, .ref te, .ref ca])), (ca, .inr (3, [.int 0, .int 0, .ref k2, .ref k3, .ref k4, .ref k5, .ref k6, .ref k7, .ref k8, .ref k9, .ref k10, .ref k11, .ref k12, .ref k13, .ref k14]))] := hD
    exact absurd (w_2) (by rw [zw_none]; decide)
set_option maxHeartbeats 4000000 in
set_option maxRecDepth 100000 in
theorem m_X7_from (l : Launch) (hfl : l.stackTraces = false) (G : sx_G) (sz : Nat) (h : Nat) (b : Nat) (pl : Nat) (cr : Nat) (te : Nat) (ca : Nat) (k2 : Nat) (k3 : Nat) (k4 : Nat) (k5 : Nat) (k6 : Nat) (k7 : Nat) (k8 : Nat) (k9 : Nat) (k10 : Nat) (k11 : Nat) (k12 : Nat) (k13 : Nat) (k14 : Nat) (p0 : Int32) (p1 : Int32) : sx_MetX l yX7_from cX7_from 4 (some .int) 7 103 1 6 G [.ref h, .int p0, .int p1] [(h, .inr (9, [.ref b, .ref pl, .ref cr, .ref te, .ref ca])), (ca, .inr (3, [.int 0, .int 0, .ref k2, .ref k3, .ref k4, .ref k5, .ref k6, .ref k7, .ref k8, .ref k9, .ref k10, .ref k11, .ref k12, .ref k13, .ref k14]))] sz (sx_Qi G (fun (r : Int32) (u : Unit) => False) (fun (u : Unit) => [])) (fun E => E = "java/lang/IndexOutOfBoundsException") := by
  refine sx_startX (by decide) rfl (fun p e s m below meth c A ls F hr hlk hnm hex hP hD hS hl => ?_)
  obtain ⟨hx, hb, hml, hown, hts, hK, hE, hA⟩ := id F
  have hown : s.vm.findClass RX7 = some m.cls := hown
  generalize hHe : s.heap = H at hP
  have hS : va_S A s.heap H [] := by rw [← hHe]; exact va_S.rf
  have hl : lv_has ls 4 [(0, .ref h), (1, .int p0), (2, .int p1)] := hl
  refine lv_iload_n hx hb dX7_from_0 rfl (lv_at hl 1 rfl) ?_
  refine lv_aload_n hx hb dX7_from_1 rfl (lv_at hl 0 rfl) ?_
  refine va_get (D := sx_D G) (ci := 9) (v := .ref ca) (C := RX7) (T := TX7) (N := 5) hx hb hts inX7 hown hK hP 0 rfl rfl 4 (by decide) (hts _ q337) (fun _ h9 => h9) rfl dX7_from_2 ?_
  refine va_getN (D := sx_D G) (ci := 3) (v := .int 0) (C := RX1) (T := TX1) (N := 15) hx hb hts inX1 hown hK hP 1 rfl rfl 0 (by decide) (hts _ q178) (fun _ h9 => h9) rfl dX7_from_5 ?_
  have hcut : sx_cut [(h, .inr (9, [.ref b, .ref pl, .ref cr, .ref te, .ref ca])), (ca, .inr (3, [.int 0, .int 0, .ref k2, .ref k3, .ref k4, .ref k5, .ref k6, .ref k7, .ref k8, .ref k9, .ref k10, .ref k11, .ref k12, .ref k13, .ref k14]))] [] [(h, .inr (9, [.ref b, .ref pl, .ref cr, .ref te, .ref ca])), (ca, .inr (3, [.int 0, .int 0, .ref k2, .ref k3, .ref k4, .ref k5, .ref k6, .ref k7, .ref k8, .ref k9, .ref k10, .ref k11, .ref k12, .ref k13, .ref k14]))] [] [0, 1] := ⟨rfl, rfl, by decide, by decide, by decide⟩
  refine sx_xkv (sx_xrunS (As := [.int p0, .int 0]) (rest := []) F (m_X7_needIndex l hfl G H.size p0 0) mi_X7_needIndex q454 q453 ⟨⟨Nat.le_of_ble_eq_true rfl, Nat.le_of_ble_eq_true rfl⟩, Nat.le_of_ble_eq_true rfl, Nat.le_of_ble_eq_true rfl⟩ hcut hP hD hS rfl hl.1 rfl (Nat.le_of_ble_eq_true rfl) dX7_from_8) hcut hP hD hS hA (fun E ce q9 H locs hw9 hP hD hS hce hcv hcl => ?_) (fun u_1 H locs w_2 hP hD hS => ?_)
  · have hP : va_P (sx_D G) vwCl [(h, .inr (9, [.ref b, .ref pl, .ref cr, .ref te, .ref ca])), (ca, .inr (3, [.int 0, .int 0, .ref k2, .ref k3, .ref k4, .ref k5, .ref k6, .ref k7, .ref k8, .ref k9, .ref k10, .ref k11, .ref k12, .ref k13, .ref k14]))] H := hP
    have hD : va_D A [(h, .inr (9, [.ref b, .ref pl, .ref cr, .ref te, .ref ca])), (ca, .inr (3, [.int 0, .int 0, .ref k2, .ref k3, .ref k4, .ref k5, .ref k6, .ref k7, .ref k8, .ref k9, .ref k10, .ref k11, .ref k12, .ref k13, .ref k14]))] := hD
    exact sx_out (rest := []) hex hlk hce hcv hcl hw9.1 hS rfl rfl
  · have hP : va_P (sx_D G) vwCl [(h, .inr (9, [.ref b, .ref pl, .ref cr, .ref te, .ref ca])), (ca, .inr (3, [.int 0, .int 0, .ref k2, .ref k3, .ref k4, .ref k5, .ref k6, .ref k7, .ref k8, .ref k9, .ref k10, .ref k11, .ref k12, .ref k13, .ref k14]))] H := hP
    have hD : va_D A [(h, .inr (9, [.ref b, .ref pl, .ref cr, .ref te, .ref ca])), (ca, .inr (3, [.int 0, .int 0, .ref k2, .ref k3, .ref k4, .ref k5, .ref k6, .ref k7, .ref k8, .ref k9, .ref k10, .ref k11, .ref k12, .ref k13, .ref k14]))] := hD
    exact absurd (w_2) (by rw [zw_none]; decide)
set_option maxHeartbeats 4000000 in
set_option maxRecDepth 100000 in
theorem m_X7_wouldRun (l : Launch) (hfl : l.stackTraces = false) (G : sx_G) (sz : Nat) (h : Nat) (b : Nat) (pl : Nat) (cr : Nat) (te : Nat) (ca : Nat) (t1 : Nat) (t2 : Nat) (t3 : Nat) (p0 : Int32) (p1 : Int32) : sx_MetX l yX7_wouldRun cX7_wouldRun 3 (some .int) 7 103 1 6 G [.ref h, .int p0, .int p1] [(h, .inr (9, [.ref b, .ref pl, .ref cr, .ref te, .ref ca])), (te, .inr (8, [.int 0, .ref t1, .ref t2, .ref t3]))] sz (sx_Qi G (fun (r : Int32) (u : Unit) => False) (fun (u : Unit) => [])) (fun E => E = "java/lang/IndexOutOfBoundsException") := by
  refine sx_startX (by decide) rfl (fun p e s m below meth c A ls F hr hlk hnm hex hP hD hS hl => ?_)
  obtain ⟨hx, hb, hml, hown, hts, hK, hE, hA⟩ := id F
  have hown : s.vm.findClass RX7 = some m.cls := hown
  generalize hHe : s.heap = H at hP
  have hS : va_S A s.heap H [] := by rw [← hHe]; exact va_S.rf
  have hl : lv_has ls 3 [(0, .ref h), (1, .int p0), (2, .int p1)] := hl
  refine lv_iload_n hx hb dX7_wouldRun_0 rfl (lv_at hl 1 rfl) ?_
  refine lv_aload_n hx hb dX7_wouldRun_1 rfl (lv_at hl 0 rfl) ?_
  refine va_get (D := sx_D G) (ci := 9) (v := .ref te) (C := RX7) (T := TX7) (N := 5) hx hb hts inX7 hown hK hP 0 rfl rfl 3 (by decide) (hts _ q336) (fun _ h9 => h9) rfl dX7_wouldRun_2 ?_
  refine va_getN (D := sx_D G) (ci := 8) (v := .int 0) (C := RX6) (T := TX6) (N := 4) hx hb hts inX6 hown hK hP 1 rfl rfl 0 (by decide) (hts _ q149) (fun _ h9 => h9) rfl dX7_wouldRun_5 ?_
  have hcut : sx_cut [(h, .inr (9, [.ref b, .ref pl, .ref cr, .ref te, .ref ca])), (te, .inr (8, [.int 0, .ref t1, .ref t2, .ref t3]))] [] [(h, .inr (9, [.ref b, .ref pl, .ref cr, .ref te, .ref ca])), (te, .inr (8, [.int 0, .ref t1, .ref t2, .ref t3]))] [] [0, 1] := ⟨rfl, rfl, by decide, by decide, by decide⟩
  refine sx_xkv (sx_xrunS (As := [.int p0, .int 0]) (rest := []) F (m_X7_needIndex l hfl G H.size p0 0) mi_X7_needIndex q454 q453 ⟨⟨Nat.le_of_ble_eq_true rfl, Nat.le_of_ble_eq_true rfl⟩, Nat.le_of_ble_eq_true rfl, Nat.le_of_ble_eq_true rfl⟩ hcut hP hD hS rfl hl.1 rfl (Nat.le_of_ble_eq_true rfl) dX7_wouldRun_8) hcut hP hD hS hA (fun E ce q9 H locs hw9 hP hD hS hce hcv hcl => ?_) (fun u_1 H locs w_2 hP hD hS => ?_)
  · have hP : va_P (sx_D G) vwCl [(h, .inr (9, [.ref b, .ref pl, .ref cr, .ref te, .ref ca])), (te, .inr (8, [.int 0, .ref t1, .ref t2, .ref t3]))] H := hP
    have hD : va_D A [(h, .inr (9, [.ref b, .ref pl, .ref cr, .ref te, .ref ca])), (te, .inr (8, [.int 0, .ref t1, .ref t2, .ref t3]))] := hD
    exact sx_out (rest := []) hex hlk hce hcv hcl hw9.1 hS rfl rfl
  · have hP : va_P (sx_D G) vwCl [(h, .inr (9, [.ref b, .ref pl, .ref cr, .ref te, .ref ca])), (te, .inr (8, [.int 0, .ref t1, .ref t2, .ref t3]))] H := hP
    have hD : va_D A [(h, .inr (9, [.ref b, .ref pl, .ref cr, .ref te, .ref ca])), (te, .inr (8, [.int 0, .ref t1, .ref t2, .ref t3]))] := hD
    exact absurd (w_2) (by rw [zw_none]; decide)
set_option maxHeartbeats 4000000 in
set_option maxRecDepth 100000 in
theorem m_X7_wouldBeWrong (l : Launch) (hfl : l.stackTraces = false) (G : sx_G) (sz : Nat) (h : Nat) (b : Nat) (pl : Nat) (cr : Nat) (te : Nat) (ca : Nat) (t1 : Nat) (t2 : Nat) (t3 : Nat) (p0 : Int32) (p1 : Int32) : sx_MetX l yX7_wouldBeWrong cX7_wouldBeWrong 3 (some .boolean) 7 103 1 6 G [.ref h, .int p0, .int p1] [(h, .inr (9, [.ref b, .ref pl, .ref cr, .ref te, .ref ca])), (te, .inr (8, [.int 0, .ref t1, .ref t2, .ref t3]))] sz (sx_Qi G (fun (r : Int32) (u : Unit) => False) (fun (u : Unit) => [])) (fun E => E = "java/lang/IndexOutOfBoundsException") := by
  refine sx_startX (by decide) rfl (fun p e s m below meth c A ls F hr hlk hnm hex hP hD hS hl => ?_)
  obtain ⟨hx, hb, hml, hown, hts, hK, hE, hA⟩ := id F
  have hown : s.vm.findClass RX7 = some m.cls := hown
  generalize hHe : s.heap = H at hP
  have hS : va_S A s.heap H [] := by rw [← hHe]; exact va_S.rf
  have hl : lv_has ls 3 [(0, .ref h), (1, .int p0), (2, .int p1)] := hl
  refine lv_iload_n hx hb dX7_wouldBeWrong_0 rfl (lv_at hl 1 rfl) ?_
  refine lv_aload_n hx hb dX7_wouldBeWrong_1 rfl (lv_at hl 0 rfl) ?_
  refine va_get (D := sx_D G) (ci := 9) (v := .ref te) (C := RX7) (T := TX7) (N := 5) hx hb hts inX7 hown hK hP 0 rfl rfl 3 (by decide) (hts _ q336) (fun _ h9 => h9) rfl dX7_wouldBeWrong_2 ?_
  refine va_getN (D := sx_D G) (ci := 8) (v := .int 0) (C := RX6) (T := TX6) (N := 4) hx hb hts inX6 hown hK hP 1 rfl rfl 0 (by decide) (hts _ q149) (fun _ h9 => h9) rfl dX7_wouldBeWrong_5 ?_
  have hcut : sx_cut [(h, .inr (9, [.ref b, .ref pl, .ref cr, .ref te, .ref ca])), (te, .inr (8, [.int 0, .ref t1, .ref t2, .ref t3]))] [] [(h, .inr (9, [.ref b, .ref pl, .ref cr, .ref te, .ref ca])), (te, .inr (8, [.int 0, .ref t1, .ref t2, .ref t3]))] [] [0, 1] := ⟨rfl, rfl, by decide, by decide, by decide⟩
  refine sx_xkv (sx_xrunS (As := [.int p0, .int 0]) (rest := []) F (m_X7_needIndex l hfl G H.size p0 0) mi_X7_needIndex q454 q453 ⟨⟨Nat.le_of_ble_eq_true rfl, Nat.le_of_ble_eq_true rfl⟩, Nat.le_of_ble_eq_true rfl, Nat.le_of_ble_eq_true rfl⟩ hcut hP hD hS rfl hl.1 rfl (Nat.le_of_ble_eq_true rfl) dX7_wouldBeWrong_8) hcut hP hD hS hA (fun E ce q9 H locs hw9 hP hD hS hce hcv hcl => ?_) (fun u_1 H locs w_2 hP hD hS => ?_)
  · have hP : va_P (sx_D G) vwCl [(h, .inr (9, [.ref b, .ref pl, .ref cr, .ref te, .ref ca])), (te, .inr (8, [.int 0, .ref t1, .ref t2, .ref t3]))] H := hP
    have hD : va_D A [(h, .inr (9, [.ref b, .ref pl, .ref cr, .ref te, .ref ca])), (te, .inr (8, [.int 0, .ref t1, .ref t2, .ref t3]))] := hD
    exact sx_out (rest := []) hex hlk hce hcv hcl hw9.1 hS rfl rfl
  · have hP : va_P (sx_D G) vwCl [(h, .inr (9, [.ref b, .ref pl, .ref cr, .ref te, .ref ca])), (te, .inr (8, [.int 0, .ref t1, .ref t2, .ref t3]))] H := hP
    have hD : va_D A [(h, .inr (9, [.ref b, .ref pl, .ref cr, .ref te, .ref ca])), (te, .inr (8, [.int 0, .ref t1, .ref t2, .ref t3]))] := hD
    exact absurd (w_2) (by rw [zw_none]; decide)
set_option maxHeartbeats 4000000 in
set_option maxRecDepth 100000 in
theorem m_X7_wouldGo (l : Launch) (hfl : l.stackTraces = false) (G : sx_G) (sz : Nat) (h : Nat) (b : Nat) (pl : Nat) (cr : Nat) (te : Nat) (ca : Nat) (t1 : Nat) (t2 : Nat) (t3 : Nat) (p0 : Int32) (p1 : Int32) : sx_MetX l yX7_wouldGo cX7_wouldGo 3 (some .int) 7 103 1 6 G [.ref h, .int p0, .int p1] [(h, .inr (9, [.ref b, .ref pl, .ref cr, .ref te, .ref ca])), (te, .inr (8, [.int 0, .ref t1, .ref t2, .ref t3]))] sz (sx_Qi G (fun (r : Int32) (u : Unit) => False) (fun (u : Unit) => [])) (fun E => E = "java/lang/IndexOutOfBoundsException") := by
  refine sx_startX (by decide) rfl (fun p e s m below meth c A ls F hr hlk hnm hex hP hD hS hl => ?_)
  obtain ⟨hx, hb, hml, hown, hts, hK, hE, hA⟩ := id F
  have hown : s.vm.findClass RX7 = some m.cls := hown
  generalize hHe : s.heap = H at hP
  have hS : va_S A s.heap H [] := by rw [← hHe]; exact va_S.rf
  have hl : lv_has ls 3 [(0, .ref h), (1, .int p0), (2, .int p1)] := hl
  refine lv_iload_n hx hb dX7_wouldGo_0 rfl (lv_at hl 1 rfl) ?_
  refine lv_aload_n hx hb dX7_wouldGo_1 rfl (lv_at hl 0 rfl) ?_
  refine va_get (D := sx_D G) (ci := 9) (v := .ref te) (C := RX7) (T := TX7) (N := 5) hx hb hts inX7 hown hK hP 0 rfl rfl 3 (by decide) (hts _ q336) (fun _ h9 => h9) rfl dX7_wouldGo_2 ?_
  refine va_getN (D := sx_D G) (ci := 8) (v := .int 0) (C := RX6) (T := TX6) (N := 4) hx hb hts inX6 hown hK hP 1 rfl rfl 0 (by decide) (hts _ q149) (fun _ h9 => h9) rfl dX7_wouldGo_5 ?_
  have hcut : sx_cut [(h, .inr (9, [.ref b, .ref pl, .ref cr, .ref te, .ref ca])), (te, .inr (8, [.int 0, .ref t1, .ref t2, .ref t3]))] [] [(h, .inr (9, [.ref b, .ref pl, .ref cr, .ref te, .ref ca])), (te, .inr (8, [.int 0, .ref t1, .ref t2, .ref t3]))] [] [0, 1] := ⟨rfl, rfl, by decide, by decide, by decide⟩
  refine sx_xkv (sx_xrunS (As := [.int p0, .int 0]) (rest := []) F (m_X7_needIndex l hfl G H.size p0 0) mi_X7_needIndex q454 q453 ⟨⟨Nat.le_of_ble_eq_true rfl, Nat.le_of_ble_eq_true rfl⟩, Nat.le_of_ble_eq_true rfl, Nat.le_of_ble_eq_true rfl⟩ hcut hP hD hS rfl hl.1 rfl (Nat.le_of_ble_eq_true rfl) dX7_wouldGo_8) hcut hP hD hS hA (fun E ce q9 H locs hw9 hP hD hS hce hcv hcl => ?_) (fun u_1 H locs w_2 hP hD hS => ?_)
  · have hP : va_P (sx_D G) vwCl [(h, .inr (9, [.ref b, .ref pl, .ref cr, .ref te, .ref ca])), (te, .inr (8, [.int 0, .ref t1, .ref t2, .ref t3]))] H := hP
    have hD : va_D A [(h, .inr (9, [.ref b, .ref pl, .ref cr, .ref te, .ref ca])), (te, .inr (8, [.int 0, .ref t1, .ref t2, .ref t3]))] := hD
    exact sx_out (rest := []) hex hlk hce hcv hcl hw9.1 hS rfl rfl
  · have hP : va_P (sx_D G) vwCl [(h, .inr (9, [.ref b, .ref pl, .ref cr, .ref te, .ref ca])), (te, .inr (8, [.int 0, .ref t1, .ref t2, .ref t3]))] H := hP
    have hD : va_D A [(h, .inr (9, [.ref b, .ref pl, .ref cr, .ref te, .ref ca])), (te, .inr (8, [.int 0, .ref t1, .ref t2, .ref t3]))] := hD
    exact absurd (w_2) (by rw [zw_none]; decide)
set_option maxHeartbeats 4000000 in
set_option maxRecDepth 100000 in
theorem m_X7_worker (l : Launch) (hfl : l.stackTraces = false) (G : sx_G) (sz : Nat) (h : Nat) (b : Nat) (pl : Nat) (cr : Nat) (te : Nat) (ca : Nat) (c1 : Nat) (c2 : Nat) (c3 : Nat) (c4 : Nat) (c5 : Nat) (p0 : Int32) : sx_MetX l yX7_worker cX7_worker 3 (some .int) 7 102 2 12 G [.ref h, .int p0] [(h, .inr (9, [.ref b, .ref pl, .ref cr, .ref te, .ref ca])), (cr, .inr (4, [.int 0, .ref c1, .ref c2, .ref c3, .ref c4, .ref c5])), (c1, .inl (G.2.1, 4, .inl (fun _ => 0))), (c2, .inl (G.2.1, 4, .inl (fun _ => 0)))] sz (sx_Qi G (fun (r : Int32) (u : Unit) => r = 0 ∧ z1 (zw 0 9 p0) = 0) (fun (u : Unit) => [])) (fun E => E = "java/lang/IllegalArgumentException" ∧ z1 (zw 0 9 p0) = 1) := by
  refine sx_startX (by decide) rfl (fun p e s m below meth c A ls F hr hlk hnm hex hP hD hS hl => ?_)
  obtain ⟨hx, hb, hml, hown, hts, hK, hE, hA⟩ := id F
  have hown : s.vm.findClass RX7 = some m.cls := hown
  generalize hHe : s.heap = H at hP
  have hS : va_S A s.heap H [] := by rw [← hHe]; exact va_S.rf
  have hl : lv_has ls 3 [(0, .ref h), (1, .int p0)] := hl
  refine lv_iload_n hx hb dX7_worker_0 rfl (lv_at hl 1 rfl) ?_
  refine lv_iconst (v := 0) hx hb dX7_worker_1 (by decide) ?_
  refine lv_bipush (v := 9) hx hb dX7_worker_2 (by decide) ?_
  have hcut : sx_cut [(h, .inr (9, [.ref b, .ref pl, .ref cr, .ref te, .ref ca])), (cr, .inr (4, [.int 0, .ref c1, .ref c2, .ref c3, .ref c4, .ref c5])), (c1, .inl (G.2.1, 4, .inl (fun _ => 0))), (c2, .inl (G.2.1, 4, .inl (fun _ => 0)))] [] [(h, .inr (9, [.ref b, .ref pl, .ref cr, .ref te, .ref ca])), (cr, .inr (4, [.int 0, .ref c1, .ref c2, .ref c3, .ref c4, .ref c5])), (c1, .inl (G.2.1, 4, .inl (fun _ => 0))), (c2, .inl (G.2.1, 4, .inl (fun _ => 0)))] [] [0, 1, 2, 3] := ⟨rfl, rfl, by decide, by decide, by decide⟩
  refine sx_ki (sx_runS (As := [.int p0, .int 0, .int 9]) (rest := []) F (m_X7_isWithin l G H.size p0 0 9) mi_X7_isWithin q368 q367 ⟨⟨Nat.le_of_ble_eq_true rfl, Nat.le_of_ble_eq_true rfl⟩, Nat.le_of_ble_eq_true rfl, Nat.le_of_ble_eq_true rfl⟩ hcut hP hD hS rfl hl.1 rfl (Nat.le_of_ble_eq_true rfl) dX7_worker_4) hcut hP hD hS hA (fun r_3 u_1 H locs w_2 hP hD hS => ?_)
  have hP : va_P (sx_D G) vwCl [(h, .inr (9, [.ref b, .ref pl, .ref cr, .ref te, .ref ca])), (cr, .inr (4, [.int 0, .ref c1, .ref c2, .ref c3, .ref c4, .ref c5])), (c1, .inl (G.2.1, 4, .inl (fun _ => 0))), (c2, .inl (G.2.1, 4, .inl (fun _ => 0)))] H := hP
  have hD : va_D A [(h, .inr (9, [.ref b, .ref pl, .ref cr, .ref te, .ref ca])), (cr, .inr (4, [.int 0, .ref c1, .ref c2, .ref c3, .ref c4, .ref c5])), (c1, .inl (G.2.1, 4, .inl (fun _ => 0))), (c2, .inl (G.2.1, 4, .inl (fun _ => 0)))] := hD
  have w_2 : r_3 = zb (zw 0 9 p0) := w_2
  have hcut : sx_cut [(h, .inr (9, [.ref b, .ref pl, .ref cr, .ref te, .ref ca])), (cr, .inr (4, [.int 0, .ref c1, .ref c2, .ref c3, .ref c4, .ref c5])), (c1, .inl (G.2.1, 4, .inl (fun _ => 0))), (c2, .inl (G.2.1, 4, .inl (fun _ => 0)))] [] [(h, .inr (9, [.ref b, .ref pl, .ref cr, .ref te, .ref ca])), (cr, .inr (4, [.int 0, .ref c1, .ref c2, .ref c3, .ref c4, .ref c5])), (c1, .inl (G.2.1, 4, .inl (fun _ => 0))), (c2, .inl (G.2.1, 4, .inl (fun _ => 0)))] [] [0, 1, 2, 3] := ⟨rfl, rfl, by decide, by decide, by decide⟩
  refine sx_xkv (sx_xrunS (As := [.int r_3]) (rest := []) F (m_X7_needArgument l hfl G H.size r_3) mi_X7_needArgument q371 q370 ⟨⟨Nat.le_of_ble_eq_true rfl, Nat.le_of_ble_eq_true rfl⟩, Nat.le_of_ble_eq_true rfl, Nat.le_of_ble_eq_true rfl⟩ hcut hP hD hS rfl hl.1 rfl (Nat.le_of_ble_eq_true rfl) dX7_worker_7) hcut hP hD hS hA (fun E ce q9 H locs hw9 hP hD hS hce hcv hcl => ?_) (fun u_4 H locs w_5 hP hD hS => ?_)
  · have hP : va_P (sx_D G) vwCl [(h, .inr (9, [.ref b, .ref pl, .ref cr, .ref te, .ref ca])), (cr, .inr (4, [.int 0, .ref c1, .ref c2, .ref c3, .ref c4, .ref c5])), (c1, .inl (G.2.1, 4, .inl (fun _ => 0))), (c2, .inl (G.2.1, 4, .inl (fun _ => 0)))] H := hP
    have hD : va_D A [(h, .inr (9, [.ref b, .ref pl, .ref cr, .ref te, .ref ca])), (cr, .inr (4, [.int 0, .ref c1, .ref c2, .ref c3, .ref c4, .ref c5])), (c1, .inl (G.2.1, 4, .inl (fun _ => 0))), (c2, .inl (G.2.1, 4, .inl (fun _ => 0)))] := hD
    exact sx_out (rest := []) hex hlk hce hcv hcl ⟨hw9.1, z1_1 (zb_f w_2 hw9.2)⟩ hS rfl rfl
  · have hP : va_P (sx_D G) vwCl [(h, .inr (9, [.ref b, .ref pl, .ref cr, .ref te, .ref ca])), (cr, .inr (4, [.int 0, .ref c1, .ref c2, .ref c3, .ref c4, .ref c5])), (c1, .inl (G.2.1, 4, .inl (fun _ => 0))), (c2, .inl (G.2.1, 4, .inl (fun _ => 0)))] H := hP
    have hD : va_D A [(h, .inr (9, [.ref b, .ref pl, .ref cr, .ref te, .ref ca])), (cr, .inr (4, [.int 0, .ref c1, .ref c2, .ref c3, .ref c4, .ref c5])), (c1, .inl (G.2.1, 4, .inl (fun _ => 0))), (c2, .inl (G.2.1, 4, .inl (fun _ => 0)))] := hD
    refine lv_aload_n hx hb dX7_worker_10 rfl (lv_at hl 0 rfl) ?_
    refine va_get (D := sx_D G) (ci := 9) (v := .ref cr) (C := RX7) (T := TX7) (N := 5) hx hb hts inX7 hown hK hP 0 rfl rfl 2 (by decide) (hts _ q335) (fun _ h9 => h9) rfl dX7_worker_11 ?_
    refine va_getN (D := sx_D G) (ci := 4) (v := .int 0) (C := RX2) (T := TX2) (N := 6) hx hb hts inX2 hown hK hP 1 rfl rfl 0 (by decide) (hts _ q114) (fun _ h9 => h9) rfl dX7_worker_14 ?_
    refine lv_iconst (v := 4) hx hb dX7_worker_17 (by decide) ?_
    refine lv_icmp_ge (tgt := 25) hx hb dX7_worker_18 (by decide) (fun c_7 => absurd c_7 (by decide)) (fun c_7 => ?_)
    refine lv_iconst (v := 1) hx hb dX7_worker_21 (by decide) ?_
    refine lv_goto (tgt := 26) hx hb dX7_worker_22 (by decide) ?_
    have hcut : sx_cut [(h, .inr (9, [.ref b, .ref pl, .ref cr, .ref te, .ref ca])), (cr, .inr (4, [.int 0, .ref c1, .ref c2, .ref c3, .ref c4, .ref c5])), (c1, .inl (G.2.1, 4, .inl (fun _ => 0))), (c2, .inl (G.2.1, 4, .inl (fun _ => 0)))] [] [(h, .inr (9, [.ref b, .ref pl, .ref cr, .ref te, .ref ca])), (cr, .inr (4, [.int 0, .ref c1, .ref c2, .ref c3, .ref c4, .ref c5])), (c1, .inl (G.2.1, 4, .inl (fun _ => 0))), (c2, .inl (G.2.1, 4, .inl (fun _ => 0)))] [] [0, 1, 2, 3] := ⟨rfl, rfl, by decide, by decide, by decide⟩
    refine sx_xkv (sx_xrunS (As := [.int 1]) (rest := []) F (m_X7_needState l hfl G H.size 1) mi_X7_needState q676 q675 ⟨⟨Nat.le_of_ble_eq_true rfl, Nat.le_of_ble_eq_true rfl⟩, Nat.le_of_ble_eq_true rfl, Nat.le_of_ble_eq_true rfl⟩ hcut hP hD hS rfl hl.1 rfl (Nat.le_of_ble_eq_true rfl) dX7_worker_26) hcut hP hD hS hA (fun E ce q9 H locs hw9 hP hD hS hce hcv hcl => ?_) (fun u_8 H locs w_9 hP hD hS => ?_)
    · have hP : va_P (sx_D G) vwCl [(h, .inr (9, [.ref b, .ref pl, .ref cr, .ref te, .ref ca])), (cr, .inr (4, [.int 0, .ref c1, .ref c2, .ref c3, .ref c4, .ref c5])), (c1, .inl (G.2.1, 4, .inl (fun _ => 0))), (c2, .inl (G.2.1, 4, .inl (fun _ => 0)))] H := hP
      have hD : va_D A [(h, .inr (9, [.ref b, .ref pl, .ref cr, .ref te, .ref ca])), (cr, .inr (4, [.int 0, .ref c1, .ref c2, .ref c3, .ref c4, .ref c5])), (c1, .inl (G.2.1, 4, .inl (fun _ => 0))), (c2, .inl (G.2.1, 4, .inl (fun _ => 0)))] := hD
      exact sx_out (rest := []) hex hlk hce hcv hcl (absurd hw9.2 (by decide)) hS rfl rfl
    · have hP : va_P (sx_D G) vwCl [(h, .inr (9, [.ref b, .ref pl, .ref cr, .ref te, .ref ca])), (cr, .inr (4, [.int 0, .ref c1, .ref c2, .ref c3, .ref c4, .ref c5])), (c1, .inl (G.2.1, 4, .inl (fun _ => 0))), (c2, .inl (G.2.1, 4, .inl (fun _ => 0)))] H := hP
      have hD : va_D A [(h, .inr (9, [.ref b, .ref pl, .ref cr, .ref te, .ref ca])), (cr, .inr (4, [.int 0, .ref c1, .ref c2, .ref c3, .ref c4, .ref c5])), (c1, .inl (G.2.1, 4, .inl (fun _ => 0))), (c2, .inl (G.2.1, 4, .inl (fun _ => 0)))] := hD
      refine lv_aload_n hx hb dX7_worker_29 rfl (lv_at hl 0 rfl) ?_
      refine va_get (D := sx_D G) (ci := 9) (v := .ref cr) (C := RX7) (T := TX7) (N := 5) hx hb hts inX7 hown hK hP 0 rfl rfl 2 (by decide) (hts _ q335) (fun _ h9 => h9) rfl dX7_worker_30 ?_
      refine va_getN (D := sx_D G) (ci := 4) (v := .int 0) (C := RX2) (T := TX2) (N := 6) hx hb hts inX2 hown hK hP 1 rfl rfl 0 (by decide) (hts _ q114) (fun _ h9 => h9) rfl dX7_worker_33 ?_
      refine lv_istore_n (lv' := [(2, .int 0), (0, .ref h), (1, .int p0)]) hx hb dX7_worker_36 rfl hl (by decide) rfl (fun ls hl => ?_)
      refine lv_aload_n hx hb dX7_worker_37 rfl (lv_at hl 1 rfl) ?_
      refine va_get (D := sx_D G) (ci := 9) (v := .ref cr) (C := RX7) (T := TX7) (N := 5) hx hb hts inX7 hown hK hP 0 rfl rfl 2 (by decide) (hts _ q335) (fun _ h9 => h9) rfl dX7_worker_38 ?_
      refine va_getN (D := sx_D G) (ci := 4) (v := .ref c1) (C := RX2) (T := TX2) (N := 6) hx hb hts inX2 hown hK hP 1 rfl rfl 1 (by decide) (hts _ q116) (fun _ h9 => h9) rfl dX7_worker_41 ?_
      refine lv_iload_n hx hb dX7_worker_44 rfl (lv_at hl 0 rfl) ?_
      refine lv_iload_n hx hb dX7_worker_45 rfl (lv_at hl 2 rfl) ?_
      refine va_iast (D := sx_D G) (tys := sx_tys G) hx hb hK hP hD hS 2 0 rfl rfl (vp_in_iff.mpr (by decide)) dX7_worker_46 (fun H locs hP hD hS => ?_)
      have hP : va_P (sx_D G) vwCl [(h, .inr (9, [.ref b, .ref pl, .ref cr, .ref te, .ref ca])), (cr, .inr (4, [.int 0, .ref c1, .ref c2, .ref c3, .ref c4, .ref c5])), (c1, .inl (G.2.1, 4, .inl (upd (fun _ => 0) (0 : Int32).toNatClampNeg p0))), (c2, .inl (G.2.1, 4, .inl (fun _ => 0)))] H := hP
      have hD : va_D A [(h, .inr (9, [.ref b, .ref pl, .ref cr, .ref te, .ref ca])), (cr, .inr (4, [.int 0, .ref c1, .ref c2, .ref c3, .ref c4, .ref c5])), (c1, .inl (G.2.1, 4, .inl (upd (fun _ => 0) (0 : Int32).toNatClampNeg p0))), (c2, .inl (G.2.1, 4, .inl (fun _ => 0)))] := hD
      refine lv_aload_n hx hb dX7_worker_47 rfl (lv_at hl 1 rfl) ?_
      refine va_get (D := sx_D G) (ci := 9) (v := .ref cr) (C := RX7) (T := TX7) (N := 5) hx hb hts inX7 hown hK hP 0 rfl rfl 2 (by decide) (hts _ q335) (fun _ h9 => h9) rfl dX7_worker_48 ?_
      refine va_getN (D := sx_D G) (ci := 4) (v := .ref c2) (C := RX2) (T := TX2) (N := 6) hx hb hts inX2 hown hK hP 1 rfl rfl 2 (by decide) (hts _ q119) (fun _ h9 => h9) rfl dX7_worker_51 ?_
      refine lv_iload_n hx hb dX7_worker_54 rfl (lv_at hl 0 rfl) ?_
      refine lv_bipush (v := 50) hx hb dX7_worker_55 (by decide) ?_
      refine va_iast (D := sx_D G) (tys := sx_tys G) hx hb hK hP hD hS 3 0 rfl rfl (vp_in_iff.mpr (by decide)) dX7_worker_57 (fun H locs hP hD hS => ?_)
      have hP : va_P (sx_D G) vwCl [(h, .inr (9, [.ref b, .ref pl, .ref cr, .ref te, .ref ca])), (cr, .inr (4, [.int 0, .ref c1, .ref c2, .ref c3, .ref c4, .ref c5])), (c1, .inl (G.2.1, 4, .inl (upd (fun _ => 0) (0 : Int32).toNatClampNeg p0))), (c2, .inl (G.2.1, 4, .inl (upd (fun _ => 0) (0 : Int32).toNatClampNeg 50)))] H := hP
      have hD : va_D A [(h, .inr (9, [.ref b, .ref pl, .ref cr, .ref te, .ref ca])), (cr, .inr (4, [.int 0, .ref c1, .ref c2, .ref c3, .ref c4, .ref c5])), (c1, .inl (G.2.1, 4, .inl (upd (fun _ => 0) (0 : Int32).toNatClampNeg p0))), (c2, .inl (G.2.1, 4, .inl (upd (fun _ => 0) (0 : Int32).toNatClampNeg 50)))] := hD
      refine lv_aload_n hx hb dX7_worker_58 rfl (lv_at hl 1 rfl) ?_
      refine va_get (D := sx_D G) (ci := 9) (v := .ref cr) (C := RX7) (T := TX7) (N := 5) hx hb hts inX7 hown hK hP 0 rfl rfl 2 (by decide) (hts _ q335) (fun _ h9 => h9) rfl dX7_worker_59 ?_
      refine lv_dup hx hb dX7_worker_62 rfl ?_
      refine va_getN (D := sx_D G) (ci := 4) (v := .int 0) (C := RX2) (T := TX2) (N := 6) hx hb hts inX2 hown hK hP 1 rfl rfl 0 (by decide) (hts _ q114) (fun _ h9 => h9) rfl dX7_worker_63 ?_
      refine lv_iconst (v := 1) hx hb dX7_worker_66 (by decide) ?_
      refine lv_iadd hx hb dX7_worker_67 ?_
      refine lv_topi (fun x_11 ex_11 => ?_)
      have ex_11 : x_11 = (1 : Int32) := ex_11.trans (by decide)
      subst ex_11
      refine va_putN (D := sx_D G) (ci := 4) (v := .int 1) (ty := tyX2 0) (C := RX2) (T := TX2) (N := 6) hx hb hts inX2 tyX2 tyX2_ok nmX2 hown hK hP hD hS 1 rfl rfl 0 (by decide) (hts _ q114) (fun _ h9 => h9) rfl (by decide +kernel) rfl rfl (Nat.le_of_ble_eq_true rfl) dX7_worker_68 (fun H locs hP hD hS => ?_)
      have hP : va_P (sx_D G) vwCl [(h, .inr (9, [.ref b, .ref pl, .ref cr, .ref te, .ref ca])), (cr, .inr (4, [.int 1, .ref c1, .ref c2, .ref c3, .ref c4, .ref c5])), (c1, .inl (G.2.1, 4, .inl (upd (fun _ => 0) (0 : Int32).toNatClampNeg p0))), (c2, .inl (G.2.1, 4, .inl (upd (fun _ => 0) (0 : Int32).toNatClampNeg 50)))] H := hP
      have hD : va_D A [(h, .inr (9, [.ref b, .ref pl, .ref cr, .ref te, .ref ca])), (cr, .inr (4, [.int 1, .ref c1, .ref c2, .ref c3, .ref c4, .ref c5])), (c1, .inl (G.2.1, 4, .inl (upd (fun _ => 0) (0 : Int32).toNatClampNeg p0))), (c2, .inl (G.2.1, 4, .inl (upd (fun _ => 0) (0 : Int32).toNatClampNeg 50)))] := hD
      refine lv_iload_n hx hb dX7_worker_71 rfl (lv_at hl 0 rfl) ?_
      have hP := hP.sub (ws' := []) [] rfl
      have hD := hD.sub (ws' := []) [] (by decide) rfl
      exact vx_ret (sx_iret (v := 0) () hx hb hr rfl hlk hP hD hS ⟨rfl, z1_0 (zb_t w_2 w_5)⟩ dX7_worker_72 rfl rfl)
set_option maxHeartbeats 4000000 in
set_option maxRecDepth 100000 in
theorem m_X7_team (l : Launch) (hfl : l.stackTraces = false) (G : sx_G) (sz : Nat) (h : Nat) (b : Nat) (pl : Nat) (cr : Nat) (te : Nat) (ca : Nat) (t1 : Nat) (t2 : Nat) (t3 : Nat) (p0 : Int32) : sx_MetX l yX7_team cX7_team 3 (some .int) 7 102 2 12 G [.ref h, .int p0] [(h, .inr (9, [.ref b, .ref pl, .ref cr, .ref te, .ref ca])), (te, .inr (8, [.int 0, .ref t1, .ref t2, .ref t3])), (t1, .inl (G.2.1, 4, .inl (fun _ => 0)))] sz (sx_Qi G (fun (r : Int32) (u : Unit) => r = 0 ∧ z1 (zw 0 100 p0) = 0) (fun (u : Unit) => [])) (fun E => E = "java/lang/IllegalArgumentException" ∧ z1 (zw 0 100 p0) = 1) := by
  refine sx_startX (by decide) rfl (fun p e s m below meth c A ls F hr hlk hnm hex hP hD hS hl => ?_)
  obtain ⟨hx, hb, hml, hown, hts, hK, hE, hA⟩ := id F
  have hown : s.vm.findClass RX7 = some m.cls := hown
  generalize hHe : s.heap = H at hP
  have hS : va_S A s.heap H [] := by rw [← hHe]; exact va_S.rf
  have hl : lv_has ls 3 [(0, .ref h), (1, .int p0)] := hl
  refine lv_iload_n hx hb dX7_team_0 rfl (lv_at hl 1 rfl) ?_
  refine lv_iconst (v := 0) hx hb dX7_team_1 (by decide) ?_
  refine lv_bipush (v := 100) hx hb dX7_team_2 (by decide) ?_
  have hcut : sx_cut [(h, .inr (9, [.ref b, .ref pl, .ref cr, .ref te, .ref ca])), (te, .inr (8, [.int 0, .ref t1, .ref t2, .ref t3])), (t1, .inl (G.2.1, 4, .inl (fun _ => 0)))] [] [(h, .inr (9, [.ref b, .ref pl, .ref cr, .ref te, .ref ca])), (te, .inr (8, [.int 0, .ref t1, .ref t2, .ref t3])), (t1, .inl (G.2.1, 4, .inl (fun _ => 0)))] [] [0, 1, 2] := ⟨rfl, rfl, by decide, by decide, by decide⟩
  refine sx_ki (sx_runS (As := [.int p0, .int 0, .int 100]) (rest := []) F (m_X7_isWithin l G H.size p0 0 100) mi_X7_isWithin q368 q367 ⟨⟨Nat.le_of_ble_eq_true rfl, Nat.le_of_ble_eq_true rfl⟩, Nat.le_of_ble_eq_true rfl, Nat.le_of_ble_eq_true rfl⟩ hcut hP hD hS rfl hl.1 rfl (Nat.le_of_ble_eq_true rfl) dX7_team_4) hcut hP hD hS hA (fun r_3 u_1 H locs w_2 hP hD hS => ?_)
  have hP : va_P (sx_D G) vwCl [(h, .inr (9, [.ref b, .ref pl, .ref cr, .ref te, .ref ca])), (te, .inr (8, [.int 0, .ref t1, .ref t2, .ref t3])), (t1, .inl (G.2.1, 4, .inl (fun _ => 0)))] H := hP
  have hD : va_D A [(h, .inr (9, [.ref b, .ref pl, .ref cr, .ref te, .ref ca])), (te, .inr (8, [.int 0, .ref t1, .ref t2, .ref t3])), (t1, .inl (G.2.1, 4, .inl (fun _ => 0)))] := hD
  have w_2 : r_3 = zb (zw 0 100 p0) := w_2
  have hcut : sx_cut [(h, .inr (9, [.ref b, .ref pl, .ref cr, .ref te, .ref ca])), (te, .inr (8, [.int 0, .ref t1, .ref t2, .ref t3])), (t1, .inl (G.2.1, 4, .inl (fun _ => 0)))] [] [(h, .inr (9, [.ref b, .ref pl, .ref cr, .ref te, .ref ca])), (te, .inr (8, [.int 0, .ref t1, .ref t2, .ref t3])), (t1, .inl (G.2.1, 4, .inl (fun _ => 0)))] [] [0, 1, 2] := ⟨rfl, rfl, by decide, by decide, by decide⟩
  refine sx_xkv (sx_xrunS (As := [.int r_3]) (rest := []) F (m_X7_needArgument l hfl G H.size r_3) mi_X7_needArgument q371 q370 ⟨⟨Nat.le_of_ble_eq_true rfl, Nat.le_of_ble_eq_true rfl⟩, Nat.le_of_ble_eq_true rfl, Nat.le_of_ble_eq_true rfl⟩ hcut hP hD hS rfl hl.1 rfl (Nat.le_of_ble_eq_true rfl) dX7_team_7) hcut hP hD hS hA (fun E ce q9 H locs hw9 hP hD hS hce hcv hcl => ?_) (fun u_4 H locs w_5 hP hD hS => ?_)
  · have hP : va_P (sx_D G) vwCl [(h, .inr (9, [.ref b, .ref pl, .ref cr, .ref te, .ref ca])), (te, .inr (8, [.int 0, .ref t1, .ref t2, .ref t3])), (t1, .inl (G.2.1, 4, .inl (fun _ => 0)))] H := hP
    have hD : va_D A [(h, .inr (9, [.ref b, .ref pl, .ref cr, .ref te, .ref ca])), (te, .inr (8, [.int 0, .ref t1, .ref t2, .ref t3])), (t1, .inl (G.2.1, 4, .inl (fun _ => 0)))] := hD
    exact sx_out (rest := []) hex hlk hce hcv hcl ⟨hw9.1, z1_1 (zb_f w_2 hw9.2)⟩ hS rfl rfl
  · have hP : va_P (sx_D G) vwCl [(h, .inr (9, [.ref b, .ref pl, .ref cr, .ref te, .ref ca])), (te, .inr (8, [.int 0, .ref t1, .ref t2, .ref t3])), (t1, .inl (G.2.1, 4, .inl (fun _ => 0)))] H := hP
    have hD : va_D A [(h, .inr (9, [.ref b, .ref pl, .ref cr, .ref te, .ref ca])), (te, .inr (8, [.int 0, .ref t1, .ref t2, .ref t3])), (t1, .inl (G.2.1, 4, .inl (fun _ => 0)))] := hD
    refine lv_aload_n hx hb dX7_team_10 rfl (lv_at hl 0 rfl) ?_
    refine va_get (D := sx_D G) (ci := 9) (v := .ref te) (C := RX7) (T := TX7) (N := 5) hx hb hts inX7 hown hK hP 0 rfl rfl 3 (by decide) (hts _ q336) (fun _ h9 => h9) rfl dX7_team_11 ?_
    refine va_getN (D := sx_D G) (ci := 8) (v := .int 0) (C := RX6) (T := TX6) (N := 4) hx hb hts inX6 hown hK hP 1 rfl rfl 0 (by decide) (hts _ q149) (fun _ h9 => h9) rfl dX7_team_14 ?_
    refine lv_iconst (v := 4) hx hb dX7_team_17 (by decide) ?_
    refine lv_icmp_ge (tgt := 25) hx hb dX7_team_18 (by decide) (fun c_7 => absurd c_7 (by decide)) (fun c_7 => ?_)
    refine lv_iconst (v := 1) hx hb dX7_team_21 (by decide) ?_
    refine lv_goto (tgt := 26) hx hb dX7_team_22 (by decide) ?_
    have hcut : sx_cut [(h, .inr (9, [.ref b, .ref pl, .ref cr, .ref te, .ref ca])), (te, .inr (8, [.int 0, .ref t1, .ref t2, .ref t3])), (t1, .inl (G.2.1, 4, .inl (fun _ => 0)))] [] [(h, .inr (9, [.ref b, .ref pl, .ref cr, .ref te, .ref ca])), (te, .inr (8, [.int 0, .ref t1, .ref t2, .ref t3])), (t1, .inl (G.2.1, 4, .inl (fun _ => 0)))] [] [0, 1, 2] := ⟨rfl, rfl, by decide, by decide, by decide⟩
    refine sx_xkv (sx_xrunS (As := [.int 1]) (rest := []) F (m_X7_needState l hfl G H.size 1) mi_X7_needState q676 q675 ⟨⟨Nat.le_of_ble_eq_true rfl, Nat.le_of_ble_eq_true rfl⟩, Nat.le_of_ble_eq_true rfl, Nat.le_of_ble_eq_true rfl⟩ hcut hP hD hS rfl hl.1 rfl (Nat.le_of_ble_eq_true rfl) dX7_team_26) hcut hP hD hS hA (fun E ce q9 H locs hw9 hP hD hS hce hcv hcl => ?_) (fun u_8 H locs w_9 hP hD hS => ?_)
    · have hP : va_P (sx_D G) vwCl [(h, .inr (9, [.ref b, .ref pl, .ref cr, .ref te, .ref ca])), (te, .inr (8, [.int 0, .ref t1, .ref t2, .ref t3])), (t1, .inl (G.2.1, 4, .inl (fun _ => 0)))] H := hP
      have hD : va_D A [(h, .inr (9, [.ref b, .ref pl, .ref cr, .ref te, .ref ca])), (te, .inr (8, [.int 0, .ref t1, .ref t2, .ref t3])), (t1, .inl (G.2.1, 4, .inl (fun _ => 0)))] := hD
      exact sx_out (rest := []) hex hlk hce hcv hcl (absurd hw9.2 (by decide)) hS rfl rfl
    · have hP : va_P (sx_D G) vwCl [(h, .inr (9, [.ref b, .ref pl, .ref cr, .ref te, .ref ca])), (te, .inr (8, [.int 0, .ref t1, .ref t2, .ref t3])), (t1, .inl (G.2.1, 4, .inl (fun _ => 0)))] H := hP
      have hD : va_D A [(h, .inr (9, [.ref b, .ref pl, .ref cr, .ref te, .ref ca])), (te, .inr (8, [.int 0, .ref t1, .ref t2, .ref t3])), (t1, .inl (G.2.1, 4, .inl (fun _ => 0)))] := hD
      refine lv_aload_n hx hb dX7_team_29 rfl (lv_at hl 0 rfl) ?_
      refine va_get (D := sx_D G) (ci := 9) (v := .ref te) (C := RX7) (T := TX7) (N := 5) hx hb hts inX7 hown hK hP 0 rfl rfl 3 (by decide) (hts _ q336) (fun _ h9 => h9) rfl dX7_team_30 ?_
      refine va_getN (D := sx_D G) (ci := 8) (v := .int 0) (C := RX6) (T := TX6) (N := 4) hx hb hts inX6 hown hK hP 1 rfl rfl 0 (by decide) (hts _ q149) (fun _ h9 => h9) rfl dX7_team_33 ?_
      refine lv_istore_n (lv' := [(2, .int 0), (0, .ref h), (1, .int p0)]) hx hb dX7_team_36 rfl hl (by decide) rfl (fun ls hl => ?_)
      refine lv_aload_n hx hb dX7_team_37 rfl (lv_at hl 1 rfl) ?_
      refine va_get (D := sx_D G) (ci := 9) (v := .ref te) (C := RX7) (T := TX7) (N := 5) hx hb hts inX7 hown hK hP 0 rfl rfl 3 (by decide) (hts _ q336) (fun _ h9 => h9) rfl dX7_team_38 ?_
      refine va_getN (D := sx_D G) (ci := 8) (v := .ref t1) (C := RX6) (T := TX6) (N := 4) hx hb hts inX6 hown hK hP 1 rfl rfl 1 (by decide) (hts _ q153) (fun _ h9 => h9) rfl dX7_team_41 ?_
      refine lv_iload_n hx hb dX7_team_44 rfl (lv_at hl 0 rfl) ?_
      refine lv_iload_n hx hb dX7_team_45 rfl (lv_at hl 2 rfl) ?_
      refine va_iast (D := sx_D G) (tys := sx_tys G) hx hb hK hP hD hS 2 0 rfl rfl (vp_in_iff.mpr (by decide)) dX7_team_46 (fun H locs hP hD hS => ?_)
      have hP : va_P (sx_D G) vwCl [(h, .inr (9, [.ref b, .ref pl, .ref cr, .ref te, .ref ca])), (te, .inr (8, [.int 0, .ref t1, .ref t2, .ref t3])), (t1, .inl (G.2.1, 4, .inl (upd (fun _ => 0) (0 : Int32).toNatClampNeg p0)))] H := hP
      have hD : va_D A [(h, .inr (9, [.ref b, .ref pl, .ref cr, .ref te, .ref ca])), (te, .inr (8, [.int 0, .ref t1, .ref t2, .ref t3])), (t1, .inl (G.2.1, 4, .inl (upd (fun _ => 0) (0 : Int32).toNatClampNeg p0)))] := hD
      refine lv_aload_n hx hb dX7_team_47 rfl (lv_at hl 1 rfl) ?_
      refine va_get (D := sx_D G) (ci := 9) (v := .ref te) (C := RX7) (T := TX7) (N := 5) hx hb hts inX7 hown hK hP 0 rfl rfl 3 (by decide) (hts _ q336) (fun _ h9 => h9) rfl dX7_team_48 ?_
      refine lv_dup hx hb dX7_team_51 rfl ?_
      refine va_getN (D := sx_D G) (ci := 8) (v := .int 0) (C := RX6) (T := TX6) (N := 4) hx hb hts inX6 hown hK hP 1 rfl rfl 0 (by decide) (hts _ q149) (fun _ h9 => h9) rfl dX7_team_52 ?_
      refine lv_iconst (v := 1) hx hb dX7_team_55 (by decide) ?_
      refine lv_iadd hx hb dX7_team_56 ?_
      refine lv_topi (fun x_11 ex_11 => ?_)
      have ex_11 : x_11 = (1 : Int32) := ex_11.trans (by decide)
      subst ex_11
      refine va_putN (D := sx_D G) (ci := 8) (v := .int 1) (ty := tyX6 0) (C := RX6) (T := TX6) (N := 4) hx hb hts inX6 tyX6 tyX6_ok nmX6 hown hK hP hD hS 1 rfl rfl 0 (by decide) (hts _ q149) (fun _ h9 => h9) rfl (by decide +kernel) rfl rfl (Nat.le_of_ble_eq_true rfl) dX7_team_57 (fun H locs hP hD hS => ?_)
      have hP : va_P (sx_D G) vwCl [(h, .inr (9, [.ref b, .ref pl, .ref cr, .ref te, .ref ca])), (te, .inr (8, [.int 1, .ref t1, .ref t2, .ref t3])), (t1, .inl (G.2.1, 4, .inl (upd (fun _ => 0) (0 : Int32).toNatClampNeg p0)))] H := hP
      have hD : va_D A [(h, .inr (9, [.ref b, .ref pl, .ref cr, .ref te, .ref ca])), (te, .inr (8, [.int 1, .ref t1, .ref t2, .ref t3])), (t1, .inl (G.2.1, 4, .inl (upd (fun _ => 0) (0 : Int32).toNatClampNeg p0)))] := hD
      refine lv_iload_n hx hb dX7_team_60 rfl (lv_at hl 0 rfl) ?_
      have hP := hP.sub (ws' := []) [] rfl
      have hD := hD.sub (ws' := []) [] (by decide) rfl
      exact vx_ret (sx_iret (v := 0) () hx hb hr rfl hlk hP hD hS ⟨rfl, z1_0 (zb_t w_2 w_5)⟩ dX7_team_61 rfl rfl)
set_option maxHeartbeats 4000000 in
set_option maxRecDepth 100000 in
theorem m_X7_check (l : Launch) (hfl : l.stackTraces = false) (G : sx_G) (sz : Nat) (h : Nat) (b : Nat) (pl : Nat) (cr : Nat) (te : Nat) (ca : Nat) (g0 : Nat) (s0 : Nat) (p0 : Int32) : sx_MetX l yX7_check cX7_check 3 (some .int) 7 102 1 6 G [.ref h, .int p0] [(h, .inr (9, [.ref b, .ref pl, .ref cr, .ref te, .ref ca])), (b, .inr (2, [.ref pl, .ref cr, .ref te, .ref ca, .ref g0, .ref s0, .int 0, .int 0, .int 0]))] sz (sx_Qi G (fun (r : Int32) (u : Unit) => r = 0 ∧ z1 (zw 0 9 p0) = 0) (fun (u : Unit) => [])) (fun E => E = "java/lang/IllegalArgumentException" ∧ z1 (zw 0 9 p0) = 1) := by
  refine sx_startX (by decide) rfl (fun p e s m below meth c A ls F hr hlk hnm hex hP hD hS hl => ?_)
  obtain ⟨hx, hb, hml, hown, hts, hK, hE, hA⟩ := id F
  have hown : s.vm.findClass RX7 = some m.cls := hown
  generalize hHe : s.heap = H at hP
  have hS : va_S A s.heap H [] := by rw [← hHe]; exact va_S.rf
  have hl : lv_has ls 3 [(0, .ref h), (1, .int p0)] := hl
  refine lv_iload_n hx hb dX7_check_0 rfl (lv_at hl 1 rfl) ?_
  refine lv_iconst (v := 0) hx hb dX7_check_1 (by decide) ?_
  refine lv_bipush (v := 9) hx hb dX7_check_2 (by decide) ?_
  have hcut : sx_cut [(h, .inr (9, [.ref b, .ref pl, .ref cr, .ref te, .ref ca])), (b, .inr (2, [.ref pl, .ref cr, .ref te, .ref ca, .ref g0, .ref s0, .int 0, .int 0, .int 0]))] [] [(h, .inr (9, [.ref b, .ref pl, .ref cr, .ref te, .ref ca])), (b, .inr (2, [.ref pl, .ref cr, .ref te, .ref ca, .ref g0, .ref s0, .int 0, .int 0, .int 0]))] [] [0, 1] := ⟨rfl, rfl, by decide, by decide, by decide⟩
  refine sx_ki (sx_runS (As := [.int p0, .int 0, .int 9]) (rest := []) F (m_X7_isWithin l G H.size p0 0 9) mi_X7_isWithin q368 q367 ⟨⟨Nat.le_of_ble_eq_true rfl, Nat.le_of_ble_eq_true rfl⟩, Nat.le_of_ble_eq_true rfl, Nat.le_of_ble_eq_true rfl⟩ hcut hP hD hS rfl hl.1 rfl (Nat.le_of_ble_eq_true rfl) dX7_check_4) hcut hP hD hS hA (fun r_3 u_1 H locs w_2 hP hD hS => ?_)
  have hP : va_P (sx_D G) vwCl [(h, .inr (9, [.ref b, .ref pl, .ref cr, .ref te, .ref ca])), (b, .inr (2, [.ref pl, .ref cr, .ref te, .ref ca, .ref g0, .ref s0, .int 0, .int 0, .int 0]))] H := hP
  have hD : va_D A [(h, .inr (9, [.ref b, .ref pl, .ref cr, .ref te, .ref ca])), (b, .inr (2, [.ref pl, .ref cr, .ref te, .ref ca, .ref g0, .ref s0, .int 0, .int 0, .int 0]))] := hD
  have w_2 : r_3 = zb (zw 0 9 p0) := w_2
  have hcut : sx_cut [(h, .inr (9, [.ref b, .ref pl, .ref cr, .ref te, .ref ca])), (b, .inr (2, [.ref pl, .ref cr, .ref te, .ref ca, .ref g0, .ref s0, .int 0, .int 0, .int 0]))] [] [(h, .inr (9, [.ref b, .ref pl, .ref cr, .ref te, .ref ca])), (b, .inr (2, [.ref pl, .ref cr, .ref te, .ref ca, .ref g0, .ref s0, .int 0, .int 0, .int 0]))] [] [0, 1] := ⟨rfl, rfl, by decide, by decide, by decide⟩
  refine sx_xkv (sx_xrunS (As := [.int r_3]) (rest := []) F (m_X7_needArgument l hfl G H.size r_3) mi_X7_needArgument q371 q370 ⟨⟨Nat.le_of_ble_eq_true rfl, Nat.le_of_ble_eq_true rfl⟩, Nat.le_of_ble_eq_true rfl, Nat.le_of_ble_eq_true rfl⟩ hcut hP hD hS rfl hl.1 rfl (Nat.le_of_ble_eq_true rfl) dX7_check_7) hcut hP hD hS hA (fun E ce q9 H locs hw9 hP hD hS hce hcv hcl => ?_) (fun u_4 H locs w_5 hP hD hS => ?_)
  · have hP : va_P (sx_D G) vwCl [(h, .inr (9, [.ref b, .ref pl, .ref cr, .ref te, .ref ca])), (b, .inr (2, [.ref pl, .ref cr, .ref te, .ref ca, .ref g0, .ref s0, .int 0, .int 0, .int 0]))] H := hP
    have hD : va_D A [(h, .inr (9, [.ref b, .ref pl, .ref cr, .ref te, .ref ca])), (b, .inr (2, [.ref pl, .ref cr, .ref te, .ref ca, .ref g0, .ref s0, .int 0, .int 0, .int 0]))] := hD
    exact sx_out (rest := []) hex hlk hce hcv hcl ⟨hw9.1, z1_1 (zb_f w_2 hw9.2)⟩ hS rfl rfl
  · have hP : va_P (sx_D G) vwCl [(h, .inr (9, [.ref b, .ref pl, .ref cr, .ref te, .ref ca])), (b, .inr (2, [.ref pl, .ref cr, .ref te, .ref ca, .ref g0, .ref s0, .int 0, .int 0, .int 0]))] H := hP
    have hD : va_D A [(h, .inr (9, [.ref b, .ref pl, .ref cr, .ref te, .ref ca])), (b, .inr (2, [.ref pl, .ref cr, .ref te, .ref ca, .ref g0, .ref s0, .int 0, .int 0, .int 0]))] := hD
    refine lv_aload_n hx hb dX7_check_10 rfl (lv_at hl 0 rfl) ?_
    refine va_get (D := sx_D G) (ci := 9) (v := .ref b) (C := RX7) (T := TX7) (N := 5) hx hb hts inX7 hown hK hP 0 rfl rfl 0 (by decide) (hts _ q333) (fun _ h9 => h9) rfl dX7_check_11 ?_
    refine va_getN (D := sx_D G) (ci := 2) (v := .int 0) (C := RX0) (T := TX0) (N := 9) hx hb hts inX0 hown hK hP 1 rfl rfl 6 (by decide) (hts _ q311) (fun _ h9 => h9) rfl dX7_check_14 ?_
    refine lv_istore_n (lv' := [(2, .int 0), (0, .ref h), (1, .int p0)]) hx hb dX7_check_17 rfl hl (by decide) rfl (fun ls hl => ?_)
    refine lv_aload_n hx hb dX7_check_18 rfl (lv_at hl 1 rfl) ?_
    refine va_get (D := sx_D G) (ci := 9) (v := .ref b) (C := RX7) (T := TX7) (N := 5) hx hb hts inX7 hown hK hP 0 rfl rfl 0 (by decide) (hts _ q333) (fun _ h9 => h9) rfl dX7_check_19 ?_
    refine lv_iload_n hx hb dX7_check_22 rfl (lv_at hl 2 rfl) ?_
    refine va_putN (D := sx_D G) (ci := 2) (v := .int p0) (ty := tyX0 6) (C := RX0) (T := TX0) (N := 9) hx hb hts inX0 tyX0 tyX0_ok nmX0 hown hK hP hD hS 1 rfl rfl 6 (by decide) (hts _ q311) (fun _ h9 => h9) rfl (by decide +kernel) rfl rfl (Nat.le_of_ble_eq_true rfl) dX7_check_23 (fun H locs hP hD hS => ?_)
    have hP : va_P (sx_D G) vwCl [(h, .inr (9, [.ref b, .ref pl, .ref cr, .ref te, .ref ca])), (b, .inr (2, [.ref pl, .ref cr, .ref te, .ref ca, .ref g0, .ref s0, .int p0, .int 0, .int 0]))] H := hP
    have hD : va_D A [(h, .inr (9, [.ref b, .ref pl, .ref cr, .ref te, .ref ca])), (b, .inr (2, [.ref pl, .ref cr, .ref te, .ref ca, .ref g0, .ref s0, .int p0, .int 0, .int 0]))] := hD
    refine lv_iload_n hx hb dX7_check_26 rfl (lv_at hl 0 rfl) ?_
    have hP := hP.sub (ws' := []) [] rfl
    have hD := hD.sub (ws' := []) [] (by decide) rfl
    exact vx_ret (sx_iret (v := 0) () hx hb hr rfl hlk hP hD hS ⟨rfl, z1_0 (zb_t w_2 w_5)⟩ dX7_check_27 rfl rfl)
